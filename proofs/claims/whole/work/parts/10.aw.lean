/-! The state of the system: the class's numbers and rows, the reference's, the law's own cell. -/
abbrev RWs : Type := (Nat → Int32) × Int32 × Int32 × Int32
abbrev CS : Type := (Nat → (Nat → Int32) × Int32) × ((Nat → Int32) × Int32 × Int32 × Int32) × (Int32 × Int32 × Int32 × Int32 × Int32 × Int32 × Int32 × Int32) × (Int64 × Int32) × (Nat → RWs) × Int64 × Int32
abbrev MS : Type := (Nat → Nat → Int32) × (Nat → Int32) × (Nat → Int64)
abbrev SS : Type := CS × MS × (Nat → Int64)
def fup {α : Type} (f : Nat → α) (k : Nat) (x : α) : Nat → α := fun j => if j = k then x else f j
abbrev vI (i : Int32) (N : Nat) : Prop := 0 ≤ i.toInt ∧ i.toInt < (N : Int)
def lt {α β : Type} (a : α) (f : α → β) : β := f a
theorem lt_r {α β : Type} {v a : α} {f : α → β} {r : β} (hv : v = a) (h : lt a f = r) : f v = r := by subst hv; exact h
theorem it_p {α : Type} {c : Prop} [Decidable c] {a b r : α} (hc : c) (h : (if c then a else b) = r) : a = r := by rw [if_pos hc] at h; exact h
theorem it_n {α : Type} {c : Prop} [Decidable c] {a b r : α} (hc : ¬ c) (h : (if c then a else b) = r) : b = r := by rw [if_neg hc] at h; exact h
theorem it_o {α : Type} {c : Prop} [Decidable c] {a : Option α} {r : α} (h : (if c then a else none) = some r) : c ∧ a = some r := by
  by_cases hc : c
  · rw [if_pos hc] at h; exact ⟨hc, h⟩
  · rw [if_neg hc] at h; cases h
theorem bd_o {α β : Type} {a : Option α} {f : α → Option β} {r : β} (h : a.bind f = some r) : ∃ x, a = some x ∧ f x = some r := Option.bind_eq_some_iff.mp h
def brB (c : CS) (t : Nat) : Nat → Int32 := (c.1 t).1
def brN (c : CS) (t : Nat) : Int32 := (c.1 t).2
def sbrB (c : CS) (t : Nat) (v : Nat → Int32) : CS := (fup c.1 t (v, (c.1 t).2), c.2)
def sbrN (c : CS) (t : Nat) (v : Int32) : CS := (fup c.1 t ((c.1 t).1, v), c.2)
def dcD (c : CS) : Nat → Int32 := c.2.1.1
def sdcD (c : CS) (v : Nat → Int32) : CS := (c.1, (v, c.2.1.2), c.2.2)
def dcM (c : CS) : Int32 := c.2.1.2.1
def sdcM (c : CS) (v : Int32) : CS := (c.1, (c.2.1.1, v, c.2.1.2.2), c.2.2)
def dcC (c : CS) : Int32 := c.2.1.2.2.1
def sdcC (c : CS) (v : Int32) : CS := (c.1, (c.2.1.1, c.2.1.2.1, v, c.2.1.2.2.2), c.2.2)
def dcP (c : CS) : Int32 := c.2.1.2.2.2
def sdcP (c : CS) (v : Int32) : CS := (c.1, (c.2.1.1, c.2.1.2.1, c.2.1.2.2.1, v), c.2.2)
def sc0 (c : CS) : Int32 := c.2.2.1.1
def ssc0 (c : CS) (v : Int32) : CS := (c.1, c.2.1, (v, c.2.2.1.2), c.2.2.2)
def sc1 (c : CS) : Int32 := c.2.2.1.2.1
def ssc1 (c : CS) (v : Int32) : CS := (c.1, c.2.1, (c.2.2.1.1, v, c.2.2.1.2.2), c.2.2.2)
def sc2 (c : CS) : Int32 := c.2.2.1.2.2.1
def ssc2 (c : CS) (v : Int32) : CS := (c.1, c.2.1, (c.2.2.1.1, c.2.2.1.2.1, v, c.2.2.1.2.2.2), c.2.2.2)
def sc3 (c : CS) : Int32 := c.2.2.1.2.2.2.1
def ssc3 (c : CS) (v : Int32) : CS := (c.1, c.2.1, (c.2.2.1.1, c.2.2.1.2.1, c.2.2.1.2.2.1, v, c.2.2.1.2.2.2.2), c.2.2.2)
def sc4 (c : CS) : Int32 := c.2.2.1.2.2.2.2.1
def ssc4 (c : CS) (v : Int32) : CS := (c.1, c.2.1, (c.2.2.1.1, c.2.2.1.2.1, c.2.2.1.2.2.1, c.2.2.1.2.2.2.1, v, c.2.2.1.2.2.2.2.2), c.2.2.2)
def sc5 (c : CS) : Int32 := c.2.2.1.2.2.2.2.2.1
def ssc5 (c : CS) (v : Int32) : CS := (c.1, c.2.1, (c.2.2.1.1, c.2.2.1.2.1, c.2.2.1.2.2.1, c.2.2.1.2.2.2.1, c.2.2.1.2.2.2.2.1, v, c.2.2.1.2.2.2.2.2.2), c.2.2.2)
def sc6 (c : CS) : Int32 := c.2.2.1.2.2.2.2.2.2.1
def ssc6 (c : CS) (v : Int32) : CS := (c.1, c.2.1, (c.2.2.1.1, c.2.2.1.2.1, c.2.2.1.2.2.1, c.2.2.1.2.2.2.1, c.2.2.1.2.2.2.2.1, c.2.2.1.2.2.2.2.2.1, v, c.2.2.1.2.2.2.2.2.2.2), c.2.2.2)
def sc7 (c : CS) : Int32 := c.2.2.1.2.2.2.2.2.2.2
def ssc7 (c : CS) (v : Int32) : CS := (c.1, c.2.1, (c.2.2.1.1, c.2.2.1.2.1, c.2.2.1.2.2.1, c.2.2.1.2.2.2.1, c.2.2.1.2.2.2.2.1, c.2.2.1.2.2.2.2.2.1, c.2.2.1.2.2.2.2.2.2.1, v), c.2.2.2)
def rdP (c : CS) : Int64 := c.2.2.2.1.1
def srdP (c : CS) (v : Int64) : CS := (c.1, c.2.1, c.2.2.1, (v, c.2.2.2.1.2), c.2.2.2.2)
def rdF (c : CS) : Int32 := c.2.2.2.1.2
def srdF (c : CS) (v : Int32) : CS := (c.1, c.2.1, c.2.2.1, (c.2.2.2.1.1, v), c.2.2.2.2)
def rws (c : CS) (k : Nat) : RWs := c.2.2.2.2.1 k
def srws (c : CS) (k : Nat) (r : RWs) : CS := (c.1, c.2.1, c.2.2.1, c.2.2.2.1, fup c.2.2.2.2.1 k r, c.2.2.2.2.2)
def rwL (c : CS) (k : Nat) : Nat → Int32 := (rws c k).1
def srwL (c : CS) (k : Nat) (v : Nat → Int32) : CS := srws c k (v, (rws c k).2)
def rwF (c : CS) (k : Nat) : Int32 := (rws c k).2.1
def srwF (c : CS) (k : Nat) (v : Int32) : CS := srws c k ((rws c k).1, v, (rws c k).2.2)
def rwE (c : CS) (k : Nat) : Int32 := (rws c k).2.2.1
def srwE (c : CS) (k : Nat) (v : Int32) : CS := srws c k ((rws c k).1, (rws c k).2.1, v, (rws c k).2.2.2)
def rwX (c : CS) (k : Nat) : Int32 := (rws c k).2.2.2
def srwX (c : CS) (k : Nat) (v : Int32) : CS := srws c k ((rws c k).1, (rws c k).2.1, (rws c k).2.2.1, v)
def rsP (c : CS) : Int64 := c.2.2.2.2.2.1
def rsF (c : CS) : Int32 := c.2.2.2.2.2.2
def srsP (c : CS) (v : Int64) : CS := (c.1, c.2.1, c.2.2.1, c.2.2.2.1, c.2.2.2.2.1, v, c.2.2.2.2.2.2)
def srsF (c : CS) (v : Int32) : CS := (c.1, c.2.1, c.2.2.1, c.2.2.2.1, c.2.2.2.2.1, c.2.2.2.2.2.1, v)
def mA (m : MS) (j : Nat) : Nat → Int32 := m.1 j
def mI (m : MS) (i : Nat) : Int32 := m.2.1 i
def mJ (m : MS) (i : Nat) : Int64 := m.2.2 i
def smA (m : MS) (j : Nat) (v : Nat → Int32) : MS := (fup m.1 j v, m.2)
def smI (m : MS) (i : Nat) (v : Int32) : MS := (m.1, fup m.2.1 i v, m.2.2)
def smJ (m : MS) (i : Nat) (v : Int64) : MS := (m.1, m.2.1, fup m.2.2 i v)
def brLen (t : Nat) : Nat := if t = 0 then 1600 else 1500
def mLen (j : Nat) : Nat := if j = 3 ∨ j = 4 ∨ j = 5 then 320 else 1600
/-! The picture: addresses by number. 0 the object, 1 3 its byte rows, 5 the decimal, 7 the scan, 8 the rounding, 9 11 13 15 the rows, 17 the reference, 26 the law's cell; an array behind its owner; 30 .. 33 the formats, 34 their table, 35 the tens, 40 + j a constant text, 70 + j its bytes. -/
abbrev Wc : Type := va_G × (Nat → ClassId) × (Nat → Nat) × Nat
abbrev wA (w : Wc) : Nat → Prop := fun q => w.2.2.2 ≤ q
abbrev wad (w : Wc) : Nat → Nat := w.2.2.1
abbrev wty (w : Wc) : List (ClassId × FieldType) := [(w.2.1 0, .byte), (w.2.1 1, .int), (w.2.1 2, .long)]
def wlc (w : Wc) (c : CS) (m : MS) (z : Nat → Int64) : va_W := [(wad w 0, .inr (5, [.ref (wad w 1), .ref (wad w 3), .ref (wad w 5), .ref (wad w 7), .ref (wad w 8), .ref (wad w 9), .ref (wad w 11), .ref (wad w 13), .ref (wad w 15), .long (rsP c), .int (rsF c)])),
  (wad w 1, .inr (0, [.ref (wad w 2), .int (brN c 0)])),
  (wad w 2, .inl (w.2.1 0, brLen 0, .inl (brB c 0))),
  (wad w 3, .inr (0, [.ref (wad w 4), .int (brN c 1)])),
  (wad w 4, .inl (w.2.1 0, brLen 1, .inl (brB c 1))),
  (wad w 5, .inr (1, [.ref (wad w 6), .int (dcM c), .int (dcC c), .int (dcP c)])),
  (wad w 6, .inl (w.2.1 0, 1420, .inl (dcD c))),
  (wad w 7, .inr (4, [.int (sc0 c), .int (sc1 c), .int (sc2 c), .int (sc3 c), .int (sc4 c), .int (sc5 c), .int (sc6 c), .int (sc7 c)])),
  (wad w 8, .inr (2, [.long (rdP c), .int (rdF c)])),
  (wad w 9, .inr (3, [.ref (wad w 10), .int (rwF c 0), .int (rwE c 0), .int (rwX c 0)])),
  (wad w 10, .inl (w.2.1 1, 156, .inl (rwL c 0))),
  (wad w 11, .inr (3, [.ref (wad w 12), .int (rwF c 1), .int (rwE c 1), .int (rwX c 1)])),
  (wad w 12, .inl (w.2.1 1, 156, .inl (rwL c 1))),
  (wad w 13, .inr (3, [.ref (wad w 14), .int (rwF c 2), .int (rwE c 2), .int (rwX c 2)])),
  (wad w 14, .inl (w.2.1 1, 156, .inl (rwL c 2))),
  (wad w 15, .inr (3, [.ref (wad w 16), .int (rwF c 3), .int (rwE c 3), .int (rwX c 3)])),
  (wad w 16, .inl (w.2.1 1, 156, .inl (rwL c 3))),
  (wad w 17, .inr (6, [.int (mI m 0), .ref (wad w 18), .int (mI m 1), .ref (wad w 19), .int (mI m 2), .ref (wad w 20), .int (mI m 3), .int (mI m 4), .int (mI m 5), .long (mJ m 0), .int (mI m 6), .ref (wad w 21), .ref (wad w 22), .ref (wad w 23), .long (mJ m 1), .int (mI m 7), .ref (wad w 24), .int (mI m 8), .int (mI m 9), .ref (wad w 25), .int (mI m 10), .long (mJ m 2), .int (mI m 11), .int (mI m 12), .int (mI m 13)])),
  (wad w 18, .inl (w.2.1 1, mLen 0, .inl (mA m 0))),
  (wad w 19, .inl (w.2.1 1, mLen 1, .inl (mA m 1))),
  (wad w 20, .inl (w.2.1 1, mLen 2, .inl (mA m 2))),
  (wad w 21, .inl (w.2.1 1, mLen 3, .inl (mA m 3))),
  (wad w 22, .inl (w.2.1 1, mLen 4, .inl (mA m 4))),
  (wad w 23, .inl (w.2.1 1, mLen 5, .inl (mA m 5))),
  (wad w 24, .inl (w.2.1 1, mLen 6, .inl (mA m 6))),
  (wad w 25, .inl (w.2.1 1, mLen 7, .inl (mA m 7))),
  (wad w 26, .inl (w.2.1 2, 1, .inr (.inl z)))]
def wl (w : Wc) (σ : SS) : va_W := wlc w σ.1 σ.2.1 σ.2.2
def Pq (w : Wc) (σ : SS) (H : Heap) : Prop := va_P w.1 vwCl (wl w σ) H ∧ va_D (wA w) (wl w σ)
theorem gws_of {c : Cond} (i : Nat) (h : lw_tbl[i]? = some c) (hg : goodWord c = true) : c ∈ gws := List.mem_filter.mpr ⟨List.mem_of_getElem? h, hg⟩
def fW (k : Nat) : Int32 := if k = 0 then 64 else if k = 1 then 32 else 16
def fP (k : Nat) : Int32 := if k = 0 then 53 else if k = 1 then 24 else if k = 2 then 11 else 8
def fE (k : Nat) : Int32 := if k = 0 then 1023 else if k = 2 then 15 else 127
def tnV (k : Nat) : Int32 := if k = 0 then 1 else if k = 1 then 10 else if k = 2 then 100 else if k = 3 then 1000 else if k = 4 then 10000 else if k = 5 then 100000 else if k = 6 then 1000000 else if k = 7 then 10000000 else 100000000
/-- the constant texts: their lengths and bytes (the place in the list is the text's number) -/
def sxL : List (List Int32) := [[110, 32, 105, 115, 32, 110, 111, 116, 32, 48, 32, 46, 46, 32, 56], [102, 111, 114, 109, 97, 116, 32, 105, 115, 32, 110, 111, 116, 32, 48, 32, 46, 46, 32, 51], [119, 97, 121, 32, 105, 115, 32, 110, 111, 116, 32, 48, 32, 46, 46, 32, 52], [110, 97, 110], [105, 110, 102, 105, 110, 105, 116, 121], [116, 104, 101, 32, 112, 97, 116, 116, 101, 114, 110, 32, 104, 97, 115, 32, 111, 116, 104, 101, 114, 32, 98, 105, 116, 115], [102, 111, 114, 109, 32, 105, 115, 32, 110, 111, 116, 32, 48, 32, 46, 46, 32, 50], [110, 97, 110], [105, 110, 102], [48, 46], [110, 101, 105, 116, 104, 101, 114, 32, 105, 110, 102, 32, 110, 111, 114, 32, 110, 97, 110, 32, 109, 97, 121, 32, 98, 101, 32, 104, 101, 114, 101], [110, 32, 105, 115, 32, 110, 111, 116, 32, 49, 32, 46, 46, 32, 56, 48, 48], [110, 32, 105, 115, 32, 110, 111, 116, 32, 48, 32, 46, 46, 32, 49, 49, 48, 48], [48, 120, 48, 112, 48], [48, 120, 49], [110, 111, 32, 115, 117, 99, 104, 32, 98, 121, 116, 101], [119, 104, 97, 116, 32, 105, 115, 32, 110, 111, 116, 32, 48, 32, 46, 46, 32, 50], [110, 111, 32, 115, 117, 99, 104, 32, 100, 105, 103, 105, 116], [101, 32, 105, 115, 32, 110, 111, 116, 32, 45, 53, 48, 48, 48, 32, 46, 46, 32, 53, 48, 48, 48], [97, 32, 110, 97, 110, 32, 104, 97, 115, 32, 110, 111, 32, 115, 116, 101, 112, 115], [97, 32, 122, 101, 114, 111, 32, 104, 97, 115, 32, 110, 111, 32, 115, 117, 99, 104, 32, 100, 101, 99, 105, 109, 97, 108, 115], [110, 97, 110], [105, 110, 102], [105, 110, 102, 105, 110, 105, 116, 121], [48, 46], [48, 120, 48, 112, 48], [48, 120, 49]]
def sxR : List (String × Nat × String) := [("FloatTexts", 68, "n is not 0 .. 8"), ("FloatTexts", 287, "format is not 0 .. 3"), ("FloatTexts", 296, "way is not 0 .. 4"), ("FloatTexts$Scan", 50, "nan"), ("FloatTexts$Scan", 56, "infinity"), ("FloatTexts", 292, "the pattern has other bits"), ("FloatTexts", 298, "form is not 0 .. 2"), ("FloatTexts", 415, "nan"), ("FloatTexts", 417, "inf"), ("FloatTexts$ByteRow", 57, "0."), ("FloatTexts", 294, "neither inf nor nan may be here"), ("FloatTexts", 155, "n is not 1 .. 800"), ("FloatTexts", 164, "n is not 0 .. 1100"), ("FloatTexts$ByteRow", 63, "0x0p0"), ("FloatTexts$ByteRow", 71, "0x1"), ("FloatTexts", 187, "no such byte"), ("FloatTexts", 199, "what is not 0 .. 2"), ("FloatTexts", 201, "no such digit"), ("FloatTexts", 300, "e is not -5000 .. 5000"), ("FloatTexts", 249, "a nan has no steps"), ("FloatTexts", 270, "a zero has no such decimals"), ("FloatTextsModel", 190, "nan"), ("FloatTextsModel", 196, "inf"), ("FloatTextsModel", 198, "infinity"), ("FloatTextsModel", 253, "0."), ("FloatTextsModel", 310, "0x0p0"), ("FloatTextsModel", 315, "0x1")]
def sxN (j : Nat) : Nat := (sxL.getD j []).length
def sxC (j i : Nat) : Int32 := (sxL.getD j []).getD i 0
/-- what the start gives of constants, and what stays: the formats, the two tables, the texts, what a throw needs -/
def Cns (w : Wc) (U : State) (H : Heap) : Prop :=
  va_Ef 4 "FloatTexts$Format" "width" "I" (fun k => .int (fW k)) (fun k => wad w (30 + k)) (wA w) U H ∧
  va_Ef 4 "FloatTexts$Format" "precision" "I" (fun k => .int (fP k)) (fun k => wad w (30 + k)) (wA w) U H ∧
  va_Ef 4 "FloatTexts$Format" "greatest" "I" (fun k => .int (fE k)) (fun k => wad w (30 + k)) (wA w) U H ∧
  (∀ k, k < 4 → va_O "FloatTexts$Format" (wad w (30 + k)) (wA w) U H) ∧
  va_Z "FloatTexts" "FORMATS" "[LFloatTexts$Format;" (.ref (wad w 34)) (wA w) U H ∧
  va_T (.object "FloatTexts$Format") (wad w 34) 4 (fun k => .ref (wad w (30 + k))) (wA w) U H ∧
  va_Z "FloatTexts$Row" "TENS" "[I" (.ref (wad w 35)) (wA w) U H ∧
  va_T .int (wad w 35) 9 (fun k => .int (tnV k)) (wA w) U H ∧
  (∀ j, j < 27 → va_O "java/lang/String" (wad w (40 + j)) (wA w) U H ∧ va_OF "java/lang/String" "value" "[B" (.ref (wad w (70 + j))) (wad w (40 + j)) (wA w) U H ∧ va_OF "java/lang/String" "coder" "B" (.int 0) (wad w (40 + j)) (wA w) U H ∧ va_T .byte (wad w (70 + j)) (sxN j) (fun i => .int (sxC j i)) (wA w) U H) ∧
  va_Z "java/lang/String" "COMPACT_STRINGS" "Z" (.int 1) (wA w) U H ∧
  vx_Zq "java/lang/Throwable" "UNASSIGNED_STACK" "[Ljava/lang/StackTraceElement;" (wA w) U H ∧
  vx_Zq "java/lang/Throwable" "SUPPRESSED_SENTINEL" "Ljava/util/List;" (wA w) U H ∧
  va_Zq "jdk/internal/util/Preconditions" "SIOOBE_FORMATTER" "Ljava/util/function/BiFunction;" (wA w) U H
theorem Cns.moved {w : Wc} {u U : State} {H : Heap} (hvm : u.vm.Alike U.vm) (h : Cns w u H) : Cns w U H := by
  obtain ⟨h1, h2, h3, h4, h5, h6, h7, h8, h9, h10, h11, h12, h13⟩ := h
  exact ⟨h1.moved hvm, h2.moved hvm, h3.moved hvm, fun k hk => (h4 k hk).moved hvm, h5.moved hvm, h6.moved hvm, h7.moved hvm, h8.moved hvm, fun j hj => ⟨(h9 j hj).1.moved hvm, (h9 j hj).2.1.moved hvm, (h9 j hj).2.2.1.moved hvm, (h9 j hj).2.2.2.moved hvm⟩, h10.moved hvm, h11.moved hvm, h12.moved hvm, h13.moved hvm⟩
theorem Cns.kept {w : Wc} {U : State} {H H1 : Heap} (h : Cns w U H) (hq : ∀ a : Nat, a < H.size → ¬ wA w a → H1[a]? = H[a]?) : Cns w U H1 := by
  obtain ⟨h1, h2, h3, h4, h5, h6, h7, h8, h9, h10, h11, h12, h13⟩ := h
  exact ⟨h1.kept hq, h2.kept hq, h3.kept hq, fun k hk => (h4 k hk).kept hq, h5.kept hq, h6.kept hq, h7.kept hq, h8.kept hq, fun j hj => ⟨(h9 j hj).1.kept hq, (h9 j hj).2.1.kept hq, (h9 j hj).2.2.1.kept hq, (h9 j hj).2.2.2.kept hq⟩, h10.kept hq, h11.kept hq, h12.kept hq, h13.kept hq⟩
/-- the two private methods that another class calls -/
def Nst (w : Wc) (U : State) : Prop := (∀ (j : Nat) (q : String × Nat × String), sxR[j]? = some q → vk_R q.1 q.2.1 q.2.2 (wad w (40 + j)) U) ∧ va_Nw (.methodLinkNest "FloatTexts$Rounding" 45 yX6_goesUp "FloatTexts") U ∧ va_Nw (.methodLinkNest "FloatTexts$ByteRow" 65 yX3_bitsOf "FloatTexts") U ∧ va_Nw (.castable "java/lang/IllegalArgumentException" "java/lang/IllegalArgumentException") U ∧ va_Nw (.castable "java/lang/IndexOutOfBoundsException" "java/lang/IndexOutOfBoundsException") U ∧ va_Nw (.declares (Bundle.initS "java/lang/RuntimeException")) U ∧ va_Nw (.declares (Bundle.initS "java/lang/Exception")) U ∧ va_Nw (.declares (Bundle.initS "java/lang/Throwable")) U
theorem Nst.warm {w : Wc} {s U : State} (hW : s.WarmedH U.vm) (h : Nst w s) : Nst w U := ⟨fun j q hj => vk_R.warm hW (h.1 j q hj), va_Nw.warmM hW h.2.1, va_Nw.warmM hW h.2.2.1, va_Nw.warmC hW h.2.2.2.1, va_Nw.warmC hW h.2.2.2.2.1, va_Nw.warmD hW h.2.2.2.2.2.1, va_Nw.warmD hW h.2.2.2.2.2.2.1, va_Nw.warmD hW h.2.2.2.2.2.2.2⟩
theorem Nst.same {w : Wc} {s U : State} (hv : U.vm = s.vm) (h : Nst w s) : Nst w U := ⟨fun j q hj => vk_R.same hv (h.1 j q hj), va_Nw.same rfl hv.symm h.2.1, va_Nw.same rfl hv.symm h.2.2.1, va_Nw.same rfl hv.symm h.2.2.2.1, va_Nw.same rfl hv.symm h.2.2.2.2.1, va_Nw.same rfl hv.symm h.2.2.2.2.2.1, va_Nw.same rfl hv.symm h.2.2.2.2.2.2.1, va_Nw.same rfl hv.symm h.2.2.2.2.2.2.2⟩
/-- the world at a state -/
def Wd (w : Wc) (σ : SS) (U : State) : Prop := Pq w σ U.heap ∧ va_K w.1 vwCl (wty w) U ∧ Cns w U U.heap ∧ Nst w U ∧ w.2.2.2 ≤ U.heap.size
abbrev Cx : Type := (Program × Launch × Env × Room × State) × (MethodId × Array Value × List Frame × Method × Code) × (Wc × Nat × (State → Prop))
abbrev cxw (g : Cx) : Wc := g.2.2.1
abbrev cxs (g : Cx) : State := g.1.2.2.2.2
def rmd (d mc ms : Nat) : Room := { frames := d, cells := mc, slots := ms, locals := 38 * d }
def AW (g : Cx) (pc : Nat) (L : List (Nat × Value)) (st : List Value) (σ : SS) (k n : Nat) : Prop :=
  ∀ (H : Heap) (locs : List Loc) (ls : Array Slot), Pq (cxw g) σ H → va_S (wA (cxw g)) (cxs g).heap H locs → lv_has ls g.2.2.2.1 L →
    W g.1.1 g.1.2.1 g.1.2.2.1 g.1.2.2.2.1 (cxs g) g.2.1.1 g.2.1.2.1 g.2.1.2.2.1 g.2.1.2.2.2.1 g.2.1.2.2.2.2 H locs k n g.2.2.2.2 (F0 g.2.1.1 pc ls st)
/-- what a walk stands on: the code, its class, the locals' number, the depth and the cells that are left -/
def Gd (g : Cx) (own : String) (cc : ByteArray) (nL d mc ms : Nat) : Prop :=
  g.1.1.tables.exec = Jvm.exec ∧ g.2.1.2.2.2.2.code = cc ∧ g.2.1.2.2.2.2.maxLocals = nL ∧ g.2.2.2.1 = nL ∧ (cxs g).vm.findClass own = some g.2.1.1.cls ∧ (∀ w ∈ gws, w.before g.2.1.2.1 (cxs g) = true) ∧ g.2.1.2.2.2.1.locks = false ∧
  va_K (cxw g).1 vwCl (wty (cxw g)) (cxs g) ∧ Cns (cxw g) (cxs g) (cxs g).heap ∧ Nst (cxw g) (cxs g) ∧ (cxw g).2.2.2 ≤ (cxs g).heap.size ∧ (d ≤ g.1.2.2.2.1.frames ∧ 38 * d ≤ g.1.2.2.2.1.locals ∧ mc ≤ g.1.2.2.2.1.cells ∧ ms ≤ g.1.2.2.2.1.slots)
section AWR
variable {g : Cx} {own : String} {cc : ByteArray} {nL d mc ms pc k n : Nat} {L L' : List (Nat × Value)} {st : List Value} {σ σ' : SS}
theorem aw_iload {i : Nat} {x : Int32} (hG : Gd g own cc nL d mc ms) (q : Nat) (hq : L[q]? = some (i, .int x)) (hd : decode cc pc = .ok (.iload i, 2)) (kk : AW g (pc + 2) L (.int x :: st) σ k n) : AW g pc L st σ k n := by
  obtain ⟨⟨p, l, e, R, s⟩, ⟨m, args, below, meth, c⟩, w, N, Q⟩ := g
  obtain ⟨hx, hb, hml, hN, hown, hts, hlk, hK, hC, hNs, hsz, hR⟩ := hG
  intro H locs ls hP hS hl
  exact lv_iload hx hb hd (lv_at hl q hq) (kk H locs ls hP hS hl)
theorem aw_iload_n {i : Nat} {j : Fin 4} {x : Int32} (hG : Gd g own cc nL d mc ms) (q : Nat) (hq : L[q]? = some (i, .int x)) (hd : decode cc pc = .ok (.iload_n j, 1)) (hj : (j : Nat) = i) (kk : AW g (pc + 1) L (.int x :: st) σ k n) : AW g pc L st σ k n := by
  obtain ⟨⟨p, l, e, R, s⟩, ⟨m, args, below, meth, c⟩, w, N, Q⟩ := g
  obtain ⟨hx, hb, hml, hN, hown, hts, hlk, hK, hC, hNs, hsz, hR⟩ := hG
  intro H locs ls hP hS hl
  exact lv_iload_n hx hb hd hj (lv_at hl q hq) (kk H locs ls hP hS hl)
theorem aw_istore {i : Nat} {x : Int32} (hG : Gd g own cc nL d mc ms) (hd : decode cc pc = .ok (.istore i, 2)) (hn : i < nL) (hL : (i, Value.int x) :: L.filter (fun q => !(q.1 == i) && !(q.1 + 1 == i && q.2.category == 2)) = L') (kk : AW g (pc + 2) L' st σ k n) : AW g pc L (.int x :: st) σ k n := by
  obtain ⟨⟨p, l, e, R, s⟩, ⟨m, args, below, meth, c⟩, w, N, Q⟩ := g
  obtain ⟨hx, hb, hml, hN, hown, hts, hlk, hK, hC, hNs, hsz, hR⟩ := hG
  intro H locs ls hP hS hl
  subst hN
  exact lv_istore hx hb hd hl hn hL (fun ls hl => kk H locs ls hP hS hl)
theorem aw_istore_n {i : Nat} {j : Fin 4} {x : Int32} (hG : Gd g own cc nL d mc ms) (hd : decode cc pc = .ok (.istore_n j, 1)) (hj : (j : Nat) = i) (hn : i < nL) (hL : (i, Value.int x) :: L.filter (fun q => !(q.1 == i) && !(q.1 + 1 == i && q.2.category == 2)) = L') (kk : AW g (pc + 1) L' st σ k n) : AW g pc L (.int x :: st) σ k n := by
  obtain ⟨⟨p, l, e, R, s⟩, ⟨m, args, below, meth, c⟩, w, N, Q⟩ := g
  obtain ⟨hx, hb, hml, hN, hown, hts, hlk, hK, hC, hNs, hsz, hR⟩ := hG
  intro H locs ls hP hS hl
  subst hN
  exact lv_istore_n hx hb hd hj hl hn hL (fun ls hl => kk H locs ls hP hS hl)
theorem aw_lload {i : Nat} {x : Int64} (hG : Gd g own cc nL d mc ms) (q : Nat) (hq : L[q]? = some (i, .long x)) (hd : decode cc pc = .ok (.lload i, 2)) (kk : AW g (pc + 2) L (.long x :: st) σ k n) : AW g pc L st σ k n := by
  obtain ⟨⟨p, l, e, R, s⟩, ⟨m, args, below, meth, c⟩, w, N, Q⟩ := g
  obtain ⟨hx, hb, hml, hN, hown, hts, hlk, hK, hC, hNs, hsz, hR⟩ := hG
  intro H locs ls hP hS hl
  exact lv_lload hx hb hd (lv_at hl q hq) (kk H locs ls hP hS hl)
theorem aw_lload_n {i : Nat} {j : Fin 4} {x : Int64} (hG : Gd g own cc nL d mc ms) (q : Nat) (hq : L[q]? = some (i, .long x)) (hd : decode cc pc = .ok (.lload_n j, 1)) (hj : (j : Nat) = i) (kk : AW g (pc + 1) L (.long x :: st) σ k n) : AW g pc L st σ k n := by
  obtain ⟨⟨p, l, e, R, s⟩, ⟨m, args, below, meth, c⟩, w, N, Q⟩ := g
  obtain ⟨hx, hb, hml, hN, hown, hts, hlk, hK, hC, hNs, hsz, hR⟩ := hG
  intro H locs ls hP hS hl
  exact lv_lload_n hx hb hd hj (lv_at hl q hq) (kk H locs ls hP hS hl)
theorem aw_lstore {i : Nat} {x : Int64} (hG : Gd g own cc nL d mc ms) (hd : decode cc pc = .ok (.lstore i, 2)) (hn : i + 1 < nL) (hL : (i, Value.long x) :: L.filter (fun q => !(q.1 == i) && (!(q.1 == i + 1) && !(q.1 + 1 == i && q.2.category == 2))) = L') (kk : AW g (pc + 2) L' st σ k n) : AW g pc L (.long x :: st) σ k n := by
  obtain ⟨⟨p, l, e, R, s⟩, ⟨m, args, below, meth, c⟩, w, N, Q⟩ := g
  obtain ⟨hx, hb, hml, hN, hown, hts, hlk, hK, hC, hNs, hsz, hR⟩ := hG
  intro H locs ls hP hS hl
  subst hN
  exact lv_lstore hx hb hd hl hn hL (fun ls hl => kk H locs ls hP hS hl)
theorem aw_lstore_n {i : Nat} {j : Fin 4} {x : Int64} (hG : Gd g own cc nL d mc ms) (hd : decode cc pc = .ok (.lstore_n j, 1)) (hj : (j : Nat) = i) (hn : i + 1 < nL) (hL : (i, Value.long x) :: L.filter (fun q => !(q.1 == i) && (!(q.1 == i + 1) && !(q.1 + 1 == i && q.2.category == 2))) = L') (kk : AW g (pc + 1) L' st σ k n) : AW g pc L (.long x :: st) σ k n := by
  obtain ⟨⟨p, l, e, R, s⟩, ⟨m, args, below, meth, c⟩, w, N, Q⟩ := g
  obtain ⟨hx, hb, hml, hN, hown, hts, hlk, hK, hC, hNs, hsz, hR⟩ := hG
  intro H locs ls hP hS hl
  subst hN
  exact lv_lstore_n hx hb hd hj hl hn hL (fun ls hl => kk H locs ls hP hS hl)
theorem aw_aload {i : Nat} {x : Nat} (hG : Gd g own cc nL d mc ms) (q : Nat) (hq : L[q]? = some (i, .ref x)) (hd : decode cc pc = .ok (.aload i, 2)) (kk : AW g (pc + 2) L (.ref x :: st) σ k n) : AW g pc L st σ k n := by
  obtain ⟨⟨p, l, e, R, s⟩, ⟨m, args, below, meth, c⟩, w, N, Q⟩ := g
  obtain ⟨hx, hb, hml, hN, hown, hts, hlk, hK, hC, hNs, hsz, hR⟩ := hG
  intro H locs ls hP hS hl
  exact lv_aload hx hb hd (lv_at hl q hq) (kk H locs ls hP hS hl)
theorem aw_aload_n {i : Nat} {j : Fin 4} {x : Nat} (hG : Gd g own cc nL d mc ms) (q : Nat) (hq : L[q]? = some (i, .ref x)) (hd : decode cc pc = .ok (.aload_n j, 1)) (hj : (j : Nat) = i) (kk : AW g (pc + 1) L (.ref x :: st) σ k n) : AW g pc L st σ k n := by
  obtain ⟨⟨p, l, e, R, s⟩, ⟨m, args, below, meth, c⟩, w, N, Q⟩ := g
  obtain ⟨hx, hb, hml, hN, hown, hts, hlk, hK, hC, hNs, hsz, hR⟩ := hG
  intro H locs ls hP hS hl
  exact lv_aload_n hx hb hd hj (lv_at hl q hq) (kk H locs ls hP hS hl)
theorem aw_astore {i : Nat} {x : Nat} (hG : Gd g own cc nL d mc ms) (hd : decode cc pc = .ok (.astore i, 2)) (hn : i < nL) (hL : (i, Value.ref x) :: L.filter (fun q => !(q.1 == i) && !(q.1 + 1 == i && q.2.category == 2)) = L') (kk : AW g (pc + 2) L' st σ k n) : AW g pc L (.ref x :: st) σ k n := by
  obtain ⟨⟨p, l, e, R, s⟩, ⟨m, args, below, meth, c⟩, w, N, Q⟩ := g
  obtain ⟨hx, hb, hml, hN, hown, hts, hlk, hK, hC, hNs, hsz, hR⟩ := hG
  intro H locs ls hP hS hl
  subst hN
  exact lv_astore hx hb hd hl hn hL (fun ls hl => kk H locs ls hP hS hl)
theorem aw_astore_n {i : Nat} {j : Fin 4} {x : Nat} (hG : Gd g own cc nL d mc ms) (hd : decode cc pc = .ok (.astore_n j, 1)) (hj : (j : Nat) = i) (hn : i < nL) (hL : (i, Value.ref x) :: L.filter (fun q => !(q.1 == i) && !(q.1 + 1 == i && q.2.category == 2)) = L') (kk : AW g (pc + 1) L' st σ k n) : AW g pc L (.ref x :: st) σ k n := by
  obtain ⟨⟨p, l, e, R, s⟩, ⟨m, args, below, meth, c⟩, w, N, Q⟩ := g
  obtain ⟨hx, hb, hml, hN, hown, hts, hlk, hK, hC, hNs, hsz, hR⟩ := hG
  intro H locs ls hP hS hl
  subst hN
  exact lv_astore_n hx hb hd hj hl hn hL (fun ls hl => kk H locs ls hP hS hl)
theorem aw_iinc {i : Nat} {z : Int} {x v : Int32} (hG : Gd g own cc nL d mc ms) (q : Nat) (hq : L[q]? = some (i, .int x)) (hd : decode cc pc = .ok (.iinc i z, 3)) (hv : x + Int32.ofInt z = v) (hn : i < nL) (hL : (i, Value.int v) :: L.filter (fun q => !(q.1 == i) && !(q.1 + 1 == i && q.2.category == 2)) = L') (kk : AW g (pc + 3) L' st σ k n) : AW g pc L st σ k n := by
  obtain ⟨⟨p, l, e, R, s⟩, ⟨m, args, below, meth, c⟩, w, N, Q⟩ := g
  obtain ⟨hx, hb, hml, hN, hown, hts, hlk, hK, hC, hNs, hsz, hR⟩ := hG
  intro H locs ls hP hS hl
  subst hN
  exact lv_iinc hx hb hd hl hq hv hn hL (fun ls hl => kk H locs ls hP hS hl)
theorem aw_sub (ks : List Nat) (h : lv_pick L ks = L') (kk : AW g pc L' st σ k n) : AW g pc L st σ k n := fun H locs ls hP hS hl => kk H locs ls hP hS (lv_sub hl ks h)
theorem aw_topi {x : Int32} (kk : ∀ v : Int32, v = x → AW g pc L (.int v :: st) σ k n) : AW g pc L (.int x :: st) σ k n := kk x rfl
theorem aw_topl {x : Int64} (kk : ∀ v : Int64, v = x → AW g pc L (.long v :: st) σ k n) : AW g pc L (.long x :: st) σ k n := kk x rfl
theorem aw_iconst {z : Int} {v : Int32} (hG : Gd g own cc nL d mc ms) (hd : decode cc pc = .ok (.iconst z, 1)) (hv : Int32.ofInt z = v) (kk : AW g (pc + 1) L (.int v :: st) σ k n) : AW g pc L st σ k n := by
  obtain ⟨⟨p, l, e, R, s⟩, ⟨m, args, below, meth, c⟩, w, N, Q⟩ := g
  obtain ⟨hx, hb, hml, hN, hown, hts, hlk, hK, hC, hNs, hsz, hR⟩ := hG
  intro H locs ls hP hS hl
  exact lv_iconst hx hb hd hv (kk H locs ls hP hS hl)
theorem aw_bipush {z : Int} {v : Int32} (hG : Gd g own cc nL d mc ms) (hd : decode cc pc = .ok (.bipush z, 2)) (hv : (Int8.ofInt z).toInt32 = v) (kk : AW g (pc + 2) L (.int v :: st) σ k n) : AW g pc L st σ k n := by
  obtain ⟨⟨p, l, e, R, s⟩, ⟨m, args, below, meth, c⟩, w, N, Q⟩ := g
  obtain ⟨hx, hb, hml, hN, hown, hts, hlk, hK, hC, hNs, hsz, hR⟩ := hG
  intro H locs ls hP hS hl
  exact lv_bipush hx hb hd hv (kk H locs ls hP hS hl)
theorem aw_sipush {z : Int} {v : Int32} (hG : Gd g own cc nL d mc ms) (hd : decode cc pc = .ok (.sipush z, 3)) (hv : (Int16.ofInt z).toInt32 = v) (kk : AW g (pc + 3) L (.int v :: st) σ k n) : AW g pc L st σ k n := by
  obtain ⟨⟨p, l, e, R, s⟩, ⟨m, args, below, meth, c⟩, w, N, Q⟩ := g
  obtain ⟨hx, hb, hml, hN, hown, hts, hlk, hK, hC, hNs, hsz, hR⟩ := hG
  intro H locs ls hP hS hl
  exact lv_sipush hx hb hd hv (kk H locs ls hP hS hl)
theorem aw_iadd {x y : Int32} (hG : Gd g own cc nL d mc ms) (hd : decode cc pc = .ok (.iadd, 1)) (kk : AW g (pc + 1) L (.int (x + y) :: st) σ k n) : AW g pc L (.int y :: .int x :: st) σ k n := by
  obtain ⟨⟨p, l, e, R, s⟩, ⟨m, args, below, meth, c⟩, w, N, Q⟩ := g
  obtain ⟨hx, hb, hml, hN, hown, hts, hlk, hK, hC, hNs, hsz, hR⟩ := hG
  intro H locs ls hP hS hl
  exact lv_iadd hx hb hd (kk H locs ls hP hS hl)
theorem aw_isub {x y : Int32} (hG : Gd g own cc nL d mc ms) (hd : decode cc pc = .ok (.isub, 1)) (kk : AW g (pc + 1) L (.int (x - y) :: st) σ k n) : AW g pc L (.int y :: .int x :: st) σ k n := by
  obtain ⟨⟨p, l, e, R, s⟩, ⟨m, args, below, meth, c⟩, w, N, Q⟩ := g
  obtain ⟨hx, hb, hml, hN, hown, hts, hlk, hK, hC, hNs, hsz, hR⟩ := hG
  intro H locs ls hP hS hl
  exact lv_isub hx hb hd (kk H locs ls hP hS hl)
theorem aw_imul {x y : Int32} (hG : Gd g own cc nL d mc ms) (hd : decode cc pc = .ok (.imul, 1)) (kk : AW g (pc + 1) L (.int (x * y) :: st) σ k n) : AW g pc L (.int y :: .int x :: st) σ k n := by
  obtain ⟨⟨p, l, e, R, s⟩, ⟨m, args, below, meth, c⟩, w, N, Q⟩ := g
  obtain ⟨hx, hb, hml, hN, hown, hts, hlk, hK, hC, hNs, hsz, hR⟩ := hG
  intro H locs ls hP hS hl
  exact lv_imul hx hb hd (kk H locs ls hP hS hl)
theorem aw_iand {x y : Int32} (hG : Gd g own cc nL d mc ms) (hd : decode cc pc = .ok (.iand, 1)) (kk : AW g (pc + 1) L (.int (x &&& y) :: st) σ k n) : AW g pc L (.int y :: .int x :: st) σ k n := by
  obtain ⟨⟨p, l, e, R, s⟩, ⟨m, args, below, meth, c⟩, w, N, Q⟩ := g
  obtain ⟨hx, hb, hml, hN, hown, hts, hlk, hK, hC, hNs, hsz, hR⟩ := hG
  intro H locs ls hP hS hl
  exact lv_iand hx hb hd (kk H locs ls hP hS hl)
theorem aw_ior {x y : Int32} (hG : Gd g own cc nL d mc ms) (hd : decode cc pc = .ok (.ior, 1)) (kk : AW g (pc + 1) L (.int (x ||| y) :: st) σ k n) : AW g pc L (.int y :: .int x :: st) σ k n := by
  obtain ⟨⟨p, l, e, R, s⟩, ⟨m, args, below, meth, c⟩, w, N, Q⟩ := g
  obtain ⟨hx, hb, hml, hN, hown, hts, hlk, hK, hC, hNs, hsz, hR⟩ := hG
  intro H locs ls hP hS hl
  exact lv_ior hx hb hd (kk H locs ls hP hS hl)
theorem aw_ixor {x y : Int32} (hG : Gd g own cc nL d mc ms) (hd : decode cc pc = .ok (.ixor, 1)) (kk : AW g (pc + 1) L (.int (x ^^^ y) :: st) σ k n) : AW g pc L (.int y :: .int x :: st) σ k n := by
  obtain ⟨⟨p, l, e, R, s⟩, ⟨m, args, below, meth, c⟩, w, N, Q⟩ := g
  obtain ⟨hx, hb, hml, hN, hown, hts, hlk, hK, hC, hNs, hsz, hR⟩ := hG
  intro H locs ls hP hS hl
  exact lv_ixor hx hb hd (kk H locs ls hP hS hl)
theorem aw_ladd {x y : Int64} (hG : Gd g own cc nL d mc ms) (hd : decode cc pc = .ok (.ladd, 1)) (kk : AW g (pc + 1) L (.long (x + y) :: st) σ k n) : AW g pc L (.long y :: .long x :: st) σ k n := by
  obtain ⟨⟨p, l, e, R, s⟩, ⟨m, args, below, meth, c⟩, w, N, Q⟩ := g
  obtain ⟨hx, hb, hml, hN, hown, hts, hlk, hK, hC, hNs, hsz, hR⟩ := hG
  intro H locs ls hP hS hl
  exact lv_ladd hx hb hd (kk H locs ls hP hS hl)
theorem aw_lsub {x y : Int64} (hG : Gd g own cc nL d mc ms) (hd : decode cc pc = .ok (.lsub, 1)) (kk : AW g (pc + 1) L (.long (x - y) :: st) σ k n) : AW g pc L (.long y :: .long x :: st) σ k n := by
  obtain ⟨⟨p, l, e, R, s⟩, ⟨m, args, below, meth, c⟩, w, N, Q⟩ := g
  obtain ⟨hx, hb, hml, hN, hown, hts, hlk, hK, hC, hNs, hsz, hR⟩ := hG
  intro H locs ls hP hS hl
  exact lv_lsub hx hb hd (kk H locs ls hP hS hl)
theorem aw_lmul {x y : Int64} (hG : Gd g own cc nL d mc ms) (hd : decode cc pc = .ok (.lmul, 1)) (kk : AW g (pc + 1) L (.long (x * y) :: st) σ k n) : AW g pc L (.long y :: .long x :: st) σ k n := by
  obtain ⟨⟨p, l, e, R, s⟩, ⟨m, args, below, meth, c⟩, w, N, Q⟩ := g
  obtain ⟨hx, hb, hml, hN, hown, hts, hlk, hK, hC, hNs, hsz, hR⟩ := hG
  intro H locs ls hP hS hl
  exact lv_lmul hx hb hd (kk H locs ls hP hS hl)
theorem aw_land {x y : Int64} (hG : Gd g own cc nL d mc ms) (hd : decode cc pc = .ok (.land, 1)) (kk : AW g (pc + 1) L (.long (x &&& y) :: st) σ k n) : AW g pc L (.long y :: .long x :: st) σ k n := by
  obtain ⟨⟨p, l, e, R, s⟩, ⟨m, args, below, meth, c⟩, w, N, Q⟩ := g
  obtain ⟨hx, hb, hml, hN, hown, hts, hlk, hK, hC, hNs, hsz, hR⟩ := hG
  intro H locs ls hP hS hl
  exact lv_land hx hb hd (kk H locs ls hP hS hl)
theorem aw_lor {x y : Int64} (hG : Gd g own cc nL d mc ms) (hd : decode cc pc = .ok (.lor, 1)) (kk : AW g (pc + 1) L (.long (x ||| y) :: st) σ k n) : AW g pc L (.long y :: .long x :: st) σ k n := by
  obtain ⟨⟨p, l, e, R, s⟩, ⟨m, args, below, meth, c⟩, w, N, Q⟩ := g
  obtain ⟨hx, hb, hml, hN, hown, hts, hlk, hK, hC, hNs, hsz, hR⟩ := hG
  intro H locs ls hP hS hl
  exact lv_lor hx hb hd (kk H locs ls hP hS hl)
theorem aw_lxor {x y : Int64} (hG : Gd g own cc nL d mc ms) (hd : decode cc pc = .ok (.lxor, 1)) (kk : AW g (pc + 1) L (.long (x ^^^ y) :: st) σ k n) : AW g pc L (.long y :: .long x :: st) σ k n := by
  obtain ⟨⟨p, l, e, R, s⟩, ⟨m, args, below, meth, c⟩, w, N, Q⟩ := g
  obtain ⟨hx, hb, hml, hN, hown, hts, hlk, hK, hC, hNs, hsz, hR⟩ := hG
  intro H locs ls hP hS hl
  exact lv_lxor hx hb hd (kk H locs ls hP hS hl)
theorem aw_idiv {x y : Int32} (hG : Gd g own cc nL d mc ms) (hd : decode cc pc = .ok (.idiv, 1)) (h0 : ¬ y = 0) (kk : AW g (pc + 1) L (.int (x / y) :: st) σ k n) : AW g pc L (.int y :: .int x :: st) σ k n := by
  obtain ⟨⟨p, l, e, R, s⟩, ⟨m, args, below, meth, c⟩, w, N, Q⟩ := g
  obtain ⟨hx, hb, hml, hN, hown, hts, hlk, hK, hC, hNs, hsz, hR⟩ := hG
  intro H locs ls hP hS hl
  exact lv_idiv hx hb hd h0 (kk H locs ls hP hS hl)
theorem aw_irem {x y : Int32} (hG : Gd g own cc nL d mc ms) (hd : decode cc pc = .ok (.irem, 1)) (h0 : ¬ y = 0) (kk : AW g (pc + 1) L (.int (x - x / y * y) :: st) σ k n) : AW g pc L (.int y :: .int x :: st) σ k n := by
  obtain ⟨⟨p, l, e, R, s⟩, ⟨m, args, below, meth, c⟩, w, N, Q⟩ := g
  obtain ⟨hx, hb, hml, hN, hown, hts, hlk, hK, hC, hNs, hsz, hR⟩ := hG
  intro H locs ls hP hS hl
  exact lv_irem hx hb hd h0 (kk H locs ls hP hS hl)
theorem aw_ldiv {x y : Int64} (hG : Gd g own cc nL d mc ms) (hd : decode cc pc = .ok (.ldiv, 1)) (h0 : ¬ y = 0) (kk : AW g (pc + 1) L (.long (x / y) :: st) σ k n) : AW g pc L (.long y :: .long x :: st) σ k n := by
  obtain ⟨⟨p, l, e, R, s⟩, ⟨m, args, below, meth, c⟩, w, N, Q⟩ := g
  obtain ⟨hx, hb, hml, hN, hown, hts, hlk, hK, hC, hNs, hsz, hR⟩ := hG
  intro H locs ls hP hS hl
  exact lv_ldiv hx hb hd h0 (kk H locs ls hP hS hl)
theorem aw_lrem {x y : Int64} (hG : Gd g own cc nL d mc ms) (hd : decode cc pc = .ok (.lrem, 1)) (h0 : ¬ y = 0) (kk : AW g (pc + 1) L (.long (x - x / y * y) :: st) σ k n) : AW g pc L (.long y :: .long x :: st) σ k n := by
  obtain ⟨⟨p, l, e, R, s⟩, ⟨m, args, below, meth, c⟩, w, N, Q⟩ := g
  obtain ⟨hx, hb, hml, hN, hown, hts, hlk, hK, hC, hNs, hsz, hR⟩ := hG
  intro H locs ls hP hS hl
  exact lv_lrem hx hb hd h0 (kk H locs ls hP hS hl)
theorem aw_ineg {x : Int32} (hG : Gd g own cc nL d mc ms) (hd : decode cc pc = .ok (.ineg, 1)) (kk : AW g (pc + 1) L (.int (-x) :: st) σ k n) : AW g pc L (.int x :: st) σ k n := by
  obtain ⟨⟨p, l, e, R, s⟩, ⟨m, args, below, meth, c⟩, w, N, Q⟩ := g
  obtain ⟨hx, hb, hml, hN, hown, hts, hlk, hK, hC, hNs, hsz, hR⟩ := hG
  intro H locs ls hP hS hl
  exact lv_ineg hx hb hd (kk H locs ls hP hS hl)
theorem aw_lneg {x : Int64} (hG : Gd g own cc nL d mc ms) (hd : decode cc pc = .ok (.lneg, 1)) (kk : AW g (pc + 1) L (.long (-x) :: st) σ k n) : AW g pc L (.long x :: st) σ k n := by
  obtain ⟨⟨p, l, e, R, s⟩, ⟨m, args, below, meth, c⟩, w, N, Q⟩ := g
  obtain ⟨hx, hb, hml, hN, hown, hts, hlk, hK, hC, hNs, hsz, hR⟩ := hG
  intro H locs ls hP hS hl
  exact lv_lneg hx hb hd (kk H locs ls hP hS hl)
theorem aw_lshl {x : Int64} {y : Int32} (hG : Gd g own cc nL d mc ms) (hd : decode cc pc = .ok (.lshl, 1)) (kk : AW g (pc + 1) L (.long (x <<< (y.toInt64 &&& 63)) :: st) σ k n) : AW g pc L (.int y :: .long x :: st) σ k n := by
  obtain ⟨⟨p, l, e, R, s⟩, ⟨m, args, below, meth, c⟩, w, N, Q⟩ := g
  obtain ⟨hx, hb, hml, hN, hown, hts, hlk, hK, hC, hNs, hsz, hR⟩ := hG
  intro H locs ls hP hS hl
  exact lv_lshl hx hb hd rfl (kk H locs ls hP hS hl)
theorem aw_lshr {x : Int64} {y : Int32} (hG : Gd g own cc nL d mc ms) (hd : decode cc pc = .ok (.lshr, 1)) (kk : AW g (pc + 1) L (.long (x >>> (y.toInt64 &&& 63)) :: st) σ k n) : AW g pc L (.int y :: .long x :: st) σ k n := by
  obtain ⟨⟨p, l, e, R, s⟩, ⟨m, args, below, meth, c⟩, w, N, Q⟩ := g
  obtain ⟨hx, hb, hml, hN, hown, hts, hlk, hK, hC, hNs, hsz, hR⟩ := hG
  intro H locs ls hP hS hl
  exact lv_lshr hx hb hd rfl (kk H locs ls hP hS hl)
theorem aw_lushr {x : Int64} {y : Int32} (hG : Gd g own cc nL d mc ms) (hd : decode cc pc = .ok (.lushr, 1)) (kk : AW g (pc + 1) L (.long (x.toUInt64 >>> (y.toInt64.toUInt64 &&& Int64.toUInt64 63)).toInt64 :: st) σ k n) : AW g pc L (.int y :: .long x :: st) σ k n := by
  obtain ⟨⟨p, l, e, R, s⟩, ⟨m, args, below, meth, c⟩, w, N, Q⟩ := g
  obtain ⟨hx, hb, hml, hN, hown, hts, hlk, hK, hC, hNs, hsz, hR⟩ := hG
  intro H locs ls hP hS hl
  exact lv_lushr hx hb hd rfl (kk H locs ls hP hS hl)
theorem aw_ishl {x y : Int32} (hG : Gd g own cc nL d mc ms) (hd : decode cc pc = .ok (.ishl, 1)) (kk : AW g (pc + 1) L (.int (x <<< (y &&& 31)) :: st) σ k n) : AW g pc L (.int y :: .int x :: st) σ k n := by
  obtain ⟨⟨p, l, e, R, s⟩, ⟨m, args, below, meth, c⟩, w, N, Q⟩ := g
  obtain ⟨hx, hb, hml, hN, hown, hts, hlk, hK, hC, hNs, hsz, hR⟩ := hG
  intro H locs ls hP hS hl
  exact lv_ishl hx hb hd (kk H locs ls hP hS hl)
theorem aw_ishr {x y : Int32} (hG : Gd g own cc nL d mc ms) (hd : decode cc pc = .ok (.ishr, 1)) (kk : AW g (pc + 1) L (.int (x >>> (y &&& 31)) :: st) σ k n) : AW g pc L (.int y :: .int x :: st) σ k n := by
  obtain ⟨⟨p, l, e, R, s⟩, ⟨m, args, below, meth, c⟩, w, N, Q⟩ := g
  obtain ⟨hx, hb, hml, hN, hown, hts, hlk, hK, hC, hNs, hsz, hR⟩ := hG
  intro H locs ls hP hS hl
  exact lv_ishr hx hb hd (kk H locs ls hP hS hl)
theorem aw_i2l {x : Int32} (hG : Gd g own cc nL d mc ms) (hd : decode cc pc = .ok (.i2l, 1)) (kk : AW g (pc + 1) L (.long x.toInt64 :: st) σ k n) : AW g pc L (.int x :: st) σ k n := by
  obtain ⟨⟨p, l, e, R, s⟩, ⟨m, args, below, meth, c⟩, w, N, Q⟩ := g
  obtain ⟨hx, hb, hml, hN, hown, hts, hlk, hK, hC, hNs, hsz, hR⟩ := hG
  intro H locs ls hP hS hl
  exact lv_i2l hx hb hd rfl (kk H locs ls hP hS hl)
theorem aw_l2i {x : Int64} (hG : Gd g own cc nL d mc ms) (hd : decode cc pc = .ok (.l2i, 1)) (kk : AW g (pc + 1) L (.int x.toInt32 :: st) σ k n) : AW g pc L (.long x :: st) σ k n := by
  obtain ⟨⟨p, l, e, R, s⟩, ⟨m, args, below, meth, c⟩, w, N, Q⟩ := g
  obtain ⟨hx, hb, hml, hN, hown, hts, hlk, hK, hC, hNs, hsz, hR⟩ := hG
  intro H locs ls hP hS hl
  exact lv_l2i hx hb hd rfl (kk H locs ls hP hS hl)
theorem aw_i2b {x : Int32} (hG : Gd g own cc nL d mc ms) (hd : decode cc pc = .ok (.i2b, 1)) (kk : AW g (pc + 1) L (.int x.toInt8.toInt32 :: st) σ k n) : AW g pc L (.int x :: st) σ k n := by
  obtain ⟨⟨p, l, e, R, s⟩, ⟨m, args, below, meth, c⟩, w, N, Q⟩ := g
  obtain ⟨hx, hb, hml, hN, hown, hts, hlk, hK, hC, hNs, hsz, hR⟩ := hG
  intro H locs ls hP hS hl
  exact lv_i2b hx hb hd rfl (kk H locs ls hP hS hl)
theorem aw_lcmp {x y : Int64} (hG : Gd g own cc nL d mc ms) (hd : decode cc pc = .ok (.lcmp, 1)) (kk : AW g (pc + 1) L (.int (lg_cmp x y) :: st) σ k n) : AW g pc L (.long y :: .long x :: st) σ k n := by
  obtain ⟨⟨p, l, e, R, s⟩, ⟨m, args, below, meth, c⟩, w, N, Q⟩ := g
  obtain ⟨hx, hb, hml, hN, hown, hts, hlk, hK, hC, hNs, hsz, hR⟩ := hG
  intro H locs ls hP hS hl
  exact W.lcmp hx hb hd (kk H locs ls hP hS hl)
theorem aw_dup {v : Value} (hG : Gd g own cc nL d mc ms) (hd : decode cc pc = .ok (.dup, 1)) (hv : v.category = 1) (kk : AW g (pc + 1) L (v :: v :: st) σ k n) : AW g pc L (v :: st) σ k n := by
  obtain ⟨⟨p, l, e, R, s⟩, ⟨m, args, below, meth, c⟩, w, N, Q⟩ := g
  obtain ⟨hx, hb, hml, hN, hown, hts, hlk, hK, hC, hNs, hsz, hR⟩ := hG
  intro H locs ls hP hS hl
  exact lv_dup hx hb hd hv (kk H locs ls hP hS hl)
theorem aw_icmp_eq {x y : Int32} {off : Int} {t : Nat} (hG : Gd g own cc nL d mc ms) (hd : decode cc pc = .ok (.if_icmp .eq off, 3)) (ht : (pc : Int) + off = (t : Int)) (kt : x = y → AW g t L st σ k n) (kf : ¬ x = y → AW g (pc + 3) L st σ k n) : AW g pc L (.int y :: .int x :: st) σ k n := by
  obtain ⟨⟨p, l, e, R, s⟩, ⟨m, args, below, meth, c⟩, w, N, Q⟩ := g
  obtain ⟨hx, hb, hml, hN, hown, hts, hlk, hK, hC, hNs, hsz, hR⟩ := hG
  intro H locs ls hP hS hl
  exact lv_icmp_eq hx hb hd ht (fun h => kt h H locs ls hP hS hl) (fun h => kf h H locs ls hP hS hl)
theorem aw_if_eq {x : Int32} {off : Int} {t : Nat} (hG : Gd g own cc nL d mc ms) (hd : decode cc pc = .ok (.ifCond .eq off, 3)) (ht : (pc : Int) + off = (t : Int)) (kt : x = 0 → AW g t L st σ k n) (kf : ¬ x = 0 → AW g (pc + 3) L st σ k n) : AW g pc L (.int x :: st) σ k n := by
  obtain ⟨⟨p, l, e, R, s⟩, ⟨m, args, below, meth, c⟩, w, N, Q⟩ := g
  obtain ⟨hx, hb, hml, hN, hown, hts, hlk, hK, hC, hNs, hsz, hR⟩ := hG
  intro H locs ls hP hS hl
  exact lv_if_eq hx hb hd ht (fun h => kt h H locs ls hP hS hl) (fun h => kf h H locs ls hP hS hl)
theorem aw_icmp_ne {x y : Int32} {off : Int} {t : Nat} (hG : Gd g own cc nL d mc ms) (hd : decode cc pc = .ok (.if_icmp .ne off, 3)) (ht : (pc : Int) + off = (t : Int)) (kt : ¬ x = y → AW g t L st σ k n) (kf : x = y → AW g (pc + 3) L st σ k n) : AW g pc L (.int y :: .int x :: st) σ k n := by
  obtain ⟨⟨p, l, e, R, s⟩, ⟨m, args, below, meth, c⟩, w, N, Q⟩ := g
  obtain ⟨hx, hb, hml, hN, hown, hts, hlk, hK, hC, hNs, hsz, hR⟩ := hG
  intro H locs ls hP hS hl
  exact lv_icmp_ne hx hb hd ht (fun h => kt h H locs ls hP hS hl) (fun h => kf h H locs ls hP hS hl)
theorem aw_if_ne {x : Int32} {off : Int} {t : Nat} (hG : Gd g own cc nL d mc ms) (hd : decode cc pc = .ok (.ifCond .ne off, 3)) (ht : (pc : Int) + off = (t : Int)) (kt : ¬ x = 0 → AW g t L st σ k n) (kf : x = 0 → AW g (pc + 3) L st σ k n) : AW g pc L (.int x :: st) σ k n := by
  obtain ⟨⟨p, l, e, R, s⟩, ⟨m, args, below, meth, c⟩, w, N, Q⟩ := g
  obtain ⟨hx, hb, hml, hN, hown, hts, hlk, hK, hC, hNs, hsz, hR⟩ := hG
  intro H locs ls hP hS hl
  exact lv_if_ne hx hb hd ht (fun h => kt h H locs ls hP hS hl) (fun h => kf h H locs ls hP hS hl)
theorem aw_icmp_lt {x y : Int32} {off : Int} {t : Nat} (hG : Gd g own cc nL d mc ms) (hd : decode cc pc = .ok (.if_icmp .lt off, 3)) (ht : (pc : Int) + off = (t : Int)) (kt : x < y → AW g t L st σ k n) (kf : ¬ x < y → AW g (pc + 3) L st σ k n) : AW g pc L (.int y :: .int x :: st) σ k n := by
  obtain ⟨⟨p, l, e, R, s⟩, ⟨m, args, below, meth, c⟩, w, N, Q⟩ := g
  obtain ⟨hx, hb, hml, hN, hown, hts, hlk, hK, hC, hNs, hsz, hR⟩ := hG
  intro H locs ls hP hS hl
  exact lv_icmp_lt hx hb hd ht (fun h => kt h H locs ls hP hS hl) (fun h => kf h H locs ls hP hS hl)
theorem aw_if_lt {x : Int32} {off : Int} {t : Nat} (hG : Gd g own cc nL d mc ms) (hd : decode cc pc = .ok (.ifCond .lt off, 3)) (ht : (pc : Int) + off = (t : Int)) (kt : x < 0 → AW g t L st σ k n) (kf : ¬ x < 0 → AW g (pc + 3) L st σ k n) : AW g pc L (.int x :: st) σ k n := by
  obtain ⟨⟨p, l, e, R, s⟩, ⟨m, args, below, meth, c⟩, w, N, Q⟩ := g
  obtain ⟨hx, hb, hml, hN, hown, hts, hlk, hK, hC, hNs, hsz, hR⟩ := hG
  intro H locs ls hP hS hl
  exact lv_if_lt hx hb hd ht (fun h => kt h H locs ls hP hS hl) (fun h => kf h H locs ls hP hS hl)
theorem aw_icmp_ge {x y : Int32} {off : Int} {t : Nat} (hG : Gd g own cc nL d mc ms) (hd : decode cc pc = .ok (.if_icmp .ge off, 3)) (ht : (pc : Int) + off = (t : Int)) (kt : y ≤ x → AW g t L st σ k n) (kf : ¬ y ≤ x → AW g (pc + 3) L st σ k n) : AW g pc L (.int y :: .int x :: st) σ k n := by
  obtain ⟨⟨p, l, e, R, s⟩, ⟨m, args, below, meth, c⟩, w, N, Q⟩ := g
  obtain ⟨hx, hb, hml, hN, hown, hts, hlk, hK, hC, hNs, hsz, hR⟩ := hG
  intro H locs ls hP hS hl
  exact lv_icmp_ge hx hb hd ht (fun h => kt h H locs ls hP hS hl) (fun h => kf h H locs ls hP hS hl)
theorem aw_if_ge {x : Int32} {off : Int} {t : Nat} (hG : Gd g own cc nL d mc ms) (hd : decode cc pc = .ok (.ifCond .ge off, 3)) (ht : (pc : Int) + off = (t : Int)) (kt : 0 ≤ x → AW g t L st σ k n) (kf : ¬ 0 ≤ x → AW g (pc + 3) L st σ k n) : AW g pc L (.int x :: st) σ k n := by
  obtain ⟨⟨p, l, e, R, s⟩, ⟨m, args, below, meth, c⟩, w, N, Q⟩ := g
  obtain ⟨hx, hb, hml, hN, hown, hts, hlk, hK, hC, hNs, hsz, hR⟩ := hG
  intro H locs ls hP hS hl
  exact lv_if_ge hx hb hd ht (fun h => kt h H locs ls hP hS hl) (fun h => kf h H locs ls hP hS hl)
theorem aw_icmp_gt {x y : Int32} {off : Int} {t : Nat} (hG : Gd g own cc nL d mc ms) (hd : decode cc pc = .ok (.if_icmp .gt off, 3)) (ht : (pc : Int) + off = (t : Int)) (kt : y < x → AW g t L st σ k n) (kf : ¬ y < x → AW g (pc + 3) L st σ k n) : AW g pc L (.int y :: .int x :: st) σ k n := by
  obtain ⟨⟨p, l, e, R, s⟩, ⟨m, args, below, meth, c⟩, w, N, Q⟩ := g
  obtain ⟨hx, hb, hml, hN, hown, hts, hlk, hK, hC, hNs, hsz, hR⟩ := hG
  intro H locs ls hP hS hl
  exact lv_icmp_gt hx hb hd ht (fun h => kt h H locs ls hP hS hl) (fun h => kf h H locs ls hP hS hl)
theorem aw_if_gt {x : Int32} {off : Int} {t : Nat} (hG : Gd g own cc nL d mc ms) (hd : decode cc pc = .ok (.ifCond .gt off, 3)) (ht : (pc : Int) + off = (t : Int)) (kt : 0 < x → AW g t L st σ k n) (kf : ¬ 0 < x → AW g (pc + 3) L st σ k n) : AW g pc L (.int x :: st) σ k n := by
  obtain ⟨⟨p, l, e, R, s⟩, ⟨m, args, below, meth, c⟩, w, N, Q⟩ := g
  obtain ⟨hx, hb, hml, hN, hown, hts, hlk, hK, hC, hNs, hsz, hR⟩ := hG
  intro H locs ls hP hS hl
  exact lv_if_gt hx hb hd ht (fun h => kt h H locs ls hP hS hl) (fun h => kf h H locs ls hP hS hl)
theorem aw_icmp_le {x y : Int32} {off : Int} {t : Nat} (hG : Gd g own cc nL d mc ms) (hd : decode cc pc = .ok (.if_icmp .le off, 3)) (ht : (pc : Int) + off = (t : Int)) (kt : x ≤ y → AW g t L st σ k n) (kf : ¬ x ≤ y → AW g (pc + 3) L st σ k n) : AW g pc L (.int y :: .int x :: st) σ k n := by
  obtain ⟨⟨p, l, e, R, s⟩, ⟨m, args, below, meth, c⟩, w, N, Q⟩ := g
  obtain ⟨hx, hb, hml, hN, hown, hts, hlk, hK, hC, hNs, hsz, hR⟩ := hG
  intro H locs ls hP hS hl
  exact lv_icmp_le hx hb hd ht (fun h => kt h H locs ls hP hS hl) (fun h => kf h H locs ls hP hS hl)
theorem aw_if_le {x : Int32} {off : Int} {t : Nat} (hG : Gd g own cc nL d mc ms) (hd : decode cc pc = .ok (.ifCond .le off, 3)) (ht : (pc : Int) + off = (t : Int)) (kt : x ≤ 0 → AW g t L st σ k n) (kf : ¬ x ≤ 0 → AW g (pc + 3) L st σ k n) : AW g pc L (.int x :: st) σ k n := by
  obtain ⟨⟨p, l, e, R, s⟩, ⟨m, args, below, meth, c⟩, w, N, Q⟩ := g
  obtain ⟨hx, hb, hml, hN, hown, hts, hlk, hK, hC, hNs, hsz, hR⟩ := hG
  intro H locs ls hP hS hl
  exact lv_if_le hx hb hd ht (fun h => kt h H locs ls hP hS hl) (fun h => kf h H locs ls hP hS hl)
theorem aw_goto {off : Int} {t : Nat} (hG : Gd g own cc nL d mc ms) (hd : decode cc pc = .ok (.goto off, 3)) (ht : (pc : Int) + off = (t : Int)) (kk : AW g t L st σ k n) : AW g pc L st σ k n := by
  obtain ⟨⟨p, l, e, R, s⟩, ⟨m, args, below, meth, c⟩, w, N, Q⟩ := g
  obtain ⟨hx, hb, hml, hN, hown, hts, hlk, hK, hC, hNs, hsz, hR⟩ := hG
  intro H locs ls hP hS hl
  exact lv_goto hx hb hd ht (kk H locs ls hP hS hl)
end AWR
