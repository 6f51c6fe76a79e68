/-! texts as lists of bytes -/
def by8 (x : Int32) : Prop := 0 ≤ x.toInt ∧ x.toInt < 256
def OW (y : (Nat → Int32) × Int32) (L : List Int32) : Prop := y.2 = nI L.length ∧ ∀ i, i < L.length → y.1 i &&& 255 = L.getD i 0
def PW (v : Nat → Int32) (L : List Int32) : Prop := ∀ i, i < L.length → v i = L.getD i 0
def ps (m : MS) (v : Nat → Int32) (L : List Int32) : MS := smI (smA m 1 v) 2 (nI L.length)
theorem getD_app {L : List Int32} {x : Int32} {i : Nat} (hi : i < L.length) : (L ++ [x]).getD i 0 = L.getD i 0 := by
  simp [List.getD, List.getElem?_append_left hi]
theorem getD_last {L : List Int32} {x : Int32} : (L ++ [x]).getD L.length 0 = x := by
  simp [List.getD]
theorem add_o {c : CS} {y : (Nat → Int32) × Int32} {L : List Int32} {x : Int32} (h : OW y L) (hl : L.length < 1500) (hx : by8 x) : ∃ y', f_X0_add 1 x (sb2 c 1 y) = sb2 c 1 y' ∧ OW y' (L ++ [x]) := by
  obtain ⟨h1, h2⟩ := h
  refine ⟨(upd y.1 L.length (nby x), nI (L.length + 1)), ?_, ?_, ?_⟩
  · rw [add_eq (t := 1) (n := L.length) (by rw [sb2_N]; exact h1) hl, sb2_sb2, sb2_B]
  · rw [List.length_append]; rfl
  · intro i hi
    rw [List.length_append] at hi
    change i < L.length + 1 at hi
    show upd y.1 L.length (nby x) i &&& 255 = _
    by_cases q : i = L.length
    · rw [q, upd_eq, getD_last, nby_255, and255 hx.1 hx.2]
    · rw [upd_ne q, getD_app (by omega)]; exact h2 i (by omega)
theorem put_o {m : MS} {v : Nat → Int32} {L : List Int32} {x : Int32} (h : PW v L) (hl : L.length < 1600) : ∃ v', f_X7_put x (ps m v L) = some (ps m v' (L ++ [x])) ∧ PW v' (L ++ [x]) := by
  refine ⟨upd v L.length x, ?_, ?_⟩
  · unfold f_X7_put ps
    rw [mI_smI, if_pos ((vIn (by omega)).mpr (by show L.length < 1600; omega)), nI_clamp (show L.length < 2 ^ 31 by omega)]
    simp only [lt]
    rw [mA_smI, smA_same, smA_smI, smA_smA, mI_smI, smI_smI, nI_inc (by omega), List.length_append]
    rfl
  · intro i hi
    rw [List.length_append] at hi
    change i < L.length + 1 at hi
    by_cases q : i = L.length
    · rw [q, upd_eq, getD_last]
    · rw [upd_ne q, getD_app (by omega)]; exact h i (by omega)
/-- g a, g (a + 1), .. (n of them) -/
def dl (g : Nat → Int32) (a : Nat) : Nat → List Int32
  | 0 => []
  | n + 1 => g a :: dl g (a + 1) n
theorem dl_len (g : Nat → Int32) : ∀ n a, (dl g a n).length = n
  | 0, _ => rfl
  | n + 1, a => by rw [dl, List.length_cons, dl_len g n]
theorem app1 {L M : List Int32} {x : Int32} : L ++ x :: M = (L ++ [x]) ++ M := by simp
theorem len1 {L : List Int32} {x : Int32} : (L ++ [x]).length = L.length + 1 := by simp
/-- the digits that are told, 0 behind the last -/
def dgf (d : Nat → Int32) (n : Nat) (k : Nat) : Int32 := 48 + (if k < n then d k else 0)
theorem dgf_by {d : Nat → Int32} {n : Nat} (hd : ∀ k, k < n → 0 ≤ (d k).toInt ∧ (d k).toInt < 10) (k : Nat) : by8 (dgf d n k) := by
  have e48 : (48 : Int32).toInt = 48 := by decide
  unfold by8 dgf
  by_cases h : k < n
  · rw [if_pos h]
    have := hd k h
    rw [ia (by omega) (by omega), e48]; omega
  · rw [if_neg h]; decide
theorem digitAt_c {c : CS} {n k : Nat} (hc : dcC c = nI n) (hn : n ≤ 1420) (hk : k < 2147483648) : f_X1_digitAt (nI k) c = if k < n then dcD c k else 0 := by
  have hi : (nI k).toInt = k := nI_toInt hk
  have e1420 : (1420 : Int32).toInt = 1420 := by decide
  unfold f_X1_digitAt
  rw [if_neg (by rw [ilt, hi, k0]; omega), hc]
  by_cases h : k < n
  · rw [if_neg (by rw [ile, hi, nI_toInt (by omega)]; omega), if_pos (by rw [ilt, hi, e1420]; omega), if_pos h, nI_clamp (show k < 2 ^ 31 by omega)]
  · rw [if_pos (by rw [ile, hi, nI_toInt (by omega)]; omega), if_neg h]
section OutC
variable {c : CS} {n : Nat}
theorem addDigits_l (hc : dcC c = nI n) (hn : n ≤ 1420) (hd : ∀ k, k < n → 0 ≤ (dcD c k).toInt ∧ (dcD c k).toInt < 10) : ∀ (r a : Nat) (y : (Nat → Int32) × Int32) (L : List Int32), a + r = n → OW y L → L.length + r ≤ 1500 → ∃ y', Lp (fun z => f_X0_addDigits_L2 1 z.1 z.2) (nI a, sb2 c 1 y) = some (sb2 c 1 y') ∧ OW y' (L ++ dl (dgf (dcD c) n) a r) := by
  intro r
  induction r with
  | zero =>
    intro a y L ha hy hl
    refine ⟨y, Lp_r ?_, by rw [dl, List.append_nil]; exact hy⟩
    show f_X0_addDigits_L2 1 (nI a) (sb2 c 1 y) = _
    unfold f_X0_addDigits_L2
    rw [if_pos (show dcC (sb2 c 1 y) ≤ nI a by show dcC c ≤ nI a; rw [hc, cle2 (by omega) (by omega)]; omega)]
  | succ r ih =>
    intro a y L ha hy hl
    obtain ⟨y', g1, g2⟩ := add_o (c := c) (x := dgf (dcD c) n a) hy (by omega) (dgf_by hd a)
    have hs : f_X0_addDigits_L2 1 (nI a) (sb2 c 1 y) = some (.inl (nI (a + 1), sb2 c 1 y')) := by
      unfold f_X0_addDigits_L2
      rw [if_neg (show ¬ dcC (sb2 c 1 y) ≤ nI a by show ¬ dcC c ≤ nI a; rw [hc, cle2 (by omega) (by omega)]; omega)]
      simp only [lt]
      have e : f_X1_digitAt (nI a) (sb2 c 1 y) = if a < n then dcD c a else 0 := digitAt_c (c := sb2 c 1 y) hc hn (by omega)
      rw [e, nI_inc (by omega)]
      have g1' : f_X0_add 1 (48 + if a < n then dcD c a else 0) (sb2 c 1 y) = sb2 c 1 y' := g1
      rw [g1']
    obtain ⟨y'', k1, k2⟩ := ih (a + 1) y' (L ++ [dgf (dcD c) n a]) (by omega) g2 (by rw [len1]; omega)
    refine ⟨y'', (Lp_l (F := fun z => f_X0_addDigits_L2 1 z.1 z.2) (a := (nI a, sb2 c 1 y)) hs).trans k1, ?_⟩
    rw [dl, app1]; exact k2
theorem plain_l44 (hc : dcC c = nI n) (hn : n ≤ 1420) (hd : ∀ k, k < n → 0 ≤ (dcD c k).toInt ∧ (dcD c k).toInt < 10) {p : Nat} (hp : dcP c = nI p) (hp2 : p ≤ 1500) : ∀ (r a : Nat) (y : (Nat → Int32) × Int32) (L : List Int32), a + r = p → OW y L → L.length + r ≤ 1500 → ∃ y', Lp (fun z => f_X0_addPlain_L44 1 z.1 z.2) (nI a, sb2 c 1 y) = some (sb2 c 1 y') ∧ OW y' (L ++ dl (dgf (dcD c) n) a r) := by
  intro r
  induction r with
  | zero =>
    intro a y L ha hy hl
    refine ⟨y, Lp_r ?_, by rw [dl, List.append_nil]; exact hy⟩
    show f_X0_addPlain_L44 1 (nI a) (sb2 c 1 y) = _
    unfold f_X0_addPlain_L44
    rw [if_pos (show dcP (sb2 c 1 y) ≤ nI a by show dcP c ≤ nI a; rw [hp, cle2 (by omega) (by omega)]; omega)]
  | succ r ih =>
    intro a y L ha hy hl
    obtain ⟨y', g1, g2⟩ := add_o (c := c) (x := dgf (dcD c) n a) hy (by omega) (dgf_by hd a)
    have hs : f_X0_addPlain_L44 1 (nI a) (sb2 c 1 y) = some (.inl (nI (a + 1), sb2 c 1 y')) := by
      unfold f_X0_addPlain_L44
      rw [if_neg (show ¬ dcP (sb2 c 1 y) ≤ nI a by show ¬ dcP c ≤ nI a; rw [hp, cle2 (by omega) (by omega)]; omega)]
      simp only [lt]
      have e : f_X1_digitAt (nI a) (sb2 c 1 y) = if a < n then dcD c a else 0 := digitAt_c (c := sb2 c 1 y) hc hn (by omega)
      rw [e, nI_inc (by omega)]
      have g1' : f_X0_add 1 (48 + if a < n then dcD c a else 0) (sb2 c 1 y) = sb2 c 1 y' := g1
      rw [g1']
    obtain ⟨y'', k1, k2⟩ := ih (a + 1) y' (L ++ [dgf (dcD c) n a]) (by omega) g2 (by rw [len1]; omega)
    refine ⟨y'', (Lp_l (F := fun z => f_X0_addPlain_L44 1 z.1 z.2) (a := (nI a, sb2 c 1 y)) hs).trans k1, ?_⟩
    rw [dl, app1]; exact k2
theorem b48 : by8 48 := by unfold by8; decide
theorem b46 : by8 46 := by unfold by8; decide
theorem b45 : by8 45 := by unfold by8; decide
theorem b101 : by8 101 := by unfold by8; decide
theorem b112 : by8 112 := by unfold by8; decide
def z48 : Nat → Int32 := fun _ => 48
theorem plain_l19 : ∀ (r : Nat) (x : Int32) (y : (Nat → Int32) × Int32) (L : List Int32), x.toInt = -(r : Int) → OW y L → L.length + r ≤ 1500 → ∃ y', Lp (fun z => f_X0_addPlain_L19 1 z.1 z.2) (x, sb2 c 1 y) = some (sb2 c 1 y') ∧ OW y' (L ++ dl z48 0 r) := by
  have one : (1 : Int32).toInt = 1 := by decide
  have sh : ∀ r a, dl z48 (a + 1) r = dl z48 a r := by
    intro r
    induction r with
    | zero => intro a; rfl
    | succ r ih => intro a; rw [dl, dl, ih]; rfl
  intro r
  induction r with
  | zero =>
    intro x y L hx hy hl
    refine ⟨y, Lp_r ?_, by rw [dl, List.append_nil]; exact hy⟩
    show f_X0_addPlain_L19 1 x (sb2 c 1 y) = _
    unfold f_X0_addPlain_L19
    rw [if_pos (by rw [ile, hx, k0]; omega)]
  | succ r ih =>
    intro x y L hx hy hl
    obtain ⟨y', g1, g2⟩ := add_o (c := c) (x := 48) hy (by omega) b48
    have hs : f_X0_addPlain_L19 1 x (sb2 c 1 y) = some (.inl (x + 1, sb2 c 1 y')) := by
      unfold f_X0_addPlain_L19
      rw [if_neg (by rw [ile, hx, k0]; omega)]
      simp only [lt]
      rw [g1]
    obtain ⟨y'', k1, k2⟩ := ih (x + 1) y' (L ++ [48]) (by rw [ia (by omega) (by omega), hx, one]; omega) g2 (by rw [len1]; omega)
    refine ⟨y'', (Lp_l (F := fun z => f_X0_addPlain_L19 1 z.1 z.2) (a := (x, sb2 c 1 y)) hs).trans k1, ?_⟩
    rw [dl, sh, app1]; exact k2
end OutC
/-! words -/
theorem sx_len (j : Nat) (h : sxN j < 1000) : (f_JS_length j).toInt = (sxN j : Int) := by
  unfold f_JS_length f_JS_coder
  rw [if_neg (by decide)]
  have e := kshr_eq (x := Int32.ofNat (sxN j)) (y := 0) (k := 0) rfl (by decide)
  rw [e, Int32.toInt_ofNat_of_lt (by omega)]
  simp
def sxW (j k : Nat) : Int32 := sxC j k &&& 255
theorem i2ch_eq {x : Int32} (h0 : 0 ≤ x.toInt) (h1 : x.toInt < 256) : i2ch x = x := by
  unfold i2ch
  apply Int32.toBitVec_inj.mp
  apply BitVec.eq_of_toNat_eq
  have hu := u32 x
  have : x.toBitVec.toNat < 256 := by omega
  simp
  omega
theorem sx_char {j k : Nat} (hk : k < sxN j) (h : sxN j < 1000) : f_JS_charAt j (nI k) = some (sxW j k) := by
  have hi : (nI k).toInt = k := nI_toInt (by omega)
  have hl : (Int32.ofNat (sxN j)).toInt = sxN j := Int32.toInt_ofNat_of_lt (by omega)
  have h255 := am8i (sxC j k)
  have e := i2ch_eq (x := sxC j k &&& 255) (by omega) (by omega)
  unfold f_JS_charAt f_JS_isLatin1
  rw [if_neg (show ¬ (1 : Int32) = 0 by decide), if_pos rfl, if_neg (show ¬ (1 : Int32) = 0 by decide)]
  unfold f_JB_charAt f_JS_checkIndex f_JP_checkIndex
  rw [if_neg (by rw [ilt, hi, k0]; omega), if_pos (by rw [ilt, hi, hl]; omega)]
  simp only [Option.bind]
  rw [if_pos (show vI (nI k) (sxN j) from ⟨by omega, by omega⟩), nI_clamp (show k < 2 ^ 31 by omega), e]
  rw [if_pos (by omega)]
  show (if _ then some (sxC j k &&& 255) else none) = _
  rw [if_pos (by omega)]
  rfl
theorem sxW_by (j k : Nat) : by8 (sxW j k) := by
  have := am8i (sxC j k)
  unfold by8 sxW
  omega
theorem addWord_l {c : CS} {j : Nat} (hj : sxN j < 1000) : ∀ (r a : Nat) (y : (Nat → Int32) × Int32) (L : List Int32), a + r = sxN j → OW y L → L.length + r ≤ 1500 → ∃ y', Lp (fun z => f_X0_addWord_L2 1 j z.1 z.2) (nI a, sb2 c 1 y) = some (sb2 c 1 y') ∧ OW y' (L ++ dl (sxW j) a r) := by
  intro r
  have hl' := sx_len j hj
  induction r with
  | zero =>
    intro a y L ha hy hl
    refine ⟨y, Lp_r ?_, by rw [dl, List.append_nil]; exact hy⟩
    show f_X0_addWord_L2 1 j (nI a) (sb2 c 1 y) = _
    unfold f_X0_addWord_L2
    rw [if_pos (by rw [ile, hl', nI_toInt (by omega)]; omega)]
  | succ r ih =>
    intro a y L ha hy hl
    obtain ⟨y', g1, g2⟩ := add_o (c := c) (x := sxW j a) hy (by omega) (sxW_by j a)
    have hs : f_X0_addWord_L2 1 j (nI a) (sb2 c 1 y) = some (.inl (nI (a + 1), sb2 c 1 y')) := by
      unfold f_X0_addWord_L2
      rw [if_neg (by rw [ile, hl', nI_toInt (by omega)]; omega), sx_char (by omega) hj]
      simp only [Option.bind, lt]
      rw [g1, nI_inc (by omega)]
    obtain ⟨y'', k1, k2⟩ := ih (a + 1) y' (L ++ [sxW j a]) (by omega) g2 (by rw [len1]; omega)
    refine ⟨y'', (Lp_l (F := fun z => f_X0_addWord_L2 1 j z.1 z.2) (a := (nI a, sb2 c 1 y)) hs).trans k1, ?_⟩
    rw [dl, app1]; exact k2
theorem addWord_o {c : CS} {j : Nat} (hj : sxN j < 1000) {y : (Nat → Int32) × Int32} {L : List Int32} (hy : OW y L) (hl : L.length + sxN j ≤ 1500) : ∃ y', f_X0_addWord 1 j (sb2 c 1 y) = some (sb2 c 1 y') ∧ OW y' (L ++ dl (sxW j) 0 (sxN j)) := by
  obtain ⟨y', g1, g2⟩ := addWord_l (c := c) hj (sxN j) 0 y L (by omega) hy hl
  refine ⟨y', ?_, g2⟩
  unfold f_X0_addWord
  rw [show ((0 : Int32), sb2 c 1 y) = (nI 0, sb2 c 1 y) from rfl, g1]; rfl
theorem putWord_l {m : MS} {j : Nat} (hj : sxN j < 1000) : ∀ (r a : Nat) (v : Nat → Int32) (L : List Int32), a + r = sxN j → PW v L → L.length + r ≤ 1600 → ∃ v', Lp (fun z => f_X7_putWord_L2 j z.1 z.2) (nI a, ps m v L) = some (ps m v' (L ++ dl (sxW j) a r)) ∧ PW v' (L ++ dl (sxW j) a r) := by
  intro r
  have hl' := sx_len j hj
  induction r with
  | zero =>
    intro a v L ha hy hl
    rw [dl, List.append_nil]
    refine ⟨v, Lp_r ?_, hy⟩
    show f_X7_putWord_L2 j (nI a) (ps m v L) = _
    unfold f_X7_putWord_L2
    rw [if_pos (by rw [ile, hl', nI_toInt (by omega)]; omega)]
  | succ r ih =>
    intro a v L ha hy hl
    obtain ⟨v', g1, g2⟩ := put_o (m := m) (x := sxW j a) hy (by omega)
    have hs : f_X7_putWord_L2 j (nI a) (ps m v L) = some (.inl (nI (a + 1), ps m v' (L ++ [sxW j a]))) := by
      unfold f_X7_putWord_L2
      rw [if_neg (by rw [ile, hl', nI_toInt (by omega)]; omega), sx_char (by omega) hj]
      simp only [Option.bind, lt]
      rw [g1, nI_inc (by omega)]
    obtain ⟨v'', k1, k2⟩ := ih (a + 1) v' (L ++ [sxW j a]) (by omega) g2 (by rw [len1]; omega)
    rw [← app1] at k1 k2
    exact ⟨v'', (Lp_l (F := fun z => f_X7_putWord_L2 j z.1 z.2) (a := (nI a, ps m v L)) hs).trans k1, k2⟩
theorem putWord_o {m : MS} {j : Nat} (hj : sxN j < 1000) {v : Nat → Int32} {L : List Int32} (hy : PW v L) (hl : L.length + sxN j ≤ 1600) : ∃ v', f_X7_putWord j (ps m v L) = some (ps m v' (L ++ dl (sxW j) 0 (sxN j))) ∧ PW v' (L ++ dl (sxW j) 0 (sxN j)) := by
  obtain ⟨v', g1, g2⟩ := putWord_l (m := m) hj (sxN j) 0 v L (by omega) hy hl
  refine ⟨v', ?_, g2⟩
  unfold f_X7_putWord
  rw [show ((0 : Int32), ps m v L) = (nI 0, ps m v L) from rfl, g1]; rfl
/-- the words of both -/
theorem words : sxN 7 = 3 ∧ sxN 8 = 3 ∧ sxN 9 = 2 ∧ sxN 13 = 5 ∧ sxN 14 = 3 ∧ sxN 21 = 3 ∧ sxN 22 = 3 ∧ sxN 24 = 2 ∧ sxN 25 = 5 ∧ sxN 26 = 3 := by decide
theorem words2 : dl (sxW 7) 0 (sxN 7) = dl (sxW 21) 0 (sxN 21) ∧ dl (sxW 8) 0 (sxN 8) = dl (sxW 22) 0 (sxN 22) ∧ dl (sxW 9) 0 (sxN 9) = dl (sxW 24) 0 (sxN 24) ∧ dl (sxW 13) 0 (sxN 13) = dl (sxW 25) 0 (sxN 25) ∧ dl (sxW 14) 0 (sxN 14) = dl (sxW 26) 0 (sxN 26) := by decide +kernel
