/-! numbers of at most four digits -/
def dd (k t : Nat) : Int32 := Int32.ofNat (48 + k / t % 10)
def nd4 (k : Nat) : List Int32 := (((if 1000 ≤ k then [dd k 1000] else []) ++ (if 100 ≤ k then [dd k 100] else [])) ++ (if 10 ≤ k then [dd k 10] else [])) ++ [dd k 1]
def nl (v : Int) : List Int32 := (if v < 0 then [45] else []) ++ nd4 v.natAbs
theorem dd_by (k t : Nat) : by8 (dd k t) := by
  unfold by8 dd
  rw [Int32.toInt_ofNat_of_lt (by omega)]; omega
theorem nd4_len (k : Nat) : (nd4 k).length ≤ 4 := by
  unfold nd4
  simp only [List.length_append]
  split <;> split <;> split <;> simp
theorem dd_eq {x y : Int32} {k t : Nat} (hx : x.toInt = k) (hy : y.toInt = t) : 48 + irm (x / y) 10 = dd k t := by
  have k10 : (10 : Int32).toInt = ((10 : Nat) : Int) := by decide
  have e48 : (48 : Int32).toInt = 48 := by decide
  have h := irm_n (idv_n hx hy) k10
  unfold dd
  rw [ieq, Int32.toInt_ofNat_of_lt (by omega), ia (by omega) (by omega), e48, h]; omega
theorem addN_step {c : CS} {x2 x3 : Int32} {k t : Nat} (hx2 : x2.toInt = k) (hx3 : x3.toInt = t) (ht : 0 < t) {y : (Nat → Int32) × Int32} {L : List Int32} (hy : OW y L) (hl : L.length < 1500) : ∃ y', f_X0_addNumber_L19 1 x2 x3 (sb2 c 1 y) = some (.inl (x3 / 10, sb2 c 1 y')) ∧ OW y' (L ++ (if t ≤ k ∨ t = 1 then [dd k t] else [])) := by
  have one : (1 : Int32).toInt = 1 := by decide
  obtain ⟨y', g1, g2⟩ := add_o (c := c) (x := dd k t) hy hl (dd_by k t)
  have h33 : f_X0_addNumber_J33 1 x2 x3 (sb2 c 1 y) = some (.inl (x3 / 10, sb2 c 1 y')) := by
    unfold f_X0_addNumber_J33 f_X0_addNumber_J46
    rw [if_pos (fun h => by rw [ieq, hx3, k0] at h; omega), dd_eq hx2 hx3]
    simp only [lt]
    rw [g1]
  unfold f_X0_addNumber_L19
  rw [if_neg (by rw [ile, hx3, k0]; omega)]
  by_cases h1 : t ≤ k
  · rw [if_pos (by rw [ile, hx2, hx3]; omega), if_pos (.inl h1)]
    exact ⟨y', h33, g2⟩
  · rw [if_neg (by rw [ile, hx2, hx3]; omega)]
    by_cases h2 : t = 1
    · rw [if_pos (by rw [ieq, hx3, one]; omega), if_pos (.inr h2)]
      exact ⟨y', h33, g2⟩
    · rw [if_neg (by rw [ieq, hx3, one]; omega), if_neg (by omega), List.append_nil]
      exact ⟨y, rfl, hy⟩
theorem addN_l {c : CS} {x2 : Int32} {k : Nat} (hx2 : x2.toInt = k) {y : (Nat → Int32) × Int32} {L : List Int32} (hy : OW y L) (hl : L.length + 4 ≤ 1500) : ∃ y', Lp (fun a => f_X0_addNumber_L19 1 x2 a.1 a.2) (1000, sb2 c 1 y) = some (sb2 c 1 y') ∧ OW y' (L ++ nd4 k) := by
  have ite_len : ∀ (p : Prop) [Decidable p] (x : Int32), (if p then [x] else []).length ≤ 1 := fun p _ x => by split <;> simp
  obtain ⟨y1, a1, b1⟩ := addN_step (c := c) (x3 := 1000) (t := 1000) hx2 (by decide) (by decide) hy (by omega)
  have l1 := ite_len (1000 ≤ k ∨ 1000 = 1) (dd k 1000)
  obtain ⟨y2, a2, b2⟩ := addN_step (c := c) (x3 := 100) (t := 100) hx2 (by decide) (by decide) b1 (by rw [List.length_append]; omega)
  have l2 := ite_len (100 ≤ k ∨ 100 = 1) (dd k 100)
  obtain ⟨y3, a3, b3⟩ := addN_step (c := c) (x3 := 10) (t := 10) hx2 (by decide) (by decide) b2 (by rw [List.length_append, List.length_append]; omega)
  have l3 := ite_len (10 ≤ k ∨ 10 = 1) (dd k 10)
  obtain ⟨y4, a4, b4⟩ := addN_step (c := c) (x3 := 1) (t := 1) hx2 (by decide) (by decide) b3 (by rw [List.length_append, List.length_append, List.length_append]; omega)
  refine ⟨y4, ?_, ?_⟩
  · refine (Lp_l (F := fun a => f_X0_addNumber_L19 1 x2 a.1 a.2) (a := (1000, sb2 c 1 y)) a1).trans ?_
    refine (Lp_l (F := fun a => f_X0_addNumber_L19 1 x2 a.1 a.2) (a := (100, sb2 c 1 y1)) a2).trans ?_
    refine (Lp_l (F := fun a => f_X0_addNumber_L19 1 x2 a.1 a.2) (a := (10, sb2 c 1 y2)) a3).trans ?_
    refine (Lp_l (F := fun a => f_X0_addNumber_L19 1 x2 a.1 a.2) (a := (1, sb2 c 1 y3)) a4).trans ?_
    exact Lp_r rfl
  · simp only [show ¬ (1000 = 1) by decide, show ¬ (100 = 1) by decide, show ¬ (10 = 1) by decide, or_false, or_true, if_true] at b4
    unfold nd4
    rw [← List.append_assoc, ← List.append_assoc, ← List.append_assoc]
    exact b4
theorem addNumber_o {c : CS} {x : Int32} {v : Int} (hx : x.toInt = v) (hv : -10000 < v ∧ v < 10000) {y : (Nat → Int32) × Int32} {L : List Int32} (hy : OW y L) (hl : L.length + 5 ≤ 1500) : ∃ y', f_X0_addNumber 1 x (sb2 c 1 y) = some (sb2 c 1 y') ∧ OW y' (L ++ nl v) := by
  unfold f_X0_addNumber nl
  by_cases h : v < 0
  · rw [if_neg (by rw [ile, hx, k0]; omega), if_pos h]
    obtain ⟨y1, a1, b1⟩ := add_o (c := c) (x := 45) hy (by omega) b45
    simp only [lt]
    rw [a1]
    obtain ⟨y2, a2, b2⟩ := addN_l (c := c) (x2 := -x) (k := v.natAbs) (by rw [ineg (by omega), hx]; omega) b1 (by rw [len1]; omega)
    rw [a2, ← List.append_assoc]
    exact ⟨y2, rfl, b2⟩
  · rw [if_pos (by rw [ile, hx, k0]; omega), if_neg h]
    obtain ⟨y2, a2, b2⟩ := addN_l (c := c) (x2 := x) (k := v.natAbs) (by rw [hx]; omega) hy (by omega)
    rw [a2, List.nil_append]
    exact ⟨y2, rfl, b2⟩
def rdl (k : Nat) : Nat → List Int32
  | 0 => [dd k 1]
  | e + 1 => dd k (10 ^ (e + 1)) :: rdl k e
theorem rdl_len (k : Nat) : ∀ e, (rdl k e).length = e + 1
  | 0 => rfl
  | e + 1 => by rw [rdl, List.length_cons, rdl_len k e]
theorem rdl_nd {k e : Nat} (he : e ≤ 3) (h : k < 10 ^ (e + 1)) (h2 : e = 0 ∨ 10 ^ e ≤ k) : rdl k e = nd4 k := by
  have he' : e = 0 ∨ e = 1 ∨ e = 2 ∨ e = 3 := by omega
  unfold nd4
  rcases he' with rfl | rfl | rfl | rfl
  · rw [if_neg (by omega), if_neg (by omega), if_neg (by omega)]; rfl
  · rw [if_neg (by omega), if_neg (by omega), if_pos (by omega)]; rfl
  · rw [if_neg (by omega), if_pos (by omega), if_pos (by omega)]; rfl
  · rw [if_pos (by omega), if_pos (by omega), if_pos (by omega)]; rfl
theorem putN_u {m : MS} {x2 : Int32} {k : Nat} (hx2 : x2.toInt = k) (hk : k < 10000) : ∃ b, Lp (fun a => f_X7_putNumber_L23 x2 a m) 1 = some b ∧ ∃ e, b.toInt = ((10 ^ e : Nat) : Int) ∧ e ≤ 3 ∧ k < 10 ^ (e + 1) ∧ (e = 0 ∨ 10 ^ e ≤ k) := by
  have k10 : (10 : Int32).toInt = 10 := by decide
  refine Lp_inv (F := fun a => f_X7_putNumber_L23 x2 a m) (fun n a => ∃ e : Nat, a.toInt = ((10 ^ e : Nat) : Int) ∧ e + n = 3 ∧ (e = 0 ∨ 10 ^ e ≤ k)) _ ?_ 3 1 ⟨0, by decide, by omega, .inl rfl⟩
  rintro n x3 ⟨e, h1, h2, h3⟩
  show (∃ b, f_X7_putNumber_L23 x2 x3 m = _ ∧ _) ∨ ∃ a' n', f_X7_putNumber_L23 x2 x3 m = _ ∧ _
  have hp : 0 < 10 ^ e := Nat.pow_pos (by decide)
  have hp3 : 10 ^ e ≤ 10 ^ 3 := Nat.pow_le_pow_right (by decide) (by omega)
  have hd := idv_n hx2 h1
  unfold f_X7_putNumber_L23
  rw [if_pos (fun h => by rw [ieq, h1, k0] at h; omega)]
  by_cases h4 : k / 10 ^ e < 10
  · rw [if_pos (by rw [ilt, hd, k10]; omega)]
    refine .inl ⟨_, rfl, e, h1, by omega, ?_, h3⟩
    rw [Nat.pow_succ, Nat.mul_comm]
    exact (Nat.div_lt_iff_lt_mul hp).mp h4
  · rw [if_neg (by rw [ilt, hd, k10]; omega)]
    have h5 : 10 ^ (e + 1) ≤ k := by
      rw [Nat.pow_succ, Nat.mul_comm]
      rcases Nat.lt_or_ge k (10 * 10 ^ e) with q | q
      · exact absurd ((Nat.div_lt_iff_lt_mul hp).mpr q) h4
      · exact q
    have h6 : e + 1 ≤ 3 := by
      rcases Nat.lt_or_ge 3 (e + 1) with q | q
      · have : 10 ^ 4 ≤ 10 ^ (e + 1) := Nat.pow_le_pow_right (by decide) q
        omega
      · exact q
    refine .inr ⟨_, n - 1, rfl, by omega, e + 1, ?_, by omega, .inr h5⟩
    rw [im (by rw [h1, k10]; omega) (by rw [h1, k10]; omega), h1, k10, Nat.pow_succ]; omega
theorem putN_l {m : MS} {x2 : Int32} {k : Nat} (hx2 : x2.toInt = k) : ∀ (e : Nat) (x3 : Int32) (v : Nat → Int32) (L : List Int32), e ≤ 3 → x3.toInt = ((10 ^ e : Nat) : Int) → PW v L → L.length + e + 1 ≤ 1600 → ∃ v', Lp (fun z => f_X7_putNumber_L39 x2 z.1 z.2) (x3, ps m v L) = some (ps m v' (L ++ rdl k e)) ∧ PW v' (L ++ rdl k e) := by
  have k10 : (10 : Int32).toInt = ((10 : Nat) : Int) := by decide
  have stp : ∀ (x3 : Int32) (t : Nat) (v : Nat → Int32) (L : List Int32), x3.toInt = (t : Int) → 0 < t → PW v L → L.length < 1600 → ∃ v', f_X7_putNumber_L39 x2 x3 (ps m v L) = some (.inl (x3 / 10, ps m v' (L ++ [dd k t]))) ∧ PW v' (L ++ [dd k t]) := by
    intro x3 t v L h3 ht hv hl
    obtain ⟨v', g1, g2⟩ := put_o (m := m) (x := dd k t) hv hl
    refine ⟨v', ?_, g2⟩
    unfold f_X7_putNumber_L39
    rw [if_neg (by rw [ile, h3, k0]; omega), if_pos (fun h => by rw [ieq, h3, k0] at h; omega), dd_eq hx2 h3, g1]
    rfl
  intro e
  induction e with
  | zero =>
    intro x3 v L he h3 hv hl
    obtain ⟨v', g1, g2⟩ := stp x3 1 v L h3 (by decide) hv (by omega)
    refine ⟨v', (Lp_l (F := fun z => f_X7_putNumber_L39 x2 z.1 z.2) (a := (x3, ps m v L)) g1).trans (Lp_r ?_), g2⟩
    show f_X7_putNumber_L39 x2 (x3 / 10) (ps m v' (L ++ [dd k 1])) = _
    have h4 := idv_n h3 k10
    unfold f_X7_putNumber_L39
    rw [if_pos (by rw [ile, h4, k0]; decide)]
    rfl
  | succ e ih =>
    intro x3 v L he h3 hv hl
    obtain ⟨v', g1, g2⟩ := stp x3 (10 ^ (e + 1)) v L h3 (Nat.pow_pos (by decide)) hv (by omega)
    have h4 := idv_n h3 k10
    rw [Nat.pow_succ, Nat.mul_div_cancel _ (by decide)] at h4
    obtain ⟨v'', k1, k2⟩ := ih (x3 / 10) v' (L ++ [dd k (10 ^ (e + 1))]) (by omega) h4 g2 (by rw [len1]; omega)
    rw [← app1] at k1 k2
    exact ⟨v'', (Lp_l (F := fun z => f_X7_putNumber_L39 x2 z.1 z.2) (a := (x3, ps m v L)) g1).trans k1, k2⟩
theorem putNumber_o {m : MS} {x : Int32} {v : Int} (hx : x.toInt = v) (hv : -10000 < v ∧ v < 10000) {u : Nat → Int32} {L : List Int32} (hy : PW u L) (hl : L.length + 5 ≤ 1600) : ∃ u', f_X7_putNumber x (ps m u L) = some (ps m u' (L ++ nl v)) ∧ PW u' (L ++ nl v) := by
  unfold f_X7_putNumber f_X7_putNumber_J10 nl
  by_cases h : v < 0
  · have hn : ¬ 0 ≤ x := by rw [ile, hx, k0]; omega
    rw [if_neg hn, if_neg hn, if_pos h]
    obtain ⟨u1, a1, b1⟩ := put_o (m := m) (x := 45) hy (by omega)
    have hx' : (-x).toInt = ((v.natAbs : Nat) : Int) := by rw [ineg (by omega), hx]; omega
    rw [a1]; simp only [Option.bind]
    obtain ⟨b, g1, e, g2, g3, g4, g5⟩ := putN_u (m := ps m u1 (L ++ [45])) hx' (by omega)
    rw [g1]; simp only
    obtain ⟨u2, a2, b2⟩ := putN_l (m := m) hx' e b u1 (L ++ [45]) g3 g2 b1 (by rw [len1]; omega)
    rw [rdl_nd g3 g4 g5, List.append_assoc] at a2 b2
    rw [a2]
    exact ⟨u2, rfl, b2⟩
  · have hn : 0 ≤ x := by rw [ile, hx, k0]; omega
    rw [if_pos hn, if_pos hn, if_neg h, List.nil_append]
    have hx' : x.toInt = ((v.natAbs : Nat) : Int) := by rw [hx]; omega
    obtain ⟨b, g1, e, g2, g3, g4, g5⟩ := putN_u (m := ps m u L) hx' (by omega)
    rw [g1]; simp only [Option.bind]
    obtain ⟨u2, a2, b2⟩ := putN_l (m := m) hx' e b u L g3 g2 hy (by omega)
    rw [rdl_nd g3 g4 g5] at a2 b2
    rw [a2]
    exact ⟨u2, rfl, b2⟩
/-! the class writes -/
theorem addDigits_o {c : CS} {n : Nat} (hc : dcC c = nI n) (hn : n ≤ 1420) (hd : ∀ k, k < n → 0 ≤ (dcD c k).toInt ∧ (dcD c k).toInt < 10) {a : Nat} (ha : a < 2147483648) {y : (Nat → Int32) × Int32} {L : List Int32} (hy : OW y L) (hl : L.length + (n - a) ≤ 1500) : ∃ y', f_X0_addDigits 1 (nI a) (sb2 c 1 y) = some (sb2 c 1 y') ∧ OW y' (L ++ dl (dgf (dcD c) n) a (n - a)) := by
  unfold f_X0_addDigits
  by_cases h : a ≤ n
  · obtain ⟨y', g1, g2⟩ := addDigits_l hc hn hd (n - a) a y L (by omega) hy hl
    rw [g1]
    exact ⟨y', rfl, g2⟩
  · have e : Lp (fun z => f_X0_addDigits_L2 1 z.1 z.2) (nI a, sb2 c 1 y) = some (sb2 c 1 y) := by
      refine Lp_r ?_
      show f_X0_addDigits_L2 1 (nI a) (sb2 c 1 y) = _
      unfold f_X0_addDigits_L2
      rw [if_pos (show dcC (sb2 c 1 y) ≤ nI a by show dcC c ≤ nI a; rw [hc, cle2 (by omega) (by omega)]; omega)]
    rw [e, show n - a = 0 by omega, dl, List.append_nil]
    exact ⟨y, rfl, hy⟩
def pln (g : Nat → Int32) (n : Nat) (p : Int) : List Int32 := if p < 1 then (dl (sxW 9) 0 (sxN 9) ++ dl z48 0 (-p).toNat) ++ dl g 0 n else (dl g 0 p.toNat ++ (if p < n then [46] else [])) ++ dl g p.toNat (n - p.toNat)
def sci (g : Nat → Int32) (n : Nat) (p : Int) : List Int32 := ((([g 0] ++ (if 1 < n then [46] else [])) ++ dl g 1 (n - 1)) ++ [101]) ++ nl (p - 1)
def isPl (form : Nat) (p : Int) : Bool := decide (form = 1 ∨ (form = 2 ∧ -5 ≤ p ∧ p ≤ 21))
def txt (form : Nat) (g : Nat → Int32) (n : Nat) (p : Int) : List Int32 := if isPl form p then pln g n p else sci g n p
theorem addPlain_o {c : CS} {n : Nat} {p : Int} (hc : dcC c = nI n) (hn : n ≤ 1420) (hd : ∀ k, k < n → 0 ≤ (dcD c k).toInt ∧ (dcD c k).toInt < 10) (hp : (dcP c).toInt = p) (hp1 : p ≤ 400) (hp2 : p < 1 → -p + n ≤ 1490) {y : (Nat → Int32) × Int32} {L : List Int32} (hy : OW y L) (hl : L.length ≤ 1) : ∃ y', f_X0_addPlain 1 (sb2 c 1 y) = some (sb2 c 1 y') ∧ OW y' (L ++ pln (dgf (dcD c) n) n p) := by
  have one : (1 : Int32).toInt = 1 := by decide
  have eP : ∀ z, dcP (sb2 c 1 z) = dcP c := fun z => rfl
  have eC : ∀ z, dcC (sb2 c 1 z) = dcC c := fun z => rfl
  unfold f_X0_addPlain pln
  by_cases h : p < 1
  · rw [if_neg (by rw [eP, ile, hp, one]; omega), if_pos h]
    have w9 : sxN 9 = 2 := words.2.2.1
    obtain ⟨y1, a1, b1⟩ := addWord_o (c := c) (j := 9) (by rw [w9]; decide) hy (by rw [w9]; omega)
    rw [a1]; simp only [Option.bind, lt]
    obtain ⟨y2, a2, b2⟩ := plain_l19 (c := c) (-p).toNat (dcP c) y1 _ (by rw [hp]; omega) b1 (by rw [List.length_append, dl_len, w9]; omega)
    rw [eP, a2]; simp only
    obtain ⟨y3, a3, b3⟩ := addDigits_o (c := c) hc hn hd (a := 0) (by decide) b2 (by rw [List.length_append, List.length_append, dl_len, dl_len, w9]; omega)
    rw [show (0 : Int32) = nI 0 from rfl, a3]
    refine ⟨y3, rfl, ?_⟩
    rw [Nat.sub_zero] at b3
    simpa [List.append_assoc] using b3
  · rw [if_pos (by rw [eP, ile, hp, one]; omega), if_neg h]
    obtain ⟨q, hq⟩ : ∃ q : Nat, p = q := ⟨p.toNat, by omega⟩
    have hpq : dcP c = nI q := nIeq (by rw [hp, hq]) (by omega)
    obtain ⟨y1, a1, b1⟩ := plain_l44 hc hn hd hpq (by omega) q 0 y L (by omega) hy (by omega)
    rw [show ((0 : Int32), sb2 c 1 y) = (nI 0, sb2 c 1 y) from rfl, a1]; simp only [Option.bind]
    rw [eP, eC, hpq, hc, show p.toNat = q by omega]
    unfold f_X0_addPlain_J87
    by_cases h2 : n ≤ q
    · rw [if_pos ((cle2 (by omega) (by omega)).mpr h2), if_neg (show ¬ p < (n : Int) by omega), List.append_nil]
      obtain ⟨y3, a3, b3⟩ := addDigits_o (c := c) hc hn hd (a := q) (by omega) b1 (by rw [List.length_append, dl_len]; omega)
      rw [eP, hpq, a3]
      refine ⟨y3, rfl, ?_⟩
      rw [← List.append_assoc]; exact b3
    · rw [if_neg (fun x => h2 ((cle2 (by omega) (by omega)).mp x)), if_pos (show p < (n : Int) by omega)]
      obtain ⟨y2, a2, b2⟩ := add_o (c := c) (x := 46) b1 (by rw [List.length_append, dl_len]; omega) b46
      simp only [lt]
      rw [a2, eP, hpq]
      obtain ⟨y3, a3, b3⟩ := addDigits_o (c := c) hc hn hd (a := q) (by omega) b2 (by rw [len1, List.length_append, dl_len]; omega)
      rw [a3]
      refine ⟨y3, rfl, ?_⟩
      rw [← List.append_assoc, ← List.append_assoc]; exact b3
theorem addSci_o {c : CS} {n : Nat} {p : Int} (hc : dcC c = nI n) (hn : n ≤ 1420) (hn1 : 1 ≤ n) (hd : ∀ k, k < n → 0 ≤ (dcD c k).toInt ∧ (dcD c k).toInt < 10) (hp : (dcP c).toInt = p) (hp1 : p ≤ 400) (hp2 : -2000 ≤ p) {y : (Nat → Int32) × Int32} {L : List Int32} (hy : OW y L) (hl : L.length ≤ 1) : ∃ y', f_X0_addScientific 1 (sb2 c 1 y) = some (sb2 c 1 y') ∧ OW y' (L ++ sci (dgf (dcD c) n) n p) := by
  have one : (1 : Int32).toInt = 1 := by decide
  have eP : ∀ z, dcP (sb2 c 1 z) = dcP c := fun z => rfl
  have eC : ∀ z, dcC (sb2 c 1 z) = dcC c := fun z => rfl
  unfold f_X0_addScientific sci
  have e : f_X1_digitAt 0 (sb2 c 1 y) = if 0 < n then dcD c 0 else 0 := digitAt_c (c := sb2 c 1 y) (k := 0) hc hn (by decide)
  obtain ⟨y1, a1, b1⟩ := add_o (c := c) (x := dgf (dcD c) n 0) hy (by omega) (dgf_by hd 0)
  have a1' : f_X0_add 1 (48 + f_X1_digitAt 0 (sb2 c 1 y)) (sb2 c 1 y) = sb2 c 1 y1 := by rw [e]; exact a1
  simp only [lt]
  rw [a1', eC, hc]
  have j26 : ∀ (z : (Nat → Int32) × Int32) (M : List Int32), OW z M → M.length ≤ 3 → ∃ y', f_X0_addScientific_J26 1 (sb2 c 1 z) = some (sb2 c 1 y') ∧ OW y' (((M ++ dl (dgf (dcD c) n) 1 (n - 1)) ++ [101]) ++ nl (p - 1)) := by
    intro z M hz hM
    unfold f_X0_addScientific_J26
    obtain ⟨y2, a2, b2⟩ := addDigits_o (c := c) hc hn hd (a := 1) (by decide) hz (by omega)
    rw [show (1 : Int32) = nI 1 from rfl, a2]; simp only [Option.bind, lt]
    obtain ⟨y3, a3, b3⟩ := add_o (c := c) (x := 101) b2 (by rw [List.length_append, dl_len]; omega) b101
    rw [a3, eP]
    have hpp : (dcP c - nI 1).toInt = p - 1 := by
      rw [show nI 1 = (1 : Int32) from rfl, is_ (by rw [hp, one]; omega) (by rw [hp, one]; omega), hp, one]
    obtain ⟨y4, a4, b4⟩ := addNumber_o (c := c) hpp (by omega) b3 (by rw [len1, List.length_append, dl_len]; omega)
    rw [a4]
    exact ⟨y4, rfl, b4⟩
  by_cases h : n ≤ 1
  · rw [if_pos (show nI n ≤ 1 by rw [ile, nI_toInt (by omega), one]; omega), if_neg (show ¬ 1 < n by omega), List.append_nil]
    obtain ⟨y', g1, g2⟩ := j26 y1 _ b1 (by rw [len1]; omega)
    refine ⟨y', g1, ?_⟩
    simpa [List.append_assoc] using g2
  · rw [if_neg (show ¬ nI n ≤ 1 by rw [ile, nI_toInt (by omega), one]; omega), if_pos (show 1 < n by omega)]
    obtain ⟨y2, a2, b2⟩ := add_o (c := c) (x := 46) b1 (by rw [len1]; omega) b46
    rw [a2]
    obtain ⟨y', g1, g2⟩ := j26 y2 _ b2 (by rw [len1, len1]; omega)
    refine ⟨y', g1, ?_⟩
    simpa [List.append_assoc] using g2
