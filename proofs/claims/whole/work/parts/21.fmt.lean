def f_X2_owns (f0 : Nat) (x1 : Int64) : Int32 :=
  if (fW f0) = 64 then
    1
  else
    if (jushr x1 (fW f0)) = 0 then
      1
    else
      0
set_option maxRecDepth 20000 in
theorem w_X2_owns {g : Cx} {mc ms : Nat} {c : CS} {m : MS} {z : Nat → Int64} {f0 : Nat} {x1 : Int64} {s : Int32} (hf0 : f0 < 4) (hG : Gd g RX2 cX2_owns 3 1 mc ms) (h : f_X2_owns f0 x1 = s) (hK : FinZ g cX2_owns mc ms s (c, m, z)) : AW g 0 [(0, .ref (wad (cxw g) (30 + f0))), (1, .long x1)] [] (c, m, z) 0 0 := by
  unfold f_X2_owns at h
  refine aw_aload_n hG 0 rfl dX2_owns_0 rfl ?_
  refine aw_fW hG hf0 l_110 dX2_owns_1 ?_
  refine aw_bipush (v := 64) hG dX2_owns_4 rfl ?_
  refine aw_icmp_eq (t := 20) hG dX2_owns_6 rfl (fun hc => ?_) (fun hc => ?_)
  · replace h := it_p hc h
    refine aw_iconst (v := 1) hG dX2_owns_20 rfl ?_
    refine aw_goto (t := 25) hG dX2_owns_21 rfl ?_
    subst h
    exact FinZ.z hK (Or.inr rfl) dX2_owns_25
  · replace h := it_n hc h
    refine aw_lload_n hG 1 rfl dX2_owns_9 rfl ?_
    refine aw_aload_n hG 0 rfl dX2_owns_10 rfl ?_
    refine aw_fW hG hf0 l_110 dX2_owns_11 ?_
    refine aw_lushrJ hG dX2_owns_14 ?_
    refine aw_lconst (v := 0) hG dX2_owns_15 rfl ?_
    refine aw_lc_ne (t := 24) hG dX2_owns_16 rfl dX2_owns_17 rfl rfl (fun hc => ?_) (fun hc => ?_)
    · replace h := it_n hc h
      refine aw_iconst (v := 0) hG dX2_owns_24 rfl ?_
      subst h
      exact FinZ.z hK (Or.inl rfl) dX2_owns_25
    · replace h := it_p hc h
      refine aw_iconst (v := 1) hG dX2_owns_20 rfl ?_
      refine aw_goto (t := 25) hG dX2_owns_21 rfl ?_
      subst h
      exact FinZ.z hK (Or.inr rfl) dX2_owns_25
theorem c_X2_owns {c : CS} {m : MS} {z : Nat → Int64} {f0 : Nat} {x1 : Int64} (hf0 : f0 < 4) : CtN yX2_owns cX2_owns 3 (some .boolean) 1 (fun w => [.ref (wad w (30 + f0)), .long x1]) (c, m, z) (fun _ => some (.int (f_X2_owns f0 x1))) (c, m, z) := CtN_ofZ (by decide +kernel) (fun _ => Nat.le_of_ble_eq_true rfl) (fun g hG hK => w_X2_owns hf0 hG rfl hK)
theorem b_X2_owns {f0 : Nat} {x1 : Int64} : f_X2_owns f0 x1 = 0 ∨ f_X2_owns f0 x1 = 1 := by
  unfold f_X2_owns
  repeat' split
  all_goals first | exact Or.inl rfl | exact Or.inr rfl
def f_X2_signBit (f0 : Nat) : Int64 :=
  (jshl 1 ((fW f0) - 1))
set_option maxRecDepth 20000 in
theorem w_X2_signBit {g : Cx} {mc ms : Nat} {c : CS} {m : MS} {z : Nat → Int64} {f0 : Nat} {s : Int64} (hf0 : f0 < 4) (hG : Gd g RX2 cX2_signBit 1 1 mc ms) (h : f_X2_signBit f0 = s) (hK : FinJ g cX2_signBit mc ms s (c, m, z)) : AW g 0 [(0, .ref (wad (cxw g) (30 + f0)))] [] (c, m, z) 0 0 := by
  unfold f_X2_signBit at h
  refine aw_lconst (v := 1) hG dX2_signBit_0 rfl ?_
  refine aw_aload_n hG 0 rfl dX2_signBit_1 rfl ?_
  refine aw_fW hG hf0 l_110 dX2_signBit_2 ?_
  refine aw_iconst (v := 1) hG dX2_signBit_5 rfl ?_
  refine aw_isub hG dX2_signBit_6 ?_
  refine aw_lshlJ hG dX2_signBit_7 ?_
  subst h
  exact FinJ.z hK dX2_signBit_8
theorem c_X2_signBit {c : CS} {m : MS} {z : Nat → Int64} {f0 : Nat} (hf0 : f0 < 4) : CtN yX2_signBit cX2_signBit 1 (some .long) 1 (fun w => [.ref (wad w (30 + f0))]) (c, m, z) (fun _ => some (.long (f_X2_signBit f0))) (c, m, z) := CtN_ofJ (by decide +kernel) (fun _ => Nat.le_of_ble_eq_true rfl) (fun g hG hK => w_X2_signBit hf0 hG rfl hK)
def f_X2_hiddenBit (f0 : Nat) : Int64 :=
  (jshl 1 ((fP f0) - 1))
set_option maxRecDepth 20000 in
theorem w_X2_hiddenBit {g : Cx} {mc ms : Nat} {c : CS} {m : MS} {z : Nat → Int64} {f0 : Nat} {s : Int64} (hf0 : f0 < 4) (hG : Gd g RX2 cX2_hiddenBit 1 1 mc ms) (h : f_X2_hiddenBit f0 = s) (hK : FinJ g cX2_hiddenBit mc ms s (c, m, z)) : AW g 0 [(0, .ref (wad (cxw g) (30 + f0)))] [] (c, m, z) 0 0 := by
  unfold f_X2_hiddenBit at h
  refine aw_lconst (v := 1) hG dX2_hiddenBit_0 rfl ?_
  refine aw_aload_n hG 0 rfl dX2_hiddenBit_1 rfl ?_
  refine aw_fP hG hf0 l_111 dX2_hiddenBit_2 ?_
  refine aw_iconst (v := 1) hG dX2_hiddenBit_5 rfl ?_
  refine aw_isub hG dX2_hiddenBit_6 ?_
  refine aw_lshlJ hG dX2_hiddenBit_7 ?_
  subst h
  exact FinJ.z hK dX2_hiddenBit_8
theorem c_X2_hiddenBit {c : CS} {m : MS} {z : Nat → Int64} {f0 : Nat} (hf0 : f0 < 4) : CtN yX2_hiddenBit cX2_hiddenBit 1 (some .long) 1 (fun w => [.ref (wad w (30 + f0))]) (c, m, z) (fun _ => some (.long (f_X2_hiddenBit f0))) (c, m, z) := CtN_ofJ (by decide +kernel) (fun _ => Nat.le_of_ble_eq_true rfl) (fun g hG hK => w_X2_hiddenBit hf0 hG rfl hK)
def f_X2_infinite (f0 : Nat) : Int64 :=
  ((f_X2_signBit f0) - (f_X2_hiddenBit f0))
set_option maxRecDepth 20000 in
theorem w_X2_infinite {g : Cx} {mc ms : Nat} {c : CS} {m : MS} {z : Nat → Int64} {f0 : Nat} {s : Int64} (hf0 : f0 < 4) (hG : Gd g RX2 cX2_infinite 1 2 mc ms) (h : f_X2_infinite f0 = s) (hK : FinJ g cX2_infinite mc ms s (c, m, z)) : AW g 0 [(0, .ref (wad (cxw g) (30 + f0)))] [] (c, m, z) 0 0 := by
  unfold f_X2_infinite at h
  refine aw_aload_n hG 0 rfl dX2_infinite_0 rfl ?_
  refine aw_callNl (As := []) (rest := []) hG (c_X2_signBit (f0 := f0) (c := c) hf0) l_112 wf_X2_signBit (rv_X2 hG hf0) rfl rfl rfl (by decide) (Nat.zero_le _) (Nat.zero_le _) (Nat.le_of_ble_eq_true rfl) dX2_infinite_1 ?_
  refine aw_aload_n hG 0 rfl dX2_infinite_4 rfl ?_
  refine aw_callNl (As := []) (rest := [.long (f_X2_signBit f0)]) hG (c_X2_hiddenBit (f0 := f0) (c := c) hf0) l_116 wf_X2_hiddenBit (rv_X2 hG hf0) rfl rfl rfl (by decide) (Nat.zero_le _) (Nat.zero_le _) (Nat.le_of_ble_eq_true rfl) dX2_infinite_5 ?_
  refine aw_lsub hG dX2_infinite_8 ?_
  subst h
  exact FinJ.z hK dX2_infinite_9
theorem c_X2_infinite {c : CS} {m : MS} {z : Nat → Int64} {f0 : Nat} (hf0 : f0 < 4) : CtN yX2_infinite cX2_infinite 1 (some .long) 2 (fun w => [.ref (wad w (30 + f0))]) (c, m, z) (fun _ => some (.long (f_X2_infinite f0))) (c, m, z) := CtN_ofJ (by decide +kernel) (fun _ => Nat.le_of_ble_eq_true rfl) (fun g hG hK => w_X2_infinite hf0 hG rfl hK)
def f_X2_isMinus (f0 : Nat) (x1 : Int64) : Int32 :=
  if (x1 &&& (f_X2_signBit f0)) = 0 then
    0
  else
    1
set_option maxRecDepth 20000 in
theorem w_X2_isMinus {g : Cx} {mc ms : Nat} {c : CS} {m : MS} {z : Nat → Int64} {f0 : Nat} {x1 : Int64} {s : Int32} (hf0 : f0 < 4) (hG : Gd g RX2 cX2_isMinus 3 2 mc ms) (h : f_X2_isMinus f0 x1 = s) (hK : FinZ g cX2_isMinus mc ms s (c, m, z)) : AW g 0 [(0, .ref (wad (cxw g) (30 + f0))), (1, .long x1)] [] (c, m, z) 0 0 := by
  unfold f_X2_isMinus at h
  refine aw_lload_n hG 1 rfl dX2_isMinus_0 rfl ?_
  refine aw_aload_n hG 0 rfl dX2_isMinus_1 rfl ?_
  refine aw_callNl (As := []) (rest := [.long x1]) hG (c_X2_signBit (f0 := f0) (c := c) hf0) l_112 wf_X2_signBit (rv_X2 hG hf0) rfl rfl rfl (by decide) (Nat.zero_le _) (Nat.zero_le _) (Nat.le_of_ble_eq_true rfl) dX2_isMinus_2 ?_
  refine aw_land hG dX2_isMinus_5 ?_
  refine aw_lconst (v := 0) hG dX2_isMinus_6 rfl ?_
  refine aw_lc_eq (t := 15) hG dX2_isMinus_7 rfl dX2_isMinus_8 rfl rfl (fun hc => ?_) (fun hc => ?_)
  · replace h := it_p hc h
    refine aw_iconst (v := 0) hG dX2_isMinus_15 rfl ?_
    subst h
    exact FinZ.z hK (Or.inl rfl) dX2_isMinus_16
  · replace h := it_n hc h
    refine aw_iconst (v := 1) hG dX2_isMinus_11 rfl ?_
    refine aw_goto (t := 16) hG dX2_isMinus_12 rfl ?_
    subst h
    exact FinZ.z hK (Or.inr rfl) dX2_isMinus_16
theorem c_X2_isMinus {c : CS} {m : MS} {z : Nat → Int64} {f0 : Nat} {x1 : Int64} (hf0 : f0 < 4) : CtN yX2_isMinus cX2_isMinus 3 (some .boolean) 2 (fun w => [.ref (wad w (30 + f0)), .long x1]) (c, m, z) (fun _ => some (.int (f_X2_isMinus f0 x1))) (c, m, z) := CtN_ofZ (by decide +kernel) (fun _ => Nat.le_of_ble_eq_true rfl) (fun g hG hK => w_X2_isMinus hf0 hG rfl hK)
theorem b_X2_isMinus {f0 : Nat} {x1 : Int64} : f_X2_isMinus f0 x1 = 0 ∨ f_X2_isMinus f0 x1 = 1 := by
  unfold f_X2_isMinus
  repeat' split
  all_goals first | exact Or.inl rfl | exact Or.inr rfl
def f_X2_sizeOf (f0 : Nat) (x1 : Int64) : Int64 :=
  (x1 &&& ((f_X2_signBit f0) - 1))
set_option maxRecDepth 20000 in
theorem w_X2_sizeOf {g : Cx} {mc ms : Nat} {c : CS} {m : MS} {z : Nat → Int64} {f0 : Nat} {x1 : Int64} {s : Int64} (hf0 : f0 < 4) (hG : Gd g RX2 cX2_sizeOf 3 2 mc ms) (h : f_X2_sizeOf f0 x1 = s) (hK : FinJ g cX2_sizeOf mc ms s (c, m, z)) : AW g 0 [(0, .ref (wad (cxw g) (30 + f0))), (1, .long x1)] [] (c, m, z) 0 0 := by
  unfold f_X2_sizeOf at h
  refine aw_lload_n hG 1 rfl dX2_sizeOf_0 rfl ?_
  refine aw_aload_n hG 0 rfl dX2_sizeOf_1 rfl ?_
  refine aw_callNl (As := []) (rest := [.long x1]) hG (c_X2_signBit (f0 := f0) (c := c) hf0) l_112 wf_X2_signBit (rv_X2 hG hf0) rfl rfl rfl (by decide) (Nat.zero_le _) (Nat.zero_le _) (Nat.le_of_ble_eq_true rfl) dX2_sizeOf_2 ?_
  refine aw_lconst (v := 1) hG dX2_sizeOf_5 rfl ?_
  refine aw_lsub hG dX2_sizeOf_6 ?_
  refine aw_land hG dX2_sizeOf_7 ?_
  subst h
  exact FinJ.z hK dX2_sizeOf_8
theorem c_X2_sizeOf {c : CS} {m : MS} {z : Nat → Int64} {f0 : Nat} {x1 : Int64} (hf0 : f0 < 4) : CtN yX2_sizeOf cX2_sizeOf 3 (some .long) 2 (fun w => [.ref (wad w (30 + f0)), .long x1]) (c, m, z) (fun _ => some (.long (f_X2_sizeOf f0 x1))) (c, m, z) := CtN_ofJ (by decide +kernel) (fun _ => Nat.le_of_ble_eq_true rfl) (fun g hG hK => w_X2_sizeOf hf0 hG rfl hK)
def f_X2_signed (f0 : Nat) (x1 : Int32) (x2 : Int64) : Int64 :=
  if x1 = 0 then
    x2
  else
    (x2 ||| (f_X2_signBit f0))
set_option maxRecDepth 20000 in
theorem w_X2_signed {g : Cx} {mc ms : Nat} {c : CS} {m : MS} {z : Nat → Int64} {f0 : Nat} {x1 : Int32} {x2 : Int64} {s : Int64} (hf0 : f0 < 4) (hG : Gd g RX2 cX2_signed 4 2 mc ms) (h : f_X2_signed f0 x1 x2 = s) (hK : FinJ g cX2_signed mc ms s (c, m, z)) : AW g 0 [(0, .ref (wad (cxw g) (30 + f0))), (1, .int x1), (2, .long x2)] [] (c, m, z) 0 0 := by
  unfold f_X2_signed at h
  refine aw_iload_n hG 1 rfl dX2_signed_0 rfl ?_
  refine aw_if_eq (t := 13) hG dX2_signed_1 rfl (fun hc => ?_) (fun hc => ?_)
  · replace h := it_p hc h
    refine aw_lload_n hG 2 rfl dX2_signed_13 rfl ?_
    subst h
    exact FinJ.z hK dX2_signed_14
  · replace h := it_n hc h
    refine aw_lload_n hG 2 rfl dX2_signed_4 rfl ?_
    refine aw_aload_n hG 0 rfl dX2_signed_5 rfl ?_
    refine aw_callNl (As := []) (rest := [.long x2]) hG (c_X2_signBit (f0 := f0) (c := c) hf0) l_112 wf_X2_signBit (rv_X2 hG hf0) rfl rfl rfl (by decide) (Nat.zero_le _) (Nat.zero_le _) (Nat.le_of_ble_eq_true rfl) dX2_signed_6 ?_
    refine aw_lor hG dX2_signed_9 ?_
    refine aw_goto (t := 14) hG dX2_signed_10 rfl ?_
    subst h
    exact FinJ.z hK dX2_signed_14
theorem c_X2_signed {c : CS} {m : MS} {z : Nat → Int64} {f0 : Nat} {x1 : Int32} {x2 : Int64} (hf0 : f0 < 4) : CtN yX2_signed cX2_signed 4 (some .long) 2 (fun w => [.ref (wad w (30 + f0)), .int x1, .long x2]) (c, m, z) (fun _ => some (.long (f_X2_signed f0 x1 x2))) (c, m, z) := CtN_ofJ (by decide +kernel) (fun _ => Nat.le_of_ble_eq_true rfl) (fun g hG hK => w_X2_signed hf0 hG rfl hK)
def f_X2_isZero (f0 : Nat) (x1 : Int64) : Int32 :=
  if (f_X2_sizeOf f0 x1) = 0 then
    1
  else
    0
set_option maxRecDepth 20000 in
theorem w_X2_isZero {g : Cx} {mc ms : Nat} {c : CS} {m : MS} {z : Nat → Int64} {f0 : Nat} {x1 : Int64} {s : Int32} (hf0 : f0 < 4) (hG : Gd g RX2 cX2_isZero 3 3 mc ms) (h : f_X2_isZero f0 x1 = s) (hK : FinZ g cX2_isZero mc ms s (c, m, z)) : AW g 0 [(0, .ref (wad (cxw g) (30 + f0))), (1, .long x1)] [] (c, m, z) 0 0 := by
  unfold f_X2_isZero at h
  refine aw_aload_n hG 0 rfl dX2_isZero_0 rfl ?_
  refine aw_lload_n hG 1 rfl dX2_isZero_1 rfl ?_
  refine aw_callNl (As := [.long x1]) (rest := []) hG (c_X2_sizeOf (f0 := f0) (x1 := x1) (c := c) hf0) l_120 wf_X2_sizeOf (rv_X2 hG hf0) rfl rfl rfl (by decide) (Nat.zero_le _) (Nat.zero_le _) (Nat.le_of_ble_eq_true rfl) dX2_isZero_2 ?_
  refine aw_lconst (v := 0) hG dX2_isZero_5 rfl ?_
  refine aw_lc_ne (t := 14) hG dX2_isZero_6 rfl dX2_isZero_7 rfl rfl (fun hc => ?_) (fun hc => ?_)
  · replace h := it_n hc h
    refine aw_iconst (v := 0) hG dX2_isZero_14 rfl ?_
    subst h
    exact FinZ.z hK (Or.inl rfl) dX2_isZero_15
  · replace h := it_p hc h
    refine aw_iconst (v := 1) hG dX2_isZero_10 rfl ?_
    refine aw_goto (t := 15) hG dX2_isZero_11 rfl ?_
    subst h
    exact FinZ.z hK (Or.inr rfl) dX2_isZero_15
theorem c_X2_isZero {c : CS} {m : MS} {z : Nat → Int64} {f0 : Nat} {x1 : Int64} (hf0 : f0 < 4) : CtN yX2_isZero cX2_isZero 3 (some .boolean) 3 (fun w => [.ref (wad w (30 + f0)), .long x1]) (c, m, z) (fun _ => some (.int (f_X2_isZero f0 x1))) (c, m, z) := CtN_ofZ (by decide +kernel) (fun _ => Nat.le_of_ble_eq_true rfl) (fun g hG hK => w_X2_isZero hf0 hG rfl hK)
theorem b_X2_isZero {f0 : Nat} {x1 : Int64} : f_X2_isZero f0 x1 = 0 ∨ f_X2_isZero f0 x1 = 1 := by
  unfold f_X2_isZero
  repeat' split
  all_goals first | exact Or.inl rfl | exact Or.inr rfl
def f_X2_isFinite (f0 : Nat) (x1 : Int64) : Int32 :=
  if (f_X2_infinite f0) ≤ (f_X2_sizeOf f0 x1) then
    0
  else
    1
set_option maxRecDepth 20000 in
theorem w_X2_isFinite {g : Cx} {mc ms : Nat} {c : CS} {m : MS} {z : Nat → Int64} {f0 : Nat} {x1 : Int64} {s : Int32} (hf0 : f0 < 4) (hG : Gd g RX2 cX2_isFinite 3 3 mc ms) (h : f_X2_isFinite f0 x1 = s) (hK : FinZ g cX2_isFinite mc ms s (c, m, z)) : AW g 0 [(0, .ref (wad (cxw g) (30 + f0))), (1, .long x1)] [] (c, m, z) 0 0 := by
  unfold f_X2_isFinite at h
  refine aw_aload_n hG 0 rfl dX2_isFinite_0 rfl ?_
  refine aw_lload_n hG 1 rfl dX2_isFinite_1 rfl ?_
  refine aw_callNl (As := [.long x1]) (rest := []) hG (c_X2_sizeOf (f0 := f0) (x1 := x1) (c := c) hf0) l_120 wf_X2_sizeOf (rv_X2 hG hf0) rfl rfl rfl (by decide) (Nat.zero_le _) (Nat.zero_le _) (Nat.le_of_ble_eq_true rfl) dX2_isFinite_2 ?_
  refine aw_aload_n hG 0 rfl dX2_isFinite_5 rfl ?_
  refine aw_callNl (As := []) (rest := [.long (f_X2_sizeOf f0 x1)]) hG (c_X2_infinite (f0 := f0) (c := c) hf0) l_124 wf_X2_infinite (rv_X2 hG hf0) rfl rfl rfl (by decide) (Nat.zero_le _) (Nat.zero_le _) (Nat.le_of_ble_eq_true rfl) dX2_isFinite_6 ?_
  refine aw_lc_ge (t := 17) hG dX2_isFinite_9 rfl dX2_isFinite_10 rfl rfl (fun hc => ?_) (fun hc => ?_)
  · replace h := it_p hc h
    refine aw_iconst (v := 0) hG dX2_isFinite_17 rfl ?_
    subst h
    exact FinZ.z hK (Or.inl rfl) dX2_isFinite_18
  · replace h := it_n hc h
    refine aw_iconst (v := 1) hG dX2_isFinite_13 rfl ?_
    refine aw_goto (t := 18) hG dX2_isFinite_14 rfl ?_
    subst h
    exact FinZ.z hK (Or.inr rfl) dX2_isFinite_18
theorem c_X2_isFinite {c : CS} {m : MS} {z : Nat → Int64} {f0 : Nat} {x1 : Int64} (hf0 : f0 < 4) : CtN yX2_isFinite cX2_isFinite 3 (some .boolean) 3 (fun w => [.ref (wad w (30 + f0)), .long x1]) (c, m, z) (fun _ => some (.int (f_X2_isFinite f0 x1))) (c, m, z) := CtN_ofZ (by decide +kernel) (fun _ => Nat.le_of_ble_eq_true rfl) (fun g hG hK => w_X2_isFinite hf0 hG rfl hK)
theorem b_X2_isFinite {f0 : Nat} {x1 : Int64} : f_X2_isFinite f0 x1 = 0 ∨ f_X2_isFinite f0 x1 = 1 := by
  unfold f_X2_isFinite
  repeat' split
  all_goals first | exact Or.inl rfl | exact Or.inr rfl
def f_X2_isNan (f0 : Nat) (x1 : Int64) : Int32 :=
  if (f_X2_sizeOf f0 x1) ≤ (f_X2_infinite f0) then
    0
  else
    1
set_option maxRecDepth 20000 in
theorem w_X2_isNan {g : Cx} {mc ms : Nat} {c : CS} {m : MS} {z : Nat → Int64} {f0 : Nat} {x1 : Int64} {s : Int32} (hf0 : f0 < 4) (hG : Gd g RX2 cX2_isNan 3 3 mc ms) (h : f_X2_isNan f0 x1 = s) (hK : FinZ g cX2_isNan mc ms s (c, m, z)) : AW g 0 [(0, .ref (wad (cxw g) (30 + f0))), (1, .long x1)] [] (c, m, z) 0 0 := by
  unfold f_X2_isNan at h
  refine aw_aload_n hG 0 rfl dX2_isNan_0 rfl ?_
  refine aw_lload_n hG 1 rfl dX2_isNan_1 rfl ?_
  refine aw_callNl (As := [.long x1]) (rest := []) hG (c_X2_sizeOf (f0 := f0) (x1 := x1) (c := c) hf0) l_120 wf_X2_sizeOf (rv_X2 hG hf0) rfl rfl rfl (by decide) (Nat.zero_le _) (Nat.zero_le _) (Nat.le_of_ble_eq_true rfl) dX2_isNan_2 ?_
  refine aw_aload_n hG 0 rfl dX2_isNan_5 rfl ?_
  refine aw_callNl (As := []) (rest := [.long (f_X2_sizeOf f0 x1)]) hG (c_X2_infinite (f0 := f0) (c := c) hf0) l_124 wf_X2_infinite (rv_X2 hG hf0) rfl rfl rfl (by decide) (Nat.zero_le _) (Nat.zero_le _) (Nat.le_of_ble_eq_true rfl) dX2_isNan_6 ?_
  refine aw_lc_le (t := 17) hG dX2_isNan_9 rfl dX2_isNan_10 rfl rfl (fun hc => ?_) (fun hc => ?_)
  · replace h := it_p hc h
    refine aw_iconst (v := 0) hG dX2_isNan_17 rfl ?_
    subst h
    exact FinZ.z hK (Or.inl rfl) dX2_isNan_18
  · replace h := it_n hc h
    refine aw_iconst (v := 1) hG dX2_isNan_13 rfl ?_
    refine aw_goto (t := 18) hG dX2_isNan_14 rfl ?_
    subst h
    exact FinZ.z hK (Or.inr rfl) dX2_isNan_18
theorem c_X2_isNan {c : CS} {m : MS} {z : Nat → Int64} {f0 : Nat} {x1 : Int64} (hf0 : f0 < 4) : CtN yX2_isNan cX2_isNan 3 (some .boolean) 3 (fun w => [.ref (wad w (30 + f0)), .long x1]) (c, m, z) (fun _ => some (.int (f_X2_isNan f0 x1))) (c, m, z) := CtN_ofZ (by decide +kernel) (fun _ => Nat.le_of_ble_eq_true rfl) (fun g hG hK => w_X2_isNan hf0 hG rfl hK)
theorem b_X2_isNan {f0 : Nat} {x1 : Int64} : f_X2_isNan f0 x1 = 0 ∨ f_X2_isNan f0 x1 = 1 := by
  unfold f_X2_isNan
  repeat' split
  all_goals first | exact Or.inl rfl | exact Or.inr rfl
def f_X2_exponentOf (f0 : Nat) (x1 : Int64) : Int32 :=
  ((jushr (f_X2_sizeOf f0 x1) ((fP f0) - 1)).toInt32)
set_option maxRecDepth 20000 in
theorem w_X2_exponentOf {g : Cx} {mc ms : Nat} {c : CS} {m : MS} {z : Nat → Int64} {f0 : Nat} {x1 : Int64} {s : Int32} (hf0 : f0 < 4) (hG : Gd g RX2 cX2_exponentOf 3 3 mc ms) (h : f_X2_exponentOf f0 x1 = s) (hK : FinI g cX2_exponentOf mc ms s (c, m, z)) : AW g 0 [(0, .ref (wad (cxw g) (30 + f0))), (1, .long x1)] [] (c, m, z) 0 0 := by
  unfold f_X2_exponentOf at h
  refine aw_aload_n hG 0 rfl dX2_exponentOf_0 rfl ?_
  refine aw_lload_n hG 1 rfl dX2_exponentOf_1 rfl ?_
  refine aw_callNl (As := [.long x1]) (rest := []) hG (c_X2_sizeOf (f0 := f0) (x1 := x1) (c := c) hf0) l_120 wf_X2_sizeOf (rv_X2 hG hf0) rfl rfl rfl (by decide) (Nat.zero_le _) (Nat.zero_le _) (Nat.le_of_ble_eq_true rfl) dX2_exponentOf_2 ?_
  refine aw_aload_n hG 0 rfl dX2_exponentOf_5 rfl ?_
  refine aw_fP hG hf0 l_111 dX2_exponentOf_6 ?_
  refine aw_iconst (v := 1) hG dX2_exponentOf_9 rfl ?_
  refine aw_isub hG dX2_exponentOf_10 ?_
  refine aw_lushrJ hG dX2_exponentOf_11 ?_
  refine aw_l2i hG dX2_exponentOf_12 ?_
  subst h
  exact FinI.z hK dX2_exponentOf_13
theorem c_X2_exponentOf {c : CS} {m : MS} {z : Nat → Int64} {f0 : Nat} {x1 : Int64} (hf0 : f0 < 4) : CtN yX2_exponentOf cX2_exponentOf 3 (some .int) 3 (fun w => [.ref (wad w (30 + f0)), .long x1]) (c, m, z) (fun _ => some (.int (f_X2_exponentOf f0 x1))) (c, m, z) := CtN_ofI (by decide +kernel) (fun _ => Nat.le_of_ble_eq_true rfl) (fun g hG hK => w_X2_exponentOf hf0 hG rfl hK)
def f_X2_fractionOf (f0 : Nat) (x1 : Int64) : Int64 :=
  (x1 &&& ((f_X2_hiddenBit f0) - 1))
set_option maxRecDepth 20000 in
theorem w_X2_fractionOf {g : Cx} {mc ms : Nat} {c : CS} {m : MS} {z : Nat → Int64} {f0 : Nat} {x1 : Int64} {s : Int64} (hf0 : f0 < 4) (hG : Gd g RX2 cX2_fractionOf 3 2 mc ms) (h : f_X2_fractionOf f0 x1 = s) (hK : FinJ g cX2_fractionOf mc ms s (c, m, z)) : AW g 0 [(0, .ref (wad (cxw g) (30 + f0))), (1, .long x1)] [] (c, m, z) 0 0 := by
  unfold f_X2_fractionOf at h
  refine aw_lload_n hG 1 rfl dX2_fractionOf_0 rfl ?_
  refine aw_aload_n hG 0 rfl dX2_fractionOf_1 rfl ?_
  refine aw_callNl (As := []) (rest := [.long x1]) hG (c_X2_hiddenBit (f0 := f0) (c := c) hf0) l_116 wf_X2_hiddenBit (rv_X2 hG hf0) rfl rfl rfl (by decide) (Nat.zero_le _) (Nat.zero_le _) (Nat.le_of_ble_eq_true rfl) dX2_fractionOf_2 ?_
  refine aw_lconst (v := 1) hG dX2_fractionOf_5 rfl ?_
  refine aw_lsub hG dX2_fractionOf_6 ?_
  refine aw_land hG dX2_fractionOf_7 ?_
  subst h
  exact FinJ.z hK dX2_fractionOf_8
theorem c_X2_fractionOf {c : CS} {m : MS} {z : Nat → Int64} {f0 : Nat} {x1 : Int64} (hf0 : f0 < 4) : CtN yX2_fractionOf cX2_fractionOf 3 (some .long) 2 (fun w => [.ref (wad w (30 + f0)), .long x1]) (c, m, z) (fun _ => some (.long (f_X2_fractionOf f0 x1))) (c, m, z) := CtN_ofJ (by decide +kernel) (fun _ => Nat.le_of_ble_eq_true rfl) (fun g hG hK => w_X2_fractionOf hf0 hG rfl hK)
def f_X2_wholeOf (f0 : Nat) (x1 : Int64) : Int64 :=
  if (f_X2_exponentOf f0 x1) = 0 then
    (f_X2_fractionOf f0 x1)
  else
    ((f_X2_hiddenBit f0) + (f_X2_fractionOf f0 x1))
set_option maxRecDepth 20000 in
theorem w_X2_wholeOf {g : Cx} {mc ms : Nat} {c : CS} {m : MS} {z : Nat → Int64} {f0 : Nat} {x1 : Int64} {s : Int64} (hf0 : f0 < 4) (hG : Gd g RX2 cX2_wholeOf 3 4 mc ms) (h : f_X2_wholeOf f0 x1 = s) (hK : FinJ g cX2_wholeOf mc ms s (c, m, z)) : AW g 0 [(0, .ref (wad (cxw g) (30 + f0))), (1, .long x1)] [] (c, m, z) 0 0 := by
  unfold f_X2_wholeOf at h
  refine aw_aload_n hG 0 rfl dX2_wholeOf_0 rfl ?_
  refine aw_lload_n hG 1 rfl dX2_wholeOf_1 rfl ?_
  refine aw_callNi (As := [.long x1]) (rest := []) hG (c_X2_exponentOf (f0 := f0) (x1 := x1) (c := c) hf0) l_128 wf_X2_exponentOf (rv_X2 hG hf0) rfl rfl rfl (by decide) (Nat.zero_le _) (Nat.zero_le _) (Nat.le_of_ble_eq_true rfl) dX2_wholeOf_2 ?_
  refine aw_if_ne (t := 16) hG dX2_wholeOf_5 rfl (fun hc => ?_) (fun hc => ?_)
  · replace h := it_n hc h
    refine aw_aload_n hG 0 rfl dX2_wholeOf_16 rfl ?_
    refine aw_callNl (As := []) (rest := []) hG (c_X2_hiddenBit (f0 := f0) (c := c) hf0) l_116 wf_X2_hiddenBit (rv_X2 hG hf0) rfl rfl rfl (by decide) (Nat.zero_le _) (Nat.zero_le _) (Nat.le_of_ble_eq_true rfl) dX2_wholeOf_17 ?_
    refine aw_aload_n hG 0 rfl dX2_wholeOf_20 rfl ?_
    refine aw_lload_n hG 1 rfl dX2_wholeOf_21 rfl ?_
    refine aw_callNl (As := [.long x1]) (rest := [.long (f_X2_hiddenBit f0)]) hG (c_X2_fractionOf (f0 := f0) (x1 := x1) (c := c) hf0) l_132 wf_X2_fractionOf (rv_X2 hG hf0) rfl rfl rfl (by decide) (Nat.zero_le _) (Nat.zero_le _) (Nat.le_of_ble_eq_true rfl) dX2_wholeOf_22 ?_
    refine aw_ladd hG dX2_wholeOf_25 ?_
    subst h
    exact FinJ.z hK dX2_wholeOf_26
  · replace h := it_p hc h
    refine aw_aload_n hG 0 rfl dX2_wholeOf_8 rfl ?_
    refine aw_lload_n hG 1 rfl dX2_wholeOf_9 rfl ?_
    refine aw_callNl (As := [.long x1]) (rest := []) hG (c_X2_fractionOf (f0 := f0) (x1 := x1) (c := c) hf0) l_132 wf_X2_fractionOf (rv_X2 hG hf0) rfl rfl rfl (by decide) (Nat.zero_le _) (Nat.zero_le _) (Nat.le_of_ble_eq_true rfl) dX2_wholeOf_10 ?_
    refine aw_goto (t := 26) hG dX2_wholeOf_13 rfl ?_
    subst h
    exact FinJ.z hK dX2_wholeOf_26
theorem c_X2_wholeOf {c : CS} {m : MS} {z : Nat → Int64} {f0 : Nat} {x1 : Int64} (hf0 : f0 < 4) : CtN yX2_wholeOf cX2_wholeOf 3 (some .long) 4 (fun w => [.ref (wad w (30 + f0)), .long x1]) (c, m, z) (fun _ => some (.long (f_X2_wholeOf f0 x1))) (c, m, z) := CtN_ofJ (by decide +kernel) (fun _ => Nat.le_of_ble_eq_true rfl) (fun g hG hK => w_X2_wholeOf hf0 hG rfl hK)
def f_X2_leastUnit (f0 : Nat) : Int32 :=
  ((2 - (fE f0)) - (fP f0))
set_option maxRecDepth 20000 in
theorem w_X2_leastUnit {g : Cx} {mc ms : Nat} {c : CS} {m : MS} {z : Nat → Int64} {f0 : Nat} {s : Int32} (hf0 : f0 < 4) (hG : Gd g RX2 cX2_leastUnit 1 1 mc ms) (h : f_X2_leastUnit f0 = s) (hK : FinI g cX2_leastUnit mc ms s (c, m, z)) : AW g 0 [(0, .ref (wad (cxw g) (30 + f0)))] [] (c, m, z) 0 0 := by
  unfold f_X2_leastUnit at h
  refine aw_iconst (v := 2) hG dX2_leastUnit_0 rfl ?_
  refine aw_aload_n hG 0 rfl dX2_leastUnit_1 rfl ?_
  refine aw_fE hG hf0 l_136 dX2_leastUnit_2 ?_
  refine aw_isub hG dX2_leastUnit_5 ?_
  refine aw_aload_n hG 0 rfl dX2_leastUnit_6 rfl ?_
  refine aw_fP hG hf0 l_111 dX2_leastUnit_7 ?_
  refine aw_isub hG dX2_leastUnit_10 ?_
  subst h
  exact FinI.z hK dX2_leastUnit_11
theorem c_X2_leastUnit {c : CS} {m : MS} {z : Nat → Int64} {f0 : Nat} (hf0 : f0 < 4) : CtN yX2_leastUnit cX2_leastUnit 1 (some .int) 1 (fun w => [.ref (wad w (30 + f0))]) (c, m, z) (fun _ => some (.int (f_X2_leastUnit f0))) (c, m, z) := CtN_ofI (by decide +kernel) (fun _ => Nat.le_of_ble_eq_true rfl) (fun g hG hK => w_X2_leastUnit hf0 hG rfl hK)
def f_X2_unitOf (f0 : Nat) (x1 : Int64) : Int32 :=
  ((f_X2_leastUnit f0) + (f_JM_max ((f_X2_exponentOf f0 x1) - 1) 0))
set_option maxRecDepth 20000 in
theorem w_X2_unitOf {g : Cx} {mc ms : Nat} {c : CS} {m : MS} {z : Nat → Int64} {f0 : Nat} {x1 : Int64} {s : Int32} (hf0 : f0 < 4) (hG : Gd g RX2 cX2_unitOf 3 4 mc ms) (h : f_X2_unitOf f0 x1 = s) (hK : FinI g cX2_unitOf mc ms s (c, m, z)) : AW g 0 [(0, .ref (wad (cxw g) (30 + f0))), (1, .long x1)] [] (c, m, z) 0 0 := by
  unfold f_X2_unitOf at h
  refine aw_aload_n hG 0 rfl dX2_unitOf_0 rfl ?_
  refine aw_callNi (As := []) (rest := []) hG (c_X2_leastUnit (f0 := f0) (c := c) hf0) l_137 wf_X2_leastUnit (rv_X2 hG hf0) rfl rfl rfl (by decide) (Nat.zero_le _) (Nat.zero_le _) (Nat.le_of_ble_eq_true rfl) dX2_unitOf_1 ?_
  refine aw_aload_n hG 0 rfl dX2_unitOf_4 rfl ?_
  refine aw_lload_n hG 1 rfl dX2_unitOf_5 rfl ?_
  refine aw_callNi (As := [.long x1]) (rest := [.int (f_X2_leastUnit f0)]) hG (c_X2_exponentOf (f0 := f0) (x1 := x1) (c := c) hf0) l_128 wf_X2_exponentOf (rv_X2 hG hf0) rfl rfl rfl (by decide) (Nat.zero_le _) (Nat.zero_le _) (Nat.le_of_ble_eq_true rfl) dX2_unitOf_6 ?_
  refine aw_iconst (v := 1) hG dX2_unitOf_9 rfl ?_
  refine aw_isub hG dX2_unitOf_10 ?_
  refine aw_iconst (v := 0) hG dX2_unitOf_11 rfl ?_
  refine aw_callSi (As := [.int ((f_X2_exponentOf f0 x1) - 1), .int 0]) (rest := [.int (f_X2_leastUnit f0)]) hG (c_JM_max (x0 := (f_X2_exponentOf f0 x1) - 1) (x1 := 0) (c := c) ) l_141 ws_JM_max rfl rfl rfl (by decide) (Nat.zero_le _) (Nat.zero_le _) (Nat.le_of_ble_eq_true rfl) dX2_unitOf_12 ?_
  refine aw_iadd hG dX2_unitOf_15 ?_
  subst h
  exact FinI.z hK dX2_unitOf_16
theorem c_X2_unitOf {c : CS} {m : MS} {z : Nat → Int64} {f0 : Nat} {x1 : Int64} (hf0 : f0 < 4) : CtN yX2_unitOf cX2_unitOf 3 (some .int) 4 (fun w => [.ref (wad w (30 + f0)), .long x1]) (c, m, z) (fun _ => some (.int (f_X2_unitOf f0 x1))) (c, m, z) := CtN_ofI (by decide +kernel) (fun _ => Nat.le_of_ble_eq_true rfl) (fun g hG hK => w_X2_unitOf hf0 hG rfl hK)
def f_X2_isNearBelow (f0 : Nat) (x1 : Int64) : Int32 :=
  if (f_X2_fractionOf f0 x1) = 0 then
    if (f_X2_exponentOf f0 x1) ≤ 1 then
      0
    else
      1
  else
    0
set_option maxRecDepth 20000 in
theorem w_X2_isNearBelow {g : Cx} {mc ms : Nat} {c : CS} {m : MS} {z : Nat → Int64} {f0 : Nat} {x1 : Int64} {s : Int32} (hf0 : f0 < 4) (hG : Gd g RX2 cX2_isNearBelow 3 4 mc ms) (h : f_X2_isNearBelow f0 x1 = s) (hK : FinZ g cX2_isNearBelow mc ms s (c, m, z)) : AW g 0 [(0, .ref (wad (cxw g) (30 + f0))), (1, .long x1)] [] (c, m, z) 0 0 := by
  unfold f_X2_isNearBelow at h
  refine aw_aload_n hG 0 rfl dX2_isNearBelow_0 rfl ?_
  refine aw_lload_n hG 1 rfl dX2_isNearBelow_1 rfl ?_
  refine aw_callNl (As := [.long x1]) (rest := []) hG (c_X2_fractionOf (f0 := f0) (x1 := x1) (c := c) hf0) l_132 wf_X2_fractionOf (rv_X2 hG hf0) rfl rfl rfl (by decide) (Nat.zero_le _) (Nat.zero_le _) (Nat.le_of_ble_eq_true rfl) dX2_isNearBelow_2 ?_
  refine aw_lconst (v := 0) hG dX2_isNearBelow_5 rfl ?_
  refine aw_lc_ne (t := 23) hG dX2_isNearBelow_6 rfl dX2_isNearBelow_7 rfl rfl (fun hc => ?_) (fun hc => ?_)
  · replace h := it_n hc h
    refine aw_iconst (v := 0) hG dX2_isNearBelow_23 rfl ?_
    subst h
    exact FinZ.z hK (Or.inl rfl) dX2_isNearBelow_24
  · replace h := it_p hc h
    refine aw_aload_n hG 0 rfl dX2_isNearBelow_10 rfl ?_
    refine aw_lload_n hG 1 rfl dX2_isNearBelow_11 rfl ?_
    refine aw_callNi (As := [.long x1]) (rest := []) hG (c_X2_exponentOf (f0 := f0) (x1 := x1) (c := c) hf0) l_128 wf_X2_exponentOf (rv_X2 hG hf0) rfl rfl rfl (by decide) (Nat.zero_le _) (Nat.zero_le _) (Nat.le_of_ble_eq_true rfl) dX2_isNearBelow_12 ?_
    refine aw_iconst (v := 1) hG dX2_isNearBelow_15 rfl ?_
    refine aw_icmp_le (t := 23) hG dX2_isNearBelow_16 rfl (fun hc => ?_) (fun hc => ?_)
    · replace h := it_p hc h
      refine aw_iconst (v := 0) hG dX2_isNearBelow_23 rfl ?_
      subst h
      exact FinZ.z hK (Or.inl rfl) dX2_isNearBelow_24
    · replace h := it_n hc h
      refine aw_iconst (v := 1) hG dX2_isNearBelow_19 rfl ?_
      refine aw_goto (t := 24) hG dX2_isNearBelow_20 rfl ?_
      subst h
      exact FinZ.z hK (Or.inr rfl) dX2_isNearBelow_24
theorem c_X2_isNearBelow {c : CS} {m : MS} {z : Nat → Int64} {f0 : Nat} {x1 : Int64} (hf0 : f0 < 4) : CtN yX2_isNearBelow cX2_isNearBelow 3 (some .boolean) 4 (fun w => [.ref (wad w (30 + f0)), .long x1]) (c, m, z) (fun _ => some (.int (f_X2_isNearBelow f0 x1))) (c, m, z) := CtN_ofZ (by decide +kernel) (fun _ => Nat.le_of_ble_eq_true rfl) (fun g hG hK => w_X2_isNearBelow hf0 hG rfl hK)
theorem b_X2_isNearBelow {f0 : Nat} {x1 : Int64} : f_X2_isNearBelow f0 x1 = 0 ∨ f_X2_isNearBelow f0 x1 = 1 := by
  unfold f_X2_isNearBelow
  repeat' split
  all_goals first | exact Or.inl rfl | exact Or.inr rfl
def f_X2_placeOf (f0 : Nat) (x1 : Int64) : Int64 :=
  if (f_X2_isMinus f0 x1) = 0 then
    (f_X2_sizeOf f0 x1)
  else
    (-(f_X2_sizeOf f0 x1))
set_option maxRecDepth 20000 in
theorem w_X2_placeOf {g : Cx} {mc ms : Nat} {c : CS} {m : MS} {z : Nat → Int64} {f0 : Nat} {x1 : Int64} {s : Int64} (hf0 : f0 < 4) (hG : Gd g RX2 cX2_placeOf 3 3 mc ms) (h : f_X2_placeOf f0 x1 = s) (hK : FinJ g cX2_placeOf mc ms s (c, m, z)) : AW g 0 [(0, .ref (wad (cxw g) (30 + f0))), (1, .long x1)] [] (c, m, z) 0 0 := by
  unfold f_X2_placeOf at h
  refine aw_aload_n hG 0 rfl dX2_placeOf_0 rfl ?_
  refine aw_lload_n hG 1 rfl dX2_placeOf_1 rfl ?_
  refine aw_callNi (As := [.long x1]) (rest := []) hG (c_X2_isMinus (f0 := f0) (x1 := x1) (c := c) hf0) l_145 wf_X2_isMinus (rv_X2 hG hf0) rfl rfl rfl (by decide) (Nat.zero_le _) (Nat.zero_le _) (Nat.le_of_ble_eq_true rfl) dX2_placeOf_2 ?_
  refine aw_if_eq (t := 17) hG dX2_placeOf_5 rfl (fun hc => ?_) (fun hc => ?_)
  · replace h := it_p hc h
    refine aw_aload_n hG 0 rfl dX2_placeOf_17 rfl ?_
    refine aw_lload_n hG 1 rfl dX2_placeOf_18 rfl ?_
    refine aw_callNl (As := [.long x1]) (rest := []) hG (c_X2_sizeOf (f0 := f0) (x1 := x1) (c := c) hf0) l_120 wf_X2_sizeOf (rv_X2 hG hf0) rfl rfl rfl (by decide) (Nat.zero_le _) (Nat.zero_le _) (Nat.le_of_ble_eq_true rfl) dX2_placeOf_19 ?_
    subst h
    exact FinJ.z hK dX2_placeOf_22
  · replace h := it_n hc h
    refine aw_aload_n hG 0 rfl dX2_placeOf_8 rfl ?_
    refine aw_lload_n hG 1 rfl dX2_placeOf_9 rfl ?_
    refine aw_callNl (As := [.long x1]) (rest := []) hG (c_X2_sizeOf (f0 := f0) (x1 := x1) (c := c) hf0) l_120 wf_X2_sizeOf (rv_X2 hG hf0) rfl rfl rfl (by decide) (Nat.zero_le _) (Nat.zero_le _) (Nat.le_of_ble_eq_true rfl) dX2_placeOf_10 ?_
    refine aw_lneg hG dX2_placeOf_13 ?_
    refine aw_goto (t := 22) hG dX2_placeOf_14 rfl ?_
    subst h
    exact FinJ.z hK dX2_placeOf_22
theorem c_X2_placeOf {c : CS} {m : MS} {z : Nat → Int64} {f0 : Nat} {x1 : Int64} (hf0 : f0 < 4) : CtN yX2_placeOf cX2_placeOf 3 (some .long) 3 (fun w => [.ref (wad w (30 + f0)), .long x1]) (c, m, z) (fun _ => some (.long (f_X2_placeOf f0 x1))) (c, m, z) := CtN_ofJ (by decide +kernel) (fun _ => Nat.le_of_ble_eq_true rfl) (fun g hG hK => w_X2_placeOf hf0 hG rfl hK)
def f_X2_payloadOf (f0 : Nat) (x1 : Int64) : Int64 :=
  (jshl (f_X2_fractionOf f0 x1) (66 - (fP f0)))
set_option maxRecDepth 20000 in
theorem w_X2_payloadOf {g : Cx} {mc ms : Nat} {c : CS} {m : MS} {z : Nat → Int64} {f0 : Nat} {x1 : Int64} {s : Int64} (hf0 : f0 < 4) (hG : Gd g RX2 cX2_payloadOf 3 3 mc ms) (h : f_X2_payloadOf f0 x1 = s) (hK : FinJ g cX2_payloadOf mc ms s (c, m, z)) : AW g 0 [(0, .ref (wad (cxw g) (30 + f0))), (1, .long x1)] [] (c, m, z) 0 0 := by
  unfold f_X2_payloadOf at h
  refine aw_aload_n hG 0 rfl dX2_payloadOf_0 rfl ?_
  refine aw_lload_n hG 1 rfl dX2_payloadOf_1 rfl ?_
  refine aw_callNl (As := [.long x1]) (rest := []) hG (c_X2_fractionOf (f0 := f0) (x1 := x1) (c := c) hf0) l_132 wf_X2_fractionOf (rv_X2 hG hf0) rfl rfl rfl (by decide) (Nat.zero_le _) (Nat.zero_le _) (Nat.le_of_ble_eq_true rfl) dX2_payloadOf_2 ?_
  refine aw_bipush (v := 66) hG dX2_payloadOf_5 rfl ?_
  refine aw_aload_n hG 0 rfl dX2_payloadOf_7 rfl ?_
  refine aw_fP hG hf0 l_111 dX2_payloadOf_8 ?_
  refine aw_isub hG dX2_payloadOf_11 ?_
  refine aw_lshlJ hG dX2_payloadOf_12 ?_
  subst h
  exact FinJ.z hK dX2_payloadOf_13
theorem c_X2_payloadOf {c : CS} {m : MS} {z : Nat → Int64} {f0 : Nat} {x1 : Int64} (hf0 : f0 < 4) : CtN yX2_payloadOf cX2_payloadOf 3 (some .long) 3 (fun w => [.ref (wad w (30 + f0)), .long x1]) (c, m, z) (fun _ => some (.long (f_X2_payloadOf f0 x1))) (c, m, z) := CtN_ofJ (by decide +kernel) (fun _ => Nat.le_of_ble_eq_true rfl) (fun g hG hK => w_X2_payloadOf hf0 hG rfl hK)
def f_X2_nanWith (f0 : Nat) (x1 : Int64) : Int64 :=
  (((f_X2_infinite f0) + ((f_X2_hiddenBit f0) / 2)) + (jushr x1 (66 - (fP f0))))
set_option maxRecDepth 20000 in
theorem w_X2_nanWith {g : Cx} {mc ms : Nat} {c : CS} {m : MS} {z : Nat → Int64} {f0 : Nat} {x1 : Int64} {s : Int64} (hf0 : f0 < 4) (hG : Gd g RX2 cX2_nanWith 3 3 mc ms) (h : f_X2_nanWith f0 x1 = s) (hK : FinJ g cX2_nanWith mc ms s (c, m, z)) : AW g 0 [(0, .ref (wad (cxw g) (30 + f0))), (1, .long x1)] [] (c, m, z) 0 0 := by
  unfold f_X2_nanWith at h
  refine aw_aload_n hG 0 rfl dX2_nanWith_0 rfl ?_
  refine aw_callNl (As := []) (rest := []) hG (c_X2_infinite (f0 := f0) (c := c) hf0) l_124 wf_X2_infinite (rv_X2 hG hf0) rfl rfl rfl (by decide) (Nat.zero_le _) (Nat.zero_le _) (Nat.le_of_ble_eq_true rfl) dX2_nanWith_1 ?_
  refine aw_aload_n hG 0 rfl dX2_nanWith_4 rfl ?_
  refine aw_callNl (As := []) (rest := [.long (f_X2_infinite f0)]) hG (c_X2_hiddenBit (f0 := f0) (c := c) hf0) l_116 wf_X2_hiddenBit (rv_X2 hG hf0) rfl rfl rfl (by decide) (Nat.zero_le _) (Nat.zero_le _) (Nat.le_of_ble_eq_true rfl) dX2_nanWith_5 ?_
  refine aw_ldc2 hG l_149 dX2_nanWith_8 ?_
  refine aw_ldiv hG dX2_nanWith_11 (by decide) ?_
  refine aw_ladd hG dX2_nanWith_12 ?_
  refine aw_lload_n hG 1 rfl dX2_nanWith_13 rfl ?_
  refine aw_bipush (v := 66) hG dX2_nanWith_14 rfl ?_
  refine aw_aload_n hG 0 rfl dX2_nanWith_16 rfl ?_
  refine aw_fP hG hf0 l_111 dX2_nanWith_17 ?_
  refine aw_isub hG dX2_nanWith_20 ?_
  refine aw_lushrJ hG dX2_nanWith_21 ?_
  refine aw_ladd hG dX2_nanWith_22 ?_
  subst h
  exact FinJ.z hK dX2_nanWith_23
theorem c_X2_nanWith {c : CS} {m : MS} {z : Nat → Int64} {f0 : Nat} {x1 : Int64} (hf0 : f0 < 4) : CtN yX2_nanWith cX2_nanWith 3 (some .long) 3 (fun w => [.ref (wad w (30 + f0)), .long x1]) (c, m, z) (fun _ => some (.long (f_X2_nanWith f0 x1))) (c, m, z) := CtN_ofJ (by decide +kernel) (fun _ => Nat.le_of_ble_eq_true rfl) (fun g hG hK => w_X2_nanWith hf0 hG rfl hK)
