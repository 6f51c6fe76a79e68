def f_X7_thrown (m : MS) : Int32 :=
  (mI m 0)
set_option maxRecDepth 20000 in
theorem w_X7_thrown {g : Cx} {mc ms : Nat} {c : CS} {m : MS} {z : Nat → Int64}  {s : Int32}  (hG : Gd g RX7 cX7_thrown 1 1 mc ms) (h : f_X7_thrown m = s) (hK : FinI g cX7_thrown mc ms s (c, m, z)) : AW g 0 [(0, .ref (wad (cxw g) 17))] [] (c, m, z) 0 0 := by
  unfold f_X7_thrown at h
  refine aw_aload_n hG 0 rfl dX7_thrown_0 rfl ?_
  refine gt_m_thrown hG l_611 dX7_thrown_1 ?_
  subst h
  exact FinI.z hK dX7_thrown_4
theorem c_X7_thrown {c : CS} {m : MS} {z : Nat → Int64}   : Ct yX7_thrown cX7_thrown 1 (some .int) 1 (fun w => [.ref (wad w 17)]) (c, m, z) (fun _ => some (.int (f_X7_thrown m))) (c, m, z) := Ct_ofI (by decide +kernel) (fun _ => Nat.le_of_ble_eq_true rfl) (fun g hG hK => w_X7_thrown hG rfl hK)
def f_X7_bitsOf (x0 : Int32) : Int32 :=
  if x0 = 0 then
    64
  else
    if x0 = 1 then
      32
    else
      16
set_option maxRecDepth 20000 in
theorem w_X7_bitsOf {g : Cx} {mc ms : Nat} {c : CS} {m : MS} {z : Nat → Int64} {x0 : Int32} {s : Int32}  (hG : Gd g RX7 cX7_bitsOf 1 1 mc ms) (h : f_X7_bitsOf x0 = s) (hK : FinI g cX7_bitsOf mc ms s (c, m, z)) : AW g 0 [(0, .int x0)] [] (c, m, z) 0 0 := by
  unfold f_X7_bitsOf at h
  refine aw_iload_n hG 0 rfl dX7_bitsOf_0 rfl ?_
  refine aw_if_ne (t := 9) hG dX7_bitsOf_1 rfl (fun hc => ?_) (fun hc => ?_)
  · replace h := it_n hc h
    refine aw_iload_n hG 0 rfl dX7_bitsOf_9 rfl ?_
    refine aw_iconst (v := 1) hG dX7_bitsOf_10 rfl ?_
    refine aw_icmp_ne (t := 19) hG dX7_bitsOf_11 rfl (fun hc => ?_) (fun hc => ?_)
    · replace h := it_n hc h
      refine aw_bipush (v := 16) hG dX7_bitsOf_19 rfl ?_
      subst h
      exact FinI.z hK dX7_bitsOf_21
    · replace h := it_p hc h
      refine aw_bipush (v := 32) hG dX7_bitsOf_14 rfl ?_
      refine aw_goto (t := 21) hG dX7_bitsOf_16 rfl ?_
      subst h
      exact FinI.z hK dX7_bitsOf_21
  · replace h := it_p hc h
    refine aw_bipush (v := 64) hG dX7_bitsOf_4 rfl ?_
    refine aw_goto (t := 21) hG dX7_bitsOf_6 rfl ?_
    subst h
    exact FinI.z hK dX7_bitsOf_21
theorem c_X7_bitsOf {c : CS} {m : MS} {z : Nat → Int64} {x0 : Int32}  : Ct yX7_bitsOf cX7_bitsOf 1 (some .int) 1 (fun w => [.int x0]) (c, m, z) (fun _ => some (.int (f_X7_bitsOf x0))) (c, m, z) := Ct_ofI (by decide +kernel) (fun _ => Nat.le_of_ble_eq_true rfl) (fun g hG hK => w_X7_bitsOf hG rfl hK)
def f_X7_precision (x0 : Int32) : Int32 :=
  if x0 = 0 then
    53
  else
    if x0 = 1 then
      24
    else
      if x0 = 2 then
        11
      else
        8
set_option maxRecDepth 20000 in
theorem w_X7_precision {g : Cx} {mc ms : Nat} {c : CS} {m : MS} {z : Nat → Int64} {x0 : Int32} {s : Int32}  (hG : Gd g RX7 cX7_precision 1 1 mc ms) (h : f_X7_precision x0 = s) (hK : FinI g cX7_precision mc ms s (c, m, z)) : AW g 0 [(0, .int x0)] [] (c, m, z) 0 0 := by
  unfold f_X7_precision at h
  refine aw_iload_n hG 0 rfl dX7_precision_0 rfl ?_
  refine aw_if_ne (t := 9) hG dX7_precision_1 rfl (fun hc => ?_) (fun hc => ?_)
  · replace h := it_n hc h
    refine aw_iload_n hG 0 rfl dX7_precision_9 rfl ?_
    refine aw_iconst (v := 1) hG dX7_precision_10 rfl ?_
    refine aw_icmp_ne (t := 19) hG dX7_precision_11 rfl (fun hc => ?_) (fun hc => ?_)
    · replace h := it_n hc h
      refine aw_iload_n hG 0 rfl dX7_precision_19 rfl ?_
      refine aw_iconst (v := 2) hG dX7_precision_20 rfl ?_
      refine aw_icmp_ne (t := 29) hG dX7_precision_21 rfl (fun hc => ?_) (fun hc => ?_)
      · replace h := it_n hc h
        refine aw_bipush (v := 8) hG dX7_precision_29 rfl ?_
        subst h
        exact FinI.z hK dX7_precision_31
      · replace h := it_p hc h
        refine aw_bipush (v := 11) hG dX7_precision_24 rfl ?_
        refine aw_goto (t := 31) hG dX7_precision_26 rfl ?_
        subst h
        exact FinI.z hK dX7_precision_31
    · replace h := it_p hc h
      refine aw_bipush (v := 24) hG dX7_precision_14 rfl ?_
      refine aw_goto (t := 31) hG dX7_precision_16 rfl ?_
      subst h
      exact FinI.z hK dX7_precision_31
  · replace h := it_p hc h
    refine aw_bipush (v := 53) hG dX7_precision_4 rfl ?_
    refine aw_goto (t := 31) hG dX7_precision_6 rfl ?_
    subst h
    exact FinI.z hK dX7_precision_31
theorem c_X7_precision {c : CS} {m : MS} {z : Nat → Int64} {x0 : Int32}  : Ct yX7_precision cX7_precision 1 (some .int) 1 (fun w => [.int x0]) (c, m, z) (fun _ => some (.int (f_X7_precision x0))) (c, m, z) := Ct_ofI (by decide +kernel) (fun _ => Nat.le_of_ble_eq_true rfl) (fun g hG hK => w_X7_precision hG rfl hK)
def f_X7_greatest (x0 : Int32) : Int32 :=
  if x0 = 0 then
    1023
  else
    if x0 = 2 then
      15
    else
      127
set_option maxRecDepth 20000 in
theorem w_X7_greatest {g : Cx} {mc ms : Nat} {c : CS} {m : MS} {z : Nat → Int64} {x0 : Int32} {s : Int32}  (hG : Gd g RX7 cX7_greatest 1 1 mc ms) (h : f_X7_greatest x0 = s) (hK : FinI g cX7_greatest mc ms s (c, m, z)) : AW g 0 [(0, .int x0)] [] (c, m, z) 0 0 := by
  unfold f_X7_greatest at h
  refine aw_iload_n hG 0 rfl dX7_greatest_0 rfl ?_
  refine aw_if_ne (t := 10) hG dX7_greatest_1 rfl (fun hc => ?_) (fun hc => ?_)
  · replace h := it_n hc h
    refine aw_iload_n hG 0 rfl dX7_greatest_10 rfl ?_
    refine aw_iconst (v := 2) hG dX7_greatest_11 rfl ?_
    refine aw_icmp_ne (t := 20) hG dX7_greatest_12 rfl (fun hc => ?_) (fun hc => ?_)
    · replace h := it_n hc h
      refine aw_bipush (v := 127) hG dX7_greatest_20 rfl ?_
      subst h
      exact FinI.z hK dX7_greatest_22
    · replace h := it_p hc h
      refine aw_bipush (v := 15) hG dX7_greatest_15 rfl ?_
      refine aw_goto (t := 22) hG dX7_greatest_17 rfl ?_
      subst h
      exact FinI.z hK dX7_greatest_22
  · replace h := it_p hc h
    refine aw_sipush (v := 1023) hG dX7_greatest_4 rfl ?_
    refine aw_goto (t := 22) hG dX7_greatest_7 rfl ?_
    subst h
    exact FinI.z hK dX7_greatest_22
theorem c_X7_greatest {c : CS} {m : MS} {z : Nat → Int64} {x0 : Int32}  : Ct yX7_greatest cX7_greatest 1 (some .int) 1 (fun w => [.int x0]) (c, m, z) (fun _ => some (.int (f_X7_greatest x0))) (c, m, z) := Ct_ofI (by decide +kernel) (fun _ => Nat.le_of_ble_eq_true rfl) (fun g hG hK => w_X7_greatest hG rfl hK)
def f_X7_least (x0 : Int32) : Int32 :=
  ((2 - (f_X7_greatest x0)) - (f_X7_precision x0))
set_option maxRecDepth 20000 in
theorem w_X7_least {g : Cx} {mc ms : Nat} {c : CS} {m : MS} {z : Nat → Int64} {x0 : Int32} {s : Int32}  (hG : Gd g RX7 cX7_least 1 2 mc ms) (h : f_X7_least x0 = s) (hK : FinI g cX7_least mc ms s (c, m, z)) : AW g 0 [(0, .int x0)] [] (c, m, z) 0 0 := by
  unfold f_X7_least at h
  refine aw_iconst (v := 2) hG dX7_least_0 rfl ?_
  refine aw_iload_n hG 0 rfl dX7_least_1 rfl ?_
  refine aw_callSi (As := [.int x0]) (rest := [.int 2]) hG (c_X7_greatest (x0 := x0) (m := m) ) l_612 ws_X7_greatest rfl rfl rfl (by decide) (Nat.zero_le _) (Nat.zero_le _) (Nat.le_of_ble_eq_true rfl) dX7_least_2 ?_
  refine aw_isub hG dX7_least_5 ?_
  refine aw_iload_n hG 0 rfl dX7_least_6 rfl ?_
  refine aw_callSi (As := [.int x0]) (rest := [.int (2 - (f_X7_greatest x0))]) hG (c_X7_precision (x0 := x0) (m := m) ) l_616 ws_X7_precision rfl rfl rfl (by decide) (Nat.zero_le _) (Nat.zero_le _) (Nat.le_of_ble_eq_true rfl) dX7_least_7 ?_
  refine aw_isub hG dX7_least_10 ?_
  subst h
  exact FinI.z hK dX7_least_11
theorem c_X7_least {c : CS} {m : MS} {z : Nat → Int64} {x0 : Int32}  : Ct yX7_least cX7_least 1 (some .int) 2 (fun w => [.int x0]) (c, m, z) (fun _ => some (.int (f_X7_least x0))) (c, m, z) := Ct_ofI (by decide +kernel) (fun _ => Nat.le_of_ble_eq_true rfl) (fun g hG hK => w_X7_least hG rfl hK)
def f_X7_infinite (x0 : Int32) : Int64 :=
  (jshl ((2 * ((f_X7_greatest x0).toInt64)) + 1) ((f_X7_precision x0) - 1))
set_option maxRecDepth 20000 in
theorem w_X7_infinite {g : Cx} {mc ms : Nat} {c : CS} {m : MS} {z : Nat → Int64} {x0 : Int32} {s : Int64}  (hG : Gd g RX7 cX7_infinite 1 2 mc ms) (h : f_X7_infinite x0 = s) (hK : FinJ g cX7_infinite mc ms s (c, m, z)) : AW g 0 [(0, .int x0)] [] (c, m, z) 0 0 := by
  unfold f_X7_infinite at h
  refine aw_ldc2 hG l_620 dX7_infinite_0 ?_
  refine aw_iload_n hG 0 rfl dX7_infinite_3 rfl ?_
  refine aw_callSi (As := [.int x0]) (rest := [.long 2]) hG (c_X7_greatest (x0 := x0) (m := m) ) l_612 ws_X7_greatest rfl rfl rfl (by decide) (Nat.zero_le _) (Nat.zero_le _) (Nat.le_of_ble_eq_true rfl) dX7_infinite_4 ?_
  refine aw_i2l hG dX7_infinite_7 ?_
  refine aw_lmul hG dX7_infinite_8 ?_
  refine aw_lconst (v := 1) hG dX7_infinite_9 rfl ?_
  refine aw_ladd hG dX7_infinite_10 ?_
  refine aw_iload_n hG 0 rfl dX7_infinite_11 rfl ?_
  refine aw_callSi (As := [.int x0]) (rest := [.long ((2 * ((f_X7_greatest x0).toInt64)) + 1)]) hG (c_X7_precision (x0 := x0) (m := m) ) l_616 ws_X7_precision rfl rfl rfl (by decide) (Nat.zero_le _) (Nat.zero_le _) (Nat.le_of_ble_eq_true rfl) dX7_infinite_12 ?_
  refine aw_iconst (v := 1) hG dX7_infinite_15 rfl ?_
  refine aw_isub hG dX7_infinite_16 ?_
  refine aw_lshlJ hG dX7_infinite_17 ?_
  subst h
  exact FinJ.z hK dX7_infinite_18
theorem c_X7_infinite {c : CS} {m : MS} {z : Nat → Int64} {x0 : Int32}  : Ct yX7_infinite cX7_infinite 1 (some .long) 2 (fun w => [.int x0]) (c, m, z) (fun _ => some (.long (f_X7_infinite x0))) (c, m, z) := Ct_ofJ (by decide +kernel) (fun _ => Nat.le_of_ble_eq_true rfl) (fun g hG hK => w_X7_infinite hG rfl hK)
def f_X7_signBit (x0 : Int32) : Int64 :=
  (jshl 1 ((f_X7_bitsOf x0) - 1))
set_option maxRecDepth 20000 in
theorem w_X7_signBit {g : Cx} {mc ms : Nat} {c : CS} {m : MS} {z : Nat → Int64} {x0 : Int32} {s : Int64}  (hG : Gd g RX7 cX7_signBit 1 2 mc ms) (h : f_X7_signBit x0 = s) (hK : FinJ g cX7_signBit mc ms s (c, m, z)) : AW g 0 [(0, .int x0)] [] (c, m, z) 0 0 := by
  unfold f_X7_signBit at h
  refine aw_lconst (v := 1) hG dX7_signBit_0 rfl ?_
  refine aw_iload_n hG 0 rfl dX7_signBit_1 rfl ?_
  refine aw_callSi (As := [.int x0]) (rest := [.long 1]) hG (c_X7_bitsOf (x0 := x0) (m := m) ) l_621 ws_X7_bitsOf rfl rfl rfl (by decide) (Nat.zero_le _) (Nat.zero_le _) (Nat.le_of_ble_eq_true rfl) dX7_signBit_2 ?_
  refine aw_iconst (v := 1) hG dX7_signBit_5 rfl ?_
  refine aw_isub hG dX7_signBit_6 ?_
  refine aw_lshlJ hG dX7_signBit_7 ?_
  subst h
  exact FinJ.z hK dX7_signBit_8
theorem c_X7_signBit {c : CS} {m : MS} {z : Nat → Int64} {x0 : Int32}  : Ct yX7_signBit cX7_signBit 1 (some .long) 2 (fun w => [.int x0]) (c, m, z) (fun _ => some (.long (f_X7_signBit x0))) (c, m, z) := Ct_ofJ (by decide +kernel) (fun _ => Nat.le_of_ble_eq_true rfl) (fun g hG hK => w_X7_signBit hG rfl hK)
def f_X7_in (x0 : Int64) (x2 : Int64) (x4 : Int64) : Int32 :=
  if x0 < x2 then
    0
  else
    if x4 < x0 then
      0
    else
      1
set_option maxRecDepth 20000 in
theorem w_X7_in {g : Cx} {mc ms : Nat} {c : CS} {m : MS} {z : Nat → Int64} {x0 : Int64} {x2 : Int64} {x4 : Int64} {s : Int32}  (hG : Gd g RX7 cX7_in 6 1 mc ms) (h : f_X7_in x0 x2 x4 = s) (hK : FinZ g cX7_in mc ms s (c, m, z)) : AW g 0 [(0, .long x0), (2, .long x2), (4, .long x4)] [] (c, m, z) 0 0 := by
  unfold f_X7_in at h
  refine aw_lload_n hG 0 rfl dX7_in_0 rfl ?_
  refine aw_lload_n hG 1 rfl dX7_in_1 rfl ?_
  refine aw_lc_lt (t := 17) hG dX7_in_2 rfl dX7_in_3 rfl rfl (fun hc => ?_) (fun hc => ?_)
  · replace h := it_p hc h
    refine aw_iconst (v := 0) hG dX7_in_17 rfl ?_
    subst h
    exact FinZ.z hK (Or.inl rfl) dX7_in_18
  · replace h := it_n hc h
    refine aw_lload_n hG 0 rfl dX7_in_6 rfl ?_
    refine aw_lload hG 2 rfl dX7_in_7 ?_
    refine aw_lc_gt (t := 17) hG dX7_in_9 rfl dX7_in_10 rfl rfl (fun hc => ?_) (fun hc => ?_)
    · replace h := it_p hc h
      refine aw_iconst (v := 0) hG dX7_in_17 rfl ?_
      subst h
      exact FinZ.z hK (Or.inl rfl) dX7_in_18
    · replace h := it_n hc h
      refine aw_iconst (v := 1) hG dX7_in_13 rfl ?_
      refine aw_goto (t := 18) hG dX7_in_14 rfl ?_
      subst h
      exact FinZ.z hK (Or.inr rfl) dX7_in_18
theorem c_X7_in {c : CS} {m : MS} {z : Nat → Int64} {x0 : Int64} {x2 : Int64} {x4 : Int64}  : Ct yX7_in cX7_in 6 (some .boolean) 1 (fun w => [.long x0, .long x2, .long x4]) (c, m, z) (fun _ => some (.int (f_X7_in x0 x2 x4))) (c, m, z) := Ct_ofZ (by decide +kernel) (fun _ => Nat.le_of_ble_eq_true rfl) (fun g hG hK => w_X7_in hG rfl hK)
theorem b_X7_in {x0 : Int64} {x2 : Int64} {x4 : Int64} : f_X7_in x0 x2 x4 = 0 ∨ f_X7_in x0 x2 x4 = 1 := by
  unfold f_X7_in
  repeat' split
  all_goals first | exact Or.inl rfl | exact Or.inr rfl
def f_X7_isPattern (x0 : Int32) (x1 : Int64) : Int32 :=
  if (f_X7_in x0.toInt64 0 3) = 0 then
    0
  else
    if x0 = 0 then
      1
    else
      if (jushr x1 (f_X7_bitsOf x0)) = 0 then
        1
      else
        0
set_option maxRecDepth 20000 in
theorem w_X7_isPattern {g : Cx} {mc ms : Nat} {c : CS} {m : MS} {z : Nat → Int64} {x0 : Int32} {x1 : Int64} {s : Int32}  (hG : Gd g RX7 cX7_isPattern 3 2 mc ms) (h : f_X7_isPattern x0 x1 = s) (hK : FinZ g cX7_isPattern mc ms s (c, m, z)) : AW g 0 [(0, .int x0), (1, .long x1)] [] (c, m, z) 0 0 := by
  unfold f_X7_isPattern at h
  refine aw_iload_n hG 0 rfl dX7_isPattern_0 rfl ?_
  refine aw_i2l hG dX7_isPattern_1 ?_
  refine aw_lconst (v := 0) hG dX7_isPattern_2 rfl ?_
  refine aw_ldc2 hG l_625 dX7_isPattern_3 ?_
  refine aw_callSi (As := [.long x0.toInt64, .long 0, .long 3]) (rest := []) hG (c_X7_in (x0 := x0.toInt64) (x2 := 0) (x4 := 3) (m := m) ) l_626 ws_X7_in rfl rfl rfl (by decide) (Nat.zero_le _) (Nat.zero_le _) (Nat.le_of_ble_eq_true rfl) dX7_isPattern_6 ?_
  refine aw_if_eq (t := 31) hG dX7_isPattern_9 rfl (fun hc => ?_) (fun hc => ?_)
  · replace h := it_p hc h
    refine aw_iconst (v := 0) hG dX7_isPattern_31 rfl ?_
    subst h
    exact FinZ.z hK (Or.inl rfl) dX7_isPattern_32
  · replace h := it_n hc h
    refine aw_iload_n hG 0 rfl dX7_isPattern_12 rfl ?_
    refine aw_if_eq (t := 27) hG dX7_isPattern_13 rfl (fun hc => ?_) (fun hc => ?_)
    · replace h := it_p hc h
      refine aw_iconst (v := 1) hG dX7_isPattern_27 rfl ?_
      refine aw_goto (t := 32) hG dX7_isPattern_28 rfl ?_
      subst h
      exact FinZ.z hK (Or.inr rfl) dX7_isPattern_32
    · replace h := it_n hc h
      refine aw_lload_n hG 1 rfl dX7_isPattern_16 rfl ?_
      refine aw_iload_n hG 0 rfl dX7_isPattern_17 rfl ?_
      refine aw_callSi (As := [.int x0]) (rest := [.long x1]) hG (c_X7_bitsOf (x0 := x0) (m := m) ) l_621 ws_X7_bitsOf rfl rfl rfl (by decide) (Nat.zero_le _) (Nat.zero_le _) (Nat.le_of_ble_eq_true rfl) dX7_isPattern_18 ?_
      refine aw_lushrJ hG dX7_isPattern_21 ?_
      refine aw_lconst (v := 0) hG dX7_isPattern_22 rfl ?_
      refine aw_lc_ne (t := 31) hG dX7_isPattern_23 rfl dX7_isPattern_24 rfl rfl (fun hc => ?_) (fun hc => ?_)
      · replace h := it_n hc h
        refine aw_iconst (v := 0) hG dX7_isPattern_31 rfl ?_
        subst h
        exact FinZ.z hK (Or.inl rfl) dX7_isPattern_32
      · replace h := it_p hc h
        refine aw_iconst (v := 1) hG dX7_isPattern_27 rfl ?_
        refine aw_goto (t := 32) hG dX7_isPattern_28 rfl ?_
        subst h
        exact FinZ.z hK (Or.inr rfl) dX7_isPattern_32
theorem c_X7_isPattern {c : CS} {m : MS} {z : Nat → Int64} {x0 : Int32} {x1 : Int64}  : Ct yX7_isPattern cX7_isPattern 3 (some .boolean) 2 (fun w => [.int x0, .long x1]) (c, m, z) (fun _ => some (.int (f_X7_isPattern x0 x1))) (c, m, z) := Ct_ofZ (by decide +kernel) (fun _ => Nat.le_of_ble_eq_true rfl) (fun g hG hK => w_X7_isPattern hG rfl hK)
theorem b_X7_isPattern {x0 : Int32} {x1 : Int64} : f_X7_isPattern x0 x1 = 0 ∨ f_X7_isPattern x0 x1 = 1 := by
  unfold f_X7_isPattern
  repeat' split
  all_goals first | exact Or.inl rfl | exact Or.inr rfl | exact b_X7_in
def f_X7_sizeOf (x0 : Int32) (x1 : Int64) : Int64 :=
  (x1 &&& ((f_X7_signBit x0) - 1))
set_option maxRecDepth 20000 in
theorem w_X7_sizeOf {g : Cx} {mc ms : Nat} {c : CS} {m : MS} {z : Nat → Int64} {x0 : Int32} {x1 : Int64} {s : Int64}  (hG : Gd g RX7 cX7_sizeOf 3 3 mc ms) (h : f_X7_sizeOf x0 x1 = s) (hK : FinJ g cX7_sizeOf mc ms s (c, m, z)) : AW g 0 [(0, .int x0), (1, .long x1)] [] (c, m, z) 0 0 := by
  unfold f_X7_sizeOf at h
  refine aw_lload_n hG 1 rfl dX7_sizeOf_0 rfl ?_
  refine aw_iload_n hG 0 rfl dX7_sizeOf_1 rfl ?_
  refine aw_callSl (As := [.int x0]) (rest := [.long x1]) hG (c_X7_signBit (x0 := x0) (m := m) ) l_630 ws_X7_signBit rfl rfl rfl (by decide) (Nat.zero_le _) (Nat.zero_le _) (Nat.le_of_ble_eq_true rfl) dX7_sizeOf_2 ?_
  refine aw_lconst (v := 1) hG dX7_sizeOf_5 rfl ?_
  refine aw_lsub hG dX7_sizeOf_6 ?_
  refine aw_land hG dX7_sizeOf_7 ?_
  subst h
  exact FinJ.z hK dX7_sizeOf_8
theorem c_X7_sizeOf {c : CS} {m : MS} {z : Nat → Int64} {x0 : Int32} {x1 : Int64}  : Ct yX7_sizeOf cX7_sizeOf 3 (some .long) 3 (fun w => [.int x0, .long x1]) (c, m, z) (fun _ => some (.long (f_X7_sizeOf x0 x1))) (c, m, z) := Ct_ofJ (by decide +kernel) (fun _ => Nat.le_of_ble_eq_true rfl) (fun g hG hK => w_X7_sizeOf hG rfl hK)
def f_X7_isMinus (x0 : Int32) (x1 : Int64) : Int32 :=
  if (x1 &&& (f_X7_signBit x0)) = 0 then
    0
  else
    1
set_option maxRecDepth 20000 in
theorem w_X7_isMinus {g : Cx} {mc ms : Nat} {c : CS} {m : MS} {z : Nat → Int64} {x0 : Int32} {x1 : Int64} {s : Int32}  (hG : Gd g RX7 cX7_isMinus 3 3 mc ms) (h : f_X7_isMinus x0 x1 = s) (hK : FinZ g cX7_isMinus mc ms s (c, m, z)) : AW g 0 [(0, .int x0), (1, .long x1)] [] (c, m, z) 0 0 := by
  unfold f_X7_isMinus at h
  refine aw_lload_n hG 1 rfl dX7_isMinus_0 rfl ?_
  refine aw_iload_n hG 0 rfl dX7_isMinus_1 rfl ?_
  refine aw_callSl (As := [.int x0]) (rest := [.long x1]) hG (c_X7_signBit (x0 := x0) (m := m) ) l_630 ws_X7_signBit rfl rfl rfl (by decide) (Nat.zero_le _) (Nat.zero_le _) (Nat.le_of_ble_eq_true rfl) dX7_isMinus_2 ?_
  refine aw_land hG dX7_isMinus_5 ?_
  refine aw_lconst (v := 0) hG dX7_isMinus_6 rfl ?_
  refine aw_lc_eq (t := 15) hG dX7_isMinus_7 rfl dX7_isMinus_8 rfl rfl (fun hc => ?_) (fun hc => ?_)
  · replace h := it_p hc h
    refine aw_iconst (v := 0) hG dX7_isMinus_15 rfl ?_
    subst h
    exact FinZ.z hK (Or.inl rfl) dX7_isMinus_16
  · replace h := it_n hc h
    refine aw_iconst (v := 1) hG dX7_isMinus_11 rfl ?_
    refine aw_goto (t := 16) hG dX7_isMinus_12 rfl ?_
    subst h
    exact FinZ.z hK (Or.inr rfl) dX7_isMinus_16
theorem c_X7_isMinus {c : CS} {m : MS} {z : Nat → Int64} {x0 : Int32} {x1 : Int64}  : Ct yX7_isMinus cX7_isMinus 3 (some .boolean) 3 (fun w => [.int x0, .long x1]) (c, m, z) (fun _ => some (.int (f_X7_isMinus x0 x1))) (c, m, z) := Ct_ofZ (by decide +kernel) (fun _ => Nat.le_of_ble_eq_true rfl) (fun g hG hK => w_X7_isMinus hG rfl hK)
theorem b_X7_isMinus {x0 : Int32} {x1 : Int64} : f_X7_isMinus x0 x1 = 0 ∨ f_X7_isMinus x0 x1 = 1 := by
  unfold f_X7_isMinus
  repeat' split
  all_goals first | exact Or.inl rfl | exact Or.inr rfl
def f_X7_isNan (x0 : Int32) (x1 : Int64) : Int32 :=
  if (f_X7_sizeOf x0 x1) ≤ (f_X7_infinite x0) then
    0
  else
    1
set_option maxRecDepth 20000 in
theorem w_X7_isNan {g : Cx} {mc ms : Nat} {c : CS} {m : MS} {z : Nat → Int64} {x0 : Int32} {x1 : Int64} {s : Int32}  (hG : Gd g RX7 cX7_isNan 3 4 mc ms) (h : f_X7_isNan x0 x1 = s) (hK : FinZ g cX7_isNan mc ms s (c, m, z)) : AW g 0 [(0, .int x0), (1, .long x1)] [] (c, m, z) 0 0 := by
  unfold f_X7_isNan at h
  refine aw_iload_n hG 0 rfl dX7_isNan_0 rfl ?_
  refine aw_lload_n hG 1 rfl dX7_isNan_1 rfl ?_
  refine aw_callSl (As := [.int x0, .long x1]) (rest := []) hG (c_X7_sizeOf (x0 := x0) (x1 := x1) (m := m) ) l_634 ws_X7_sizeOf rfl rfl rfl (by decide) (Nat.zero_le _) (Nat.zero_le _) (Nat.le_of_ble_eq_true rfl) dX7_isNan_2 ?_
  refine aw_iload_n hG 0 rfl dX7_isNan_5 rfl ?_
  refine aw_callSl (As := [.int x0]) (rest := [.long (f_X7_sizeOf x0 x1)]) hG (c_X7_infinite (x0 := x0) (m := m) ) l_638 ws_X7_infinite rfl rfl rfl (by decide) (Nat.zero_le _) (Nat.zero_le _) (Nat.le_of_ble_eq_true rfl) dX7_isNan_6 ?_
  refine aw_lc_le (t := 17) hG dX7_isNan_9 rfl dX7_isNan_10 rfl rfl (fun hc => ?_) (fun hc => ?_)
  · replace h := it_p hc h
    refine aw_iconst (v := 0) hG dX7_isNan_17 rfl ?_
    subst h
    exact FinZ.z hK (Or.inl rfl) dX7_isNan_18
  · replace h := it_n hc h
    refine aw_iconst (v := 1) hG dX7_isNan_13 rfl ?_
    refine aw_goto (t := 18) hG dX7_isNan_14 rfl ?_
    subst h
    exact FinZ.z hK (Or.inr rfl) dX7_isNan_18
theorem c_X7_isNan {c : CS} {m : MS} {z : Nat → Int64} {x0 : Int32} {x1 : Int64}  : Ct yX7_isNan cX7_isNan 3 (some .boolean) 4 (fun w => [.int x0, .long x1]) (c, m, z) (fun _ => some (.int (f_X7_isNan x0 x1))) (c, m, z) := Ct_ofZ (by decide +kernel) (fun _ => Nat.le_of_ble_eq_true rfl) (fun g hG hK => w_X7_isNan hG rfl hK)
theorem b_X7_isNan {x0 : Int32} {x1 : Int64} : f_X7_isNan x0 x1 = 0 ∨ f_X7_isNan x0 x1 = 1 := by
  unfold f_X7_isNan
  repeat' split
  all_goals first | exact Or.inl rfl | exact Or.inr rfl
def f_X7_isFinite (x0 : Int32) (x1 : Int64) : Int32 :=
  if (f_X7_infinite x0) ≤ (f_X7_sizeOf x0 x1) then
    0
  else
    1
set_option maxRecDepth 20000 in
theorem w_X7_isFinite {g : Cx} {mc ms : Nat} {c : CS} {m : MS} {z : Nat → Int64} {x0 : Int32} {x1 : Int64} {s : Int32}  (hG : Gd g RX7 cX7_isFinite 3 4 mc ms) (h : f_X7_isFinite x0 x1 = s) (hK : FinZ g cX7_isFinite mc ms s (c, m, z)) : AW g 0 [(0, .int x0), (1, .long x1)] [] (c, m, z) 0 0 := by
  unfold f_X7_isFinite at h
  refine aw_iload_n hG 0 rfl dX7_isFinite_0 rfl ?_
  refine aw_lload_n hG 1 rfl dX7_isFinite_1 rfl ?_
  refine aw_callSl (As := [.int x0, .long x1]) (rest := []) hG (c_X7_sizeOf (x0 := x0) (x1 := x1) (m := m) ) l_634 ws_X7_sizeOf rfl rfl rfl (by decide) (Nat.zero_le _) (Nat.zero_le _) (Nat.le_of_ble_eq_true rfl) dX7_isFinite_2 ?_
  refine aw_iload_n hG 0 rfl dX7_isFinite_5 rfl ?_
  refine aw_callSl (As := [.int x0]) (rest := [.long (f_X7_sizeOf x0 x1)]) hG (c_X7_infinite (x0 := x0) (m := m) ) l_638 ws_X7_infinite rfl rfl rfl (by decide) (Nat.zero_le _) (Nat.zero_le _) (Nat.le_of_ble_eq_true rfl) dX7_isFinite_6 ?_
  refine aw_lc_ge (t := 17) hG dX7_isFinite_9 rfl dX7_isFinite_10 rfl rfl (fun hc => ?_) (fun hc => ?_)
  · replace h := it_p hc h
    refine aw_iconst (v := 0) hG dX7_isFinite_17 rfl ?_
    subst h
    exact FinZ.z hK (Or.inl rfl) dX7_isFinite_18
  · replace h := it_n hc h
    refine aw_iconst (v := 1) hG dX7_isFinite_13 rfl ?_
    refine aw_goto (t := 18) hG dX7_isFinite_14 rfl ?_
    subst h
    exact FinZ.z hK (Or.inr rfl) dX7_isFinite_18
theorem c_X7_isFinite {c : CS} {m : MS} {z : Nat → Int64} {x0 : Int32} {x1 : Int64}  : Ct yX7_isFinite cX7_isFinite 3 (some .boolean) 4 (fun w => [.int x0, .long x1]) (c, m, z) (fun _ => some (.int (f_X7_isFinite x0 x1))) (c, m, z) := Ct_ofZ (by decide +kernel) (fun _ => Nat.le_of_ble_eq_true rfl) (fun g hG hK => w_X7_isFinite hG rfl hK)
theorem b_X7_isFinite {x0 : Int32} {x1 : Int64} : f_X7_isFinite x0 x1 = 0 ∨ f_X7_isFinite x0 x1 = 1 := by
  unfold f_X7_isFinite
  repeat' split
  all_goals first | exact Or.inl rfl | exact Or.inr rfl
def f_X7_split_J44 (x1 : Int32) (x5 : Int64) (s0 : Int64) (m : MS) : MS :=
  lt (smJ m 1 s0) fun m_4 =>
  if x5 = 0 then
    lt (smI m_4 7 ((f_X7_least x1) + 0)) fun m_6 =>
    m_6
  else
    lt (smI m_4 7 ((f_X7_least x1) + (x5.toInt32 - 1))) fun m_5 =>
    m_5
set_option maxRecDepth 20000 in
theorem w_X7_split_J44 {g : Cx} {mc ms : Nat} {c : CS} {m : MS} {z : Nat → Int64} {x1 : Int32} {x5 : Int64} {s0 : Int64} {s : MS}  (hG : Gd g RX7 cX7_split 9 3 mc ms) (h : f_X7_split_J44 x1 x5 s0 m = s) (hK : FinV g cX7_split mc ms (c, s, z)) : AW g 44 [(0, .ref (wad (cxw g) 17)), (1, .int x1), (5, .long x5)] [.long s0, .ref (wad (cxw g) 17)] (c, m, z) 0 0 := by
  unfold f_X7_split_J44 at h
  refine pt_m_whole hG l_642 dX7_split_44 ?_
  refine aw_stm (fun m_4 hm_4 => ?_)
  replace h := lt_r hm_4 h
  refine aw_aload_n hG 0 rfl dX7_split_47 rfl ?_
  refine aw_iload_n hG 1 rfl dX7_split_48 rfl ?_
  refine aw_callSi (As := [.int x1]) (rest := [.ref (wad (cxw g) 17)]) hG (c_X7_least (x0 := x1) (m := m_4) ) l_643 ws_X7_least rfl rfl rfl (by decide) (Nat.zero_le _) (Nat.zero_le _) (Nat.le_of_ble_eq_true rfl) dX7_split_49 ?_
  refine aw_lload hG 2 rfl dX7_split_52 ?_
  refine aw_lconst (v := 0) hG dX7_split_54 rfl ?_
  refine aw_lc_ne (t := 63) hG dX7_split_55 rfl dX7_split_56 rfl rfl (fun hc => ?_) (fun hc => ?_)
  · replace h := it_n hc h
    refine aw_lload hG 2 rfl dX7_split_63 ?_
    refine aw_l2i hG dX7_split_65 ?_
    refine aw_iconst (v := 1) hG dX7_split_66 rfl ?_
    refine aw_isub hG dX7_split_67 ?_
    refine aw_iadd hG dX7_split_68 ?_
    refine pt_m_power hG l_647 dX7_split_69 ?_
    refine aw_stm (fun m_5 hm_5 => ?_)
    replace h := lt_r hm_5 h
    subst h
    exact FinV.z hK dX7_split_72
  · replace h := it_p hc h
    refine aw_iconst (v := 0) hG dX7_split_59 rfl ?_
    refine aw_goto (t := 68) hG dX7_split_60 rfl ?_
    refine aw_iadd hG dX7_split_68 ?_
    refine pt_m_power hG l_647 dX7_split_69 ?_
    refine aw_stm (fun m_6 hm_6 => ?_)
    replace h := lt_r hm_6 h
    subst h
    exact FinV.z hK dX7_split_72
def f_X7_split (x1 : Int32) (x2 : Int64) (m : MS) : MS :=
  lt ((f_X7_precision x1) - 1) fun x4_1 =>
  lt (jushr x2 x4_1) fun x5_2 =>
  lt (x2 &&& ((jshl 1 x4_1) - 1)) fun x7_3 =>
  if x5_2 = 0 then
    f_X7_split_J44 x1 x5_2 x7_3 m
  else
    f_X7_split_J44 x1 x5_2 (x7_3 ||| (jshl 1 x4_1)) m
set_option maxRecDepth 20000 in
theorem w_X7_split {g : Cx} {mc ms : Nat} {c : CS} {m : MS} {z : Nat → Int64} {x1 : Int32} {x2 : Int64} {s : MS}  (hG : Gd g RX7 cX7_split 9 3 mc ms) (h : f_X7_split x1 x2 m = s) (hK : FinV g cX7_split mc ms (c, s, z)) : AW g 0 [(0, .ref (wad (cxw g) 17)), (1, .int x1), (2, .long x2)] [] (c, m, z) 0 0 := by
  unfold f_X7_split at h
  refine aw_iload_n hG 1 rfl dX7_split_0 rfl ?_
  refine aw_callSi (As := [.int x1]) (rest := []) hG (c_X7_precision (x0 := x1) (m := m) ) l_616 ws_X7_precision rfl rfl rfl (by decide) (Nat.zero_le _) (Nat.zero_le _) (Nat.le_of_ble_eq_true rfl) dX7_split_1 ?_
  refine aw_iconst (v := 1) hG dX7_split_4 rfl ?_
  refine aw_isub hG dX7_split_5 ?_
  refine aw_topi (fun x4_1 hx4_1 => ?_)
  replace h := lt_r hx4_1 h
  refine aw_istore (L' := [(4, .int x4_1), (0, .ref (wad (cxw g) 17)), (1, .int x1), (2, .long x2)]) hG dX7_split_6 (by decide) rfl ?_
  refine aw_lload_n hG 3 rfl dX7_split_8 rfl ?_
  refine aw_iload hG 0 rfl dX7_split_9 ?_
  refine aw_lushrJ hG dX7_split_11 ?_
  refine aw_topl (fun x5_2 hx5_2 => ?_)
  replace h := lt_r hx5_2 h
  refine aw_lstore (L' := [(5, .long x5_2), (4, .int x4_1), (0, .ref (wad (cxw g) 17)), (1, .int x1), (2, .long x2)]) hG dX7_split_12 (by decide) rfl ?_
  refine aw_lload_n hG 4 rfl dX7_split_14 rfl ?_
  refine aw_lconst (v := 1) hG dX7_split_15 rfl ?_
  refine aw_iload hG 1 rfl dX7_split_16 ?_
  refine aw_lshlJ hG dX7_split_18 ?_
  refine aw_lconst (v := 1) hG dX7_split_19 rfl ?_
  refine aw_lsub hG dX7_split_20 ?_
  refine aw_land hG dX7_split_21 ?_
  refine aw_topl (fun x7_3 hx7_3 => ?_)
  replace h := lt_r hx7_3 h
  refine aw_lstore (L' := [(7, .long x7_3), (5, .long x5_2), (4, .int x4_1), (0, .ref (wad (cxw g) 17)), (1, .int x1), (2, .long x2)]) hG dX7_split_22 (by decide) rfl ?_
  refine aw_aload_n hG 3 rfl dX7_split_24 rfl ?_
  refine aw_lload hG 1 rfl dX7_split_25 ?_
  refine aw_lconst (v := 0) hG dX7_split_27 rfl ?_
  refine aw_lc_ne (t := 37) hG dX7_split_28 rfl dX7_split_29 rfl rfl (fun hc => ?_) (fun hc => ?_)
  · replace h := it_n hc h
    refine aw_lload hG 0 rfl dX7_split_37 ?_
    refine aw_lconst (v := 1) hG dX7_split_39 rfl ?_
    refine aw_iload hG 2 rfl dX7_split_40 ?_
    refine aw_lshlJ hG dX7_split_42 ?_
    refine aw_lor hG dX7_split_43 ?_
    refine aw_sub (L' := [(0, .ref (wad (cxw g) 17)), (1, .int x1), (5, .long x5_2)]) [3, 4, 1] rfl ?_
    exact w_X7_split_J44 (x1 := x1) (x5 := x5_2) (s0 := x7_3 ||| (jshl 1 x4_1)) (m := m) hG h hK
  · replace h := it_p hc h
    refine aw_lload hG 0 rfl dX7_split_32 ?_
    refine aw_goto (t := 44) hG dX7_split_34 rfl ?_
    refine aw_sub (L' := [(0, .ref (wad (cxw g) 17)), (1, .int x1), (5, .long x5_2)]) [3, 4, 1] rfl ?_
    exact w_X7_split_J44 (x1 := x1) (x5 := x5_2) (s0 := x7_3) (m := m) hG h hK
theorem c_X7_split {c : CS} {m : MS} {z : Nat → Int64} {x1 : Int32} {x2 : Int64} {s : MS}  (h : f_X7_split x1 x2 m = s) : Ct yX7_split cX7_split 9 none 3 (fun w => [.ref (wad w 17), .int x1, .long x2]) (c, m, z) (fun _ => none) (c, s, z) := Ct_ofV (by decide +kernel) (fun _ => Nat.le_of_ble_eq_true rfl) (fun g hG hK => w_X7_split hG h hK)
def f_X7_refuses_J10 (x1 : Int32) (s0 : Int32) (m : MS) : Int32 × MS :=
  lt (smI m 0 s0) fun m_1 =>
  if x1 = 0 then
    (1, m_1)
  else
    (0, m_1)
set_option maxRecDepth 20000 in
theorem w_X7_refuses_J10 {g : Cx} {mc ms : Nat} {c : CS} {m : MS} {z : Nat → Int64} {x1 : Int32} {s0 : Int32} {s : Int32 × MS}  (hG : Gd g RX7 cX7_refuses 2 1 mc ms) (h : f_X7_refuses_J10 x1 s0 m = s) (hK : FinZ g cX7_refuses mc ms s.1 (c, s.2, z)) : AW g 10 [(1, .int x1)] [.int s0, .ref (wad (cxw g) 17)] (c, m, z) 0 0 := by
  unfold f_X7_refuses_J10 at h
  refine pt_m_thrown hG l_611 dX7_refuses_10 ?_
  refine aw_stm (fun m_1 hm_1 => ?_)
  replace h := lt_r hm_1 h
  refine aw_iload_n hG 0 rfl dX7_refuses_13 rfl ?_
  refine aw_if_ne (t := 21) hG dX7_refuses_14 rfl (fun hc => ?_) (fun hc => ?_)
  · replace h := it_n hc h
    refine aw_iconst (v := 0) hG dX7_refuses_21 rfl ?_
    subst h
    exact FinZ.z hK (Or.inl rfl) dX7_refuses_22
  · replace h := it_p hc h
    refine aw_iconst (v := 1) hG dX7_refuses_17 rfl ?_
    refine aw_goto (t := 22) hG dX7_refuses_18 rfl ?_
    subst h
    exact FinZ.z hK (Or.inr rfl) dX7_refuses_22
def f_X7_refuses (x1 : Int32) (m : MS) : Int32 × MS :=
  if x1 = 0 then
    f_X7_refuses_J10 x1 1 m
  else
    f_X7_refuses_J10 x1 0 m
set_option maxRecDepth 20000 in
theorem w_X7_refuses {g : Cx} {mc ms : Nat} {c : CS} {m : MS} {z : Nat → Int64} {x1 : Int32} {s : Int32 × MS}  (hG : Gd g RX7 cX7_refuses 2 1 mc ms) (h : f_X7_refuses x1 m = s) (hK : FinZ g cX7_refuses mc ms s.1 (c, s.2, z)) : AW g 0 [(0, .ref (wad (cxw g) 17)), (1, .int x1)] [] (c, m, z) 0 0 := by
  unfold f_X7_refuses at h
  refine aw_aload_n hG 0 rfl dX7_refuses_0 rfl ?_
  refine aw_iload_n hG 1 rfl dX7_refuses_1 rfl ?_
  refine aw_if_eq (t := 9) hG dX7_refuses_2 rfl (fun hc => ?_) (fun hc => ?_)
  · replace h := it_p hc h
    refine aw_iconst (v := 1) hG dX7_refuses_9 rfl ?_
    refine aw_sub (L' := [(1, .int x1)]) [1] rfl ?_
    exact w_X7_refuses_J10 (x1 := x1) (s0 := 1) (m := m) hG h hK
  · replace h := it_n hc h
    refine aw_iconst (v := 0) hG dX7_refuses_5 rfl ?_
    refine aw_goto (t := 10) hG dX7_refuses_6 rfl ?_
    refine aw_sub (L' := [(1, .int x1)]) [1] rfl ?_
    exact w_X7_refuses_J10 (x1 := x1) (s0 := 0) (m := m) hG h hK
theorem c_X7_refuses {c : CS} {m : MS} {z : Nat → Int64} {x1 : Int32} {s : Int32 × MS}  (h : f_X7_refuses x1 m = s) : Ct yX7_refuses cX7_refuses 2 (some .boolean) 1 (fun w => [.ref (wad w 17), .int x1]) (c, m, z) (fun _ => some (.int s.1)) (c, s.2, z) := Ct_ofZ (by decide +kernel) (fun _ => Nat.le_of_ble_eq_true rfl) (fun g hG hK => w_X7_refuses hG h hK)
def f_X7_zero_L2 (j0 : Nat) (x1 : Int32) (m : MS) : Option ((Int32 × MS) ⊕ (MS)) :=
  if 320 ≤ x1 then
    some (.inr m)
  else
    if vI x1 (mLen j0) then
      lt (smA m j0 (upd (mA m j0) x1.toNatClampNeg 0)) fun m_2 =>
      lt (x1 + 1) fun x1_3 =>
      some (.inl (x1_3, m_2))
    else none
set_option maxRecDepth 20000 in
theorem w_X7_zero_L2 {g : Cx} {mc ms : Nat} {c : CS} {m : MS} {z : Nat → Int64} {j0 : Nat} {x1 : Int32} {s : ((Int32 × MS) ⊕ (MS))} (hj0 : j0 < 8) (hG : Gd g RX7 cX7_zero 2 1 mc ms) (h : f_X7_zero_L2 j0 x1 m = some s) (hK : Sum.elim (fun a => AW g 2 [(0, .ref (wad (cxw g) (18 + j0))), (1, .int a.1)] [] (c, a.2, z) 0 0) (fun e => AW g 19 [] [] (c, e, z) 0 0) s) : AW g 2 [(0, .ref (wad (cxw g) (18 + j0))), (1, .int x1)] [] (c, m, z) 0 0 := by
  unfold f_X7_zero_L2 at h
  refine aw_iload_n hG 1 rfl dX7_zero_2 rfl ?_
  refine aw_sipush (v := 320) hG dX7_zero_3 rfl ?_
  refine aw_icmp_ge (t := 19) hG dX7_zero_6 rfl (fun hc => ?_) (fun hc => ?_)
  · replace h := it_p hc h
    obtain rfl := Option.some.inj h
    refine aw_sub (L' := []) [] rfl ?_
    exact hK
  · replace h := it_n hc h
    refine aw_aload_n hG 0 rfl dX7_zero_9 rfl ?_
    refine aw_iload_n hG 1 rfl dX7_zero_10 rfl ?_
    refine aw_iconst (v := 0) hG dX7_zero_11 rfl ?_
    obtain ⟨hi_1, h⟩ := it_o h
    refine as_mA hG hj0 hi_1 dX7_zero_12 ?_
    refine aw_stm (fun m_2 hm_2 => ?_)
    replace h := lt_r hm_2 h
    obtain ⟨x1_3, hx1_3⟩ : ∃ y : Int32, y = x1 + 1 := ⟨_, rfl⟩
    replace h := lt_r hx1_3 h
    refine aw_iinc (v := x1_3) (L' := [(1, .int x1_3), (0, .ref (wad (cxw g) (18 + j0)))]) hG 1 rfl dX7_zero_13 (by rw [hx1_3]; rfl) (by decide) rfl ?_
    refine aw_goto (t := 2) hG dX7_zero_16 rfl ?_
    obtain rfl := Option.some.inj h
    refine aw_sub (L' := [(0, .ref (wad (cxw g) (18 + j0))), (1, .int x1_3)]) [1, 0] rfl ?_
    exact hK
noncomputable def f_X7_zero (j0 : Nat) (m : MS) : Option MS :=
  Option.bind (Lp (fun a => f_X7_zero_L2 j0 a.1 a.2) (0, m)) fun e_5 =>
  some e_5
set_option maxRecDepth 20000 in
theorem w_X7_zero {g : Cx} {mc ms : Nat} {c : CS} {m : MS} {z : Nat → Int64} {j0 : Nat} {s : MS} (hj0 : j0 < 8) (hG : Gd g RX7 cX7_zero 2 1 mc ms) (h : f_X7_zero j0 m = some s) (hK : FinV g cX7_zero mc ms (c, s, z)) : AW g 0 [(0, .ref (wad (cxw g) (18 + j0)))] [] (c, m, z) 0 0 := by
  unfold f_X7_zero at h
  refine aw_iconst (v := 0) hG dX7_zero_0 rfl ?_
  refine aw_istore_n (L' := [(1, .int 0), (0, .ref (wad (cxw g) (18 + j0)))]) hG dX7_zero_1 rfl (by decide) rfl ?_
  obtain ⟨e_5, he, h⟩ := bd_o h
  refine aw_sub (L' := [(0, .ref (wad (cxw g) (18 + j0))), (1, .int 0)]) [1, 0] rfl ?_
  refine Lp_w (F := (fun a => f_X7_zero_L2 j0 a.1 a.2)) (S := (fun a => AW g 2 [(0, .ref (wad (cxw g) (18 + j0))), (1, .int a.1)] [] (c, a.2, z) 0 0)) (E := (fun e => AW g 19 [] [] (c, e, z) 0 0)) (a := (0, m)) he (fun a s h hK => w_X7_zero_L2 (j0 := j0) (x1 := a.1) (m := a.2) hj0 hG h hK) ?_
  show AW g 19 _ _ _ 0 0
  obtain rfl := Option.some.inj h
  exact FinV.z hK dX7_zero_19
theorem c_X7_zero {c : CS} {m : MS} {z : Nat → Int64} {j0 : Nat} {s : MS} (hj0 : j0 < 8) (h : f_X7_zero j0 m = some s) : Ct yX7_zero cX7_zero 2 none 1 (fun w => [.ref (wad w (18 + j0))]) (c, m, z) (fun _ => none) (c, s, z) := Ct_ofV (by decide +kernel) (fun _ => Nat.le_of_ble_eq_true rfl) (fun g hG hK => w_X7_zero hj0 hG h hK)
noncomputable def f_X7_set (j0 : Nat) (x1 : Int64) (m : MS) : Option MS :=
  Option.bind (f_X7_zero j0 m) fun v_1 =>
  if vI 0 (mLen j0) then
    lt (smA v_1 j0 (upd (mA v_1 j0) (0 : Int32).toNatClampNeg ((x1 &&& 1073741823).toInt32))) fun m_3 =>
    if vI 1 (mLen j0) then
      lt (smA m_3 j0 (upd (mA m_3 j0) (1 : Int32).toNatClampNeg (((jushr x1 30) &&& 1073741823).toInt32))) fun m_5 =>
      if vI 2 (mLen j0) then
        lt (smA m_5 j0 (upd (mA m_5 j0) (2 : Int32).toNatClampNeg ((jushr x1 60).toInt32))) fun m_7 =>
        some m_7
      else none
    else none
  else none
set_option maxRecDepth 20000 in
theorem w_X7_set {g : Cx} {mc ms : Nat} {c : CS} {m : MS} {z : Nat → Int64} {j0 : Nat} {x1 : Int64} {s : MS} (hj0 : j0 < 8) (hG : Gd g RX7 cX7_set 3 2 mc ms) (h : f_X7_set j0 x1 m = some s) (hK : FinV g cX7_set mc ms (c, s, z)) : AW g 0 [(0, .ref (wad (cxw g) (18 + j0))), (1, .long x1)] [] (c, m, z) 0 0 := by
  unfold f_X7_set at h
  refine aw_aload_n hG 0 rfl dX7_set_0 rfl ?_
  obtain ⟨v_1, hv_1, h⟩ := bd_o h
  refine aw_callSv (As := [.ref (wad (cxw g) (18 + j0))]) (rest := []) hG (c_X7_zero (j0 := j0) (m := m) hj0 hv_1) l_648 ws_X7_zero rfl rfl rfl (by decide) (Nat.zero_le _) (Nat.zero_le _) (Nat.le_of_ble_eq_true rfl) dX7_set_1 ?_
  refine aw_aload_n hG 0 rfl dX7_set_4 rfl ?_
  refine aw_iconst (v := 0) hG dX7_set_5 rfl ?_
  refine aw_lload_n hG 1 rfl dX7_set_6 rfl ?_
  refine aw_ldc2 hG l_652 dX7_set_7 ?_
  refine aw_land hG dX7_set_10 ?_
  refine aw_l2i hG dX7_set_11 ?_
  obtain ⟨hi_2, h⟩ := it_o h
  refine as_mA hG hj0 hi_2 dX7_set_12 ?_
  refine aw_stm (fun m_3 hm_3 => ?_)
  replace h := lt_r hm_3 h
  refine aw_aload_n hG 0 rfl dX7_set_13 rfl ?_
  refine aw_iconst (v := 1) hG dX7_set_14 rfl ?_
  refine aw_lload_n hG 1 rfl dX7_set_15 rfl ?_
  refine aw_bipush (v := 30) hG dX7_set_16 rfl ?_
  refine aw_lushrJ hG dX7_set_18 ?_
  refine aw_ldc2 hG l_652 dX7_set_19 ?_
  refine aw_land hG dX7_set_22 ?_
  refine aw_l2i hG dX7_set_23 ?_
  obtain ⟨hi_4, h⟩ := it_o h
  refine as_mA hG hj0 hi_4 dX7_set_24 ?_
  refine aw_stm (fun m_5 hm_5 => ?_)
  replace h := lt_r hm_5 h
  refine aw_aload_n hG 0 rfl dX7_set_25 rfl ?_
  refine aw_iconst (v := 2) hG dX7_set_26 rfl ?_
  refine aw_lload_n hG 1 rfl dX7_set_27 rfl ?_
  refine aw_bipush (v := 60) hG dX7_set_28 rfl ?_
  refine aw_lushrJ hG dX7_set_30 ?_
  refine aw_l2i hG dX7_set_31 ?_
  obtain ⟨hi_6, h⟩ := it_o h
  refine as_mA hG hj0 hi_6 dX7_set_32 ?_
  refine aw_stm (fun m_7 hm_7 => ?_)
  replace h := lt_r hm_7 h
  obtain rfl := Option.some.inj h
  exact FinV.z hK dX7_set_33
theorem c_X7_set {c : CS} {m : MS} {z : Nat → Int64} {j0 : Nat} {x1 : Int64} {s : MS} (hj0 : j0 < 8) (h : f_X7_set j0 x1 m = some s) : Ct yX7_set cX7_set 3 none 2 (fun w => [.ref (wad w (18 + j0)), .long x1]) (c, m, z) (fun _ => none) (c, s, z) := Ct_ofV (by decide +kernel) (fun _ => Nat.le_of_ble_eq_true rfl) (fun g hG hK => w_X7_set hj0 hG h hK)
def f_X7_grow_L6 (j0 : Nat) (x1 : Int32) (x3 : Int64) (x5 : Int32) (m : MS) : Option ((Int64 × Int32 × MS) ⊕ (MS)) :=
  if 320 ≤ x5 then
    some (.inr m)
  else
    if vI x5 (mLen j0) then
      lt ((((mA m j0 x5.toNatClampNeg).toInt64) * x1.toInt64) + x3) fun x6_3 =>
      if vI x5 (mLen j0) then
        lt (smA m j0 (upd (mA m j0) x5.toNatClampNeg ((x6_3 &&& 1073741823).toInt32))) fun m_5 =>
        lt (jshr x6_3 30) fun x3_6 =>
        lt (x5 + 1) fun x5_7 =>
        some (.inl (x3_6, x5_7, m_5))
      else none
    else none
set_option maxRecDepth 20000 in
theorem w_X7_grow_L6 {g : Cx} {mc ms : Nat} {c : CS} {m : MS} {z : Nat → Int64} {j0 : Nat} {x1 : Int32} {x3 : Int64} {x5 : Int32} {s : ((Int64 × Int32 × MS) ⊕ (MS))} (hj0 : j0 < 8) (hG : Gd g RX7 cX7_grow 8 1 mc ms) (h : f_X7_grow_L6 j0 x1 x3 x5 m = some s) (hK : Sum.elim (fun a => AW g 6 [(0, .ref (wad (cxw g) (18 + j0))), (1, .int x1), (3, .long a.1), (5, .int a.2.1)] [] (c, a.2.2, z) 0 0) (fun e => AW g 49 [] [] (c, e, z) 0 0) s) : AW g 6 [(0, .ref (wad (cxw g) (18 + j0))), (1, .int x1), (3, .long x3), (5, .int x5)] [] (c, m, z) 0 0 := by
  unfold f_X7_grow_L6 at h
  refine aw_iload hG 3 rfl dX7_grow_6 ?_
  refine aw_sipush (v := 320) hG dX7_grow_8 rfl ?_
  refine aw_icmp_ge (t := 49) hG dX7_grow_11 rfl (fun hc => ?_) (fun hc => ?_)
  · replace h := it_p hc h
    obtain rfl := Option.some.inj h
    refine aw_sub (L' := []) [] rfl ?_
    exact hK
  · replace h := it_n hc h
    refine aw_aload_n hG 0 rfl dX7_grow_14 rfl ?_
    refine aw_iload hG 3 rfl dX7_grow_15 ?_
    obtain ⟨hi_2, h⟩ := it_o h
    refine al_mA (x := 0) hG hj0 hi_2 dX7_grow_17 ?_
    refine aw_i2l hG dX7_grow_18 ?_
    refine aw_iload_n hG 1 rfl dX7_grow_19 rfl ?_
    refine aw_i2l hG dX7_grow_20 ?_
    refine aw_lmul hG dX7_grow_21 ?_
    refine aw_lload_n hG 2 rfl dX7_grow_22 rfl ?_
    refine aw_ladd hG dX7_grow_23 ?_
    refine aw_topl (fun x6_3 hx6_3 => ?_)
    replace h := lt_r hx6_3 h
    refine aw_lstore (L' := [(6, .long x6_3), (0, .ref (wad (cxw g) (18 + j0))), (1, .int x1), (3, .long x3), (5, .int x5)]) hG dX7_grow_24 (by decide) rfl ?_
    refine aw_aload_n hG 1 rfl dX7_grow_26 rfl ?_
    refine aw_iload hG 4 rfl dX7_grow_27 ?_
    refine aw_lload hG 0 rfl dX7_grow_29 ?_
    refine aw_ldc2 hG l_652 dX7_grow_31 ?_
    refine aw_land hG dX7_grow_34 ?_
    refine aw_l2i hG dX7_grow_35 ?_
    obtain ⟨hi_4, h⟩ := it_o h
    refine as_mA hG hj0 hi_4 dX7_grow_36 ?_
    refine aw_stm (fun m_5 hm_5 => ?_)
    replace h := lt_r hm_5 h
    refine aw_lload hG 0 rfl dX7_grow_37 ?_
    refine aw_bipush (v := 30) hG dX7_grow_39 rfl ?_
    refine aw_lshrJ hG dX7_grow_41 ?_
    refine aw_topl (fun x3_6 hx3_6 => ?_)
    replace h := lt_r hx3_6 h
    refine aw_lstore_n (L' := [(3, .long x3_6), (6, .long x6_3), (0, .ref (wad (cxw g) (18 + j0))), (1, .int x1), (5, .int x5)]) hG dX7_grow_42 rfl (by decide) rfl ?_
    obtain ⟨x5_7, hx5_7⟩ : ∃ y : Int32, y = x5 + 1 := ⟨_, rfl⟩
    replace h := lt_r hx5_7 h
    refine aw_iinc (v := x5_7) (L' := [(5, .int x5_7), (3, .long x3_6), (6, .long x6_3), (0, .ref (wad (cxw g) (18 + j0))), (1, .int x1)]) hG 4 rfl dX7_grow_43 (by rw [hx5_7]; rfl) (by decide) rfl ?_
    refine aw_goto (t := 6) hG dX7_grow_46 rfl ?_
    obtain rfl := Option.some.inj h
    refine aw_sub (L' := [(0, .ref (wad (cxw g) (18 + j0))), (1, .int x1), (3, .long x3_6), (5, .int x5_7)]) [3, 4, 1, 0] rfl ?_
    exact hK
noncomputable def f_X7_grow (j0 : Nat) (x1 : Int32) (x2 : Int32) (m : MS) : Option MS :=
  lt x2.toInt64 fun x3_1 =>
  Option.bind (Lp (fun a => f_X7_grow_L6 j0 x1 a.1 a.2.1 a.2.2) (x3_1, 0, m)) fun e_9 =>
  some e_9
set_option maxRecDepth 20000 in
theorem w_X7_grow {g : Cx} {mc ms : Nat} {c : CS} {m : MS} {z : Nat → Int64} {j0 : Nat} {x1 : Int32} {x2 : Int32} {s : MS} (hj0 : j0 < 8) (hG : Gd g RX7 cX7_grow 8 1 mc ms) (h : f_X7_grow j0 x1 x2 m = some s) (hK : FinV g cX7_grow mc ms (c, s, z)) : AW g 0 [(0, .ref (wad (cxw g) (18 + j0))), (1, .int x1), (2, .int x2)] [] (c, m, z) 0 0 := by
  unfold f_X7_grow at h
  refine aw_iload_n hG 2 rfl dX7_grow_0 rfl ?_
  refine aw_i2l hG dX7_grow_1 ?_
  refine aw_topl (fun x3_1 hx3_1 => ?_)
  replace h := lt_r hx3_1 h
  refine aw_lstore_n (L' := [(3, .long x3_1), (0, .ref (wad (cxw g) (18 + j0))), (1, .int x1), (2, .int x2)]) hG dX7_grow_2 rfl (by decide) rfl ?_
  refine aw_iconst (v := 0) hG dX7_grow_3 rfl ?_
  refine aw_istore (L' := [(5, .int 0), (3, .long x3_1), (0, .ref (wad (cxw g) (18 + j0))), (1, .int x1), (2, .int x2)]) hG dX7_grow_4 (by decide) rfl ?_
  obtain ⟨e_9, he, h⟩ := bd_o h
  refine aw_sub (L' := [(0, .ref (wad (cxw g) (18 + j0))), (1, .int x1), (3, .long x3_1), (5, .int 0)]) [2, 3, 1, 0] rfl ?_
  refine Lp_w (F := (fun a => f_X7_grow_L6 j0 x1 a.1 a.2.1 a.2.2)) (S := (fun a => AW g 6 [(0, .ref (wad (cxw g) (18 + j0))), (1, .int x1), (3, .long a.1), (5, .int a.2.1)] [] (c, a.2.2, z) 0 0)) (E := (fun e => AW g 49 [] [] (c, e, z) 0 0)) (a := (x3_1, 0, m)) he (fun a s h hK => w_X7_grow_L6 (j0 := j0) (x1 := x1) (x3 := a.1) (x5 := a.2.1) (m := a.2.2) hj0 hG h hK) ?_
  show AW g 49 _ _ _ 0 0
  obtain rfl := Option.some.inj h
  exact FinV.z hK dX7_grow_49
theorem c_X7_grow {c : CS} {m : MS} {z : Nat → Int64} {j0 : Nat} {x1 : Int32} {x2 : Int32} {s : MS} (hj0 : j0 < 8) (h : f_X7_grow j0 x1 x2 m = some s) : Ct yX7_grow cX7_grow 8 none 1 (fun w => [.ref (wad w (18 + j0)), .int x1, .int x2]) (c, m, z) (fun _ => none) (c, s, z) := Ct_ofV (by decide +kernel) (fun _ => Nat.le_of_ble_eq_true rfl) (fun g hG hK => w_X7_grow hj0 hG h hK)
noncomputable def f_X7_tens_L2 (j0 : Nat) (x2 : Int32) (m : MS) : Option ((Int32 × MS) ⊕ ((Int32 × MS))) :=
  if x2 < 9 then
    some (.inr (x2, m))
  else
    Option.bind (f_X7_grow j0 1000000000 0 m) fun v_1 =>
    lt (x2 + (-9)) fun x2_2 =>
    some (.inl (x2_2, v_1))
set_option maxRecDepth 20000 in
theorem w_X7_tens_L2 {g : Cx} {mc ms : Nat} {c : CS} {m : MS} {z : Nat → Int64} {j0 : Nat} {x2 : Int32} {s : ((Int32 × MS) ⊕ ((Int32 × MS)))} (hj0 : j0 < 8) (hG : Gd g RX7 cX7_tens 3 2 mc ms) (h : f_X7_tens_L2 j0 x2 m = some s) (hK : Sum.elim (fun a => AW g 2 [(0, .ref (wad (cxw g) (18 + j0))), (2, .int a.1)] [] (c, a.2, z) 0 0) (fun e => AW g 21 [(0, .ref (wad (cxw g) (18 + j0))), (2, .int e.1)] [] (c, e.2, z) 0 0) s) : AW g 2 [(0, .ref (wad (cxw g) (18 + j0))), (2, .int x2)] [] (c, m, z) 0 0 := by
  unfold f_X7_tens_L2 at h
  refine aw_iload_n hG 1 rfl dX7_tens_2 rfl ?_
  refine aw_bipush (v := 9) hG dX7_tens_3 rfl ?_
  refine aw_icmp_lt (t := 21) hG dX7_tens_5 rfl (fun hc => ?_) (fun hc => ?_)
  · replace h := it_p hc h
    obtain rfl := Option.some.inj h
    exact hK
  · replace h := it_n hc h
    refine aw_aload_n hG 0 rfl dX7_tens_8 rfl ?_
    refine aw_ldc hG l_653 dX7_tens_9 ?_
    refine aw_iconst (v := 0) hG dX7_tens_11 rfl ?_
    obtain ⟨v_1, hv_1, h⟩ := bd_o h
    refine aw_callSv (As := [.ref (wad (cxw g) (18 + j0)), .int 1000000000, .int 0]) (rest := []) hG (c_X7_grow (j0 := j0) (x1 := 1000000000) (x2 := 0) (m := m) hj0 hv_1) l_654 ws_X7_grow rfl rfl rfl (by decide) (Nat.zero_le _) (Nat.zero_le _) (Nat.le_of_ble_eq_true rfl) dX7_tens_12 ?_
    obtain ⟨x2_2, hx2_2⟩ : ∃ y : Int32, y = x2 + (-9) := ⟨_, rfl⟩
    replace h := lt_r hx2_2 h
    refine aw_iinc (v := x2_2) (L' := [(2, .int x2_2), (0, .ref (wad (cxw g) (18 + j0)))]) hG 1 rfl dX7_tens_15 (by rw [hx2_2]; rfl) (by decide) rfl ?_
    refine aw_goto (t := 2) hG dX7_tens_18 rfl ?_
    obtain rfl := Option.some.inj h
    refine aw_sub (L' := [(0, .ref (wad (cxw g) (18 + j0))), (2, .int x2_2)]) [1, 0] rfl ?_
    exact hK
noncomputable def f_X7_tens_L21 (j0 : Nat) (x2 : Int32) (m : MS) : Option ((Int32 × MS) ⊕ (MS)) :=
  if x2 ≤ 0 then
    some (.inr m)
  else
    Option.bind (f_X7_grow j0 10 0 m) fun v_5 =>
    lt (x2 + (-1)) fun x2_6 =>
    some (.inl (x2_6, v_5))
set_option maxRecDepth 20000 in
theorem w_X7_tens_L21 {g : Cx} {mc ms : Nat} {c : CS} {m : MS} {z : Nat → Int64} {j0 : Nat} {x2 : Int32} {s : ((Int32 × MS) ⊕ (MS))} (hj0 : j0 < 8) (hG : Gd g RX7 cX7_tens 3 2 mc ms) (h : f_X7_tens_L21 j0 x2 m = some s) (hK : Sum.elim (fun a => AW g 21 [(0, .ref (wad (cxw g) (18 + j0))), (2, .int a.1)] [] (c, a.2, z) 0 0) (fun e => AW g 38 [] [] (c, e, z) 0 0) s) : AW g 21 [(0, .ref (wad (cxw g) (18 + j0))), (2, .int x2)] [] (c, m, z) 0 0 := by
  unfold f_X7_tens_L21 at h
  refine aw_iload_n hG 1 rfl dX7_tens_21 rfl ?_
  refine aw_if_le (t := 38) hG dX7_tens_22 rfl (fun hc => ?_) (fun hc => ?_)
  · replace h := it_p hc h
    obtain rfl := Option.some.inj h
    refine aw_sub (L' := []) [] rfl ?_
    exact hK
  · replace h := it_n hc h
    refine aw_aload_n hG 0 rfl dX7_tens_25 rfl ?_
    refine aw_bipush (v := 10) hG dX7_tens_26 rfl ?_
    refine aw_iconst (v := 0) hG dX7_tens_28 rfl ?_
    obtain ⟨v_5, hv_5, h⟩ := bd_o h
    refine aw_callSv (As := [.ref (wad (cxw g) (18 + j0)), .int 10, .int 0]) (rest := []) hG (c_X7_grow (j0 := j0) (x1 := 10) (x2 := 0) (m := m) hj0 hv_5) l_654 ws_X7_grow rfl rfl rfl (by decide) (Nat.zero_le _) (Nat.zero_le _) (Nat.le_of_ble_eq_true rfl) dX7_tens_29 ?_
    obtain ⟨x2_6, hx2_6⟩ : ∃ y : Int32, y = x2 + (-1) := ⟨_, rfl⟩
    replace h := lt_r hx2_6 h
    refine aw_iinc (v := x2_6) (L' := [(2, .int x2_6), (0, .ref (wad (cxw g) (18 + j0)))]) hG 1 rfl dX7_tens_32 (by rw [hx2_6]; rfl) (by decide) rfl ?_
    refine aw_goto (t := 21) hG dX7_tens_35 rfl ?_
    obtain rfl := Option.some.inj h
    refine aw_sub (L' := [(0, .ref (wad (cxw g) (18 + j0))), (2, .int x2_6)]) [1, 0] rfl ?_
    exact hK
noncomputable def f_X7_tens (j0 : Nat) (x1 : Int32) (m : MS) : Option MS :=
  Option.bind (Lp (fun a => f_X7_tens_L2 j0 a.1 a.2) (x1, m)) fun e_4 =>
  Option.bind (Lp (fun a => f_X7_tens_L21 j0 a.1 a.2) (e_4.1, e_4.2)) fun e_8 =>
  some e_8
set_option maxRecDepth 20000 in
theorem w_X7_tens {g : Cx} {mc ms : Nat} {c : CS} {m : MS} {z : Nat → Int64} {j0 : Nat} {x1 : Int32} {s : MS} (hj0 : j0 < 8) (hG : Gd g RX7 cX7_tens 3 2 mc ms) (h : f_X7_tens j0 x1 m = some s) (hK : FinV g cX7_tens mc ms (c, s, z)) : AW g 0 [(0, .ref (wad (cxw g) (18 + j0))), (1, .int x1)] [] (c, m, z) 0 0 := by
  unfold f_X7_tens at h
  refine aw_iload_n hG 1 rfl dX7_tens_0 rfl ?_
  refine aw_istore_n (L' := [(2, .int x1), (0, .ref (wad (cxw g) (18 + j0))), (1, .int x1)]) hG dX7_tens_1 rfl (by decide) rfl ?_
  obtain ⟨e_4, he, h⟩ := bd_o h
  refine aw_sub (L' := [(0, .ref (wad (cxw g) (18 + j0))), (2, .int x1)]) [1, 0] rfl ?_
  refine Lp_w (F := (fun a => f_X7_tens_L2 j0 a.1 a.2)) (S := (fun a => AW g 2 [(0, .ref (wad (cxw g) (18 + j0))), (2, .int a.1)] [] (c, a.2, z) 0 0)) (E := (fun e => AW g 21 [(0, .ref (wad (cxw g) (18 + j0))), (2, .int e.1)] [] (c, e.2, z) 0 0)) (a := (x1, m)) he (fun a s h hK => w_X7_tens_L2 (j0 := j0) (x2 := a.1) (m := a.2) hj0 hG h hK) ?_
  show AW g 21 _ _ _ 0 0
  obtain ⟨e_8, he, h⟩ := bd_o h
  refine Lp_w (F := (fun a => f_X7_tens_L21 j0 a.1 a.2)) (S := (fun a => AW g 21 [(0, .ref (wad (cxw g) (18 + j0))), (2, .int a.1)] [] (c, a.2, z) 0 0)) (E := (fun e => AW g 38 [] [] (c, e, z) 0 0)) (a := (e_4.1, e_4.2)) he (fun a s h hK => w_X7_tens_L21 (j0 := j0) (x2 := a.1) (m := a.2) hj0 hG h hK) ?_
  show AW g 38 _ _ _ 0 0
  obtain rfl := Option.some.inj h
  exact FinV.z hK dX7_tens_38
theorem c_X7_tens {c : CS} {m : MS} {z : Nat → Int64} {j0 : Nat} {x1 : Int32} {s : MS} (hj0 : j0 < 8) (h : f_X7_tens j0 x1 m = some s) : Ct yX7_tens cX7_tens 3 none 2 (fun w => [.ref (wad w (18 + j0)), .int x1]) (c, m, z) (fun _ => none) (c, s, z) := Ct_ofV (by decide +kernel) (fun _ => Nat.le_of_ble_eq_true rfl) (fun g hG hK => w_X7_tens hj0 hG h hK)
def f_X7_length_L4 (j0 : Nat) (x1 : Int32) (m : MS) : Option ((Int32) ⊕ (Int32)) :=
  if x1 < 0 then
    some (.inr x1)
  else
    if vI x1 (mLen j0) then
      if (mA m j0 x1.toNatClampNeg) = 0 then
        lt (x1 + (-1)) fun x1_2 =>
        some (.inl x1_2)
      else
        some (.inr x1)
    else none
set_option maxRecDepth 20000 in
theorem w_X7_length_L4 {g : Cx} {mc ms : Nat} {c : CS} {m : MS} {z : Nat → Int64} {j0 : Nat} {x1 : Int32} {s : ((Int32) ⊕ (Int32))} (hj0 : j0 < 8) (hG : Gd g RX7 cX7_length 3 1 mc ms) (h : f_X7_length_L4 j0 x1 m = some s) (hK : Sum.elim (fun a => AW g 4 [(0, .ref (wad (cxw g) (18 + j0))), (1, .int a)] [] (c, m, z) 0 0) (fun e => AW g 20 [(0, .ref (wad (cxw g) (18 + j0))), (1, .int e)] [] (c, m, z) 0 0) s) : AW g 4 [(0, .ref (wad (cxw g) (18 + j0))), (1, .int x1)] [] (c, m, z) 0 0 := by
  unfold f_X7_length_L4 at h
  refine aw_iload_n hG 1 rfl dX7_length_4 rfl ?_
  refine aw_if_lt (t := 20) hG dX7_length_5 rfl (fun hc => ?_) (fun hc => ?_)
  · replace h := it_p hc h
    obtain rfl := Option.some.inj h
    exact hK
  · replace h := it_n hc h
    refine aw_aload_n hG 0 rfl dX7_length_8 rfl ?_
    refine aw_iload_n hG 1 rfl dX7_length_9 rfl ?_
    obtain ⟨hi_1, h⟩ := it_o h
    refine al_mA (x := 0) hG hj0 hi_1 dX7_length_10 ?_
    refine aw_if_ne (t := 20) hG dX7_length_11 rfl (fun hc => ?_) (fun hc => ?_)
    · replace h := it_n hc h
      obtain rfl := Option.some.inj h
      exact hK
    · replace h := it_p hc h
      obtain ⟨x1_2, hx1_2⟩ : ∃ y : Int32, y = x1 + (-1) := ⟨_, rfl⟩
      replace h := lt_r hx1_2 h
      refine aw_iinc (v := x1_2) (L' := [(1, .int x1_2), (0, .ref (wad (cxw g) (18 + j0)))]) hG 1 rfl dX7_length_14 (by rw [hx1_2]; rfl) (by decide) rfl ?_
      refine aw_goto (t := 4) hG dX7_length_17 rfl ?_
      obtain rfl := Option.some.inj h
      refine aw_sub (L' := [(0, .ref (wad (cxw g) (18 + j0))), (1, .int x1_2)]) [1, 0] rfl ?_
      exact hK
def f_X7_length_L28 (j0 : Nat) (x1 : Int32) (x2 : Int32) (m : MS) : Option ((Int32) ⊕ (Int32)) :=
  if 30 ≤ x2 then
    some (.inr x2)
  else
    if vI x1 (mLen j0) then
      if (kshr (mA m j0 x1.toNatClampNeg) x2) = 0 then
        some (.inr x2)
      else
        lt (x2 + 1) fun x2_7 =>
        some (.inl x2_7)
    else none
set_option maxRecDepth 20000 in
theorem w_X7_length_L28 {g : Cx} {mc ms : Nat} {c : CS} {m : MS} {z : Nat → Int64} {j0 : Nat} {x1 : Int32} {x2 : Int32} {s : ((Int32) ⊕ (Int32))} (hj0 : j0 < 8) (hG : Gd g RX7 cX7_length 3 1 mc ms) (h : f_X7_length_L28 j0 x1 x2 m = some s) (hK : Sum.elim (fun a => AW g 28 [(0, .ref (wad (cxw g) (18 + j0))), (1, .int x1), (2, .int a)] [] (c, m, z) 0 0) (fun e => AW g 48 [(1, .int x1), (2, .int e)] [] (c, m, z) 0 0) s) : AW g 28 [(0, .ref (wad (cxw g) (18 + j0))), (1, .int x1), (2, .int x2)] [] (c, m, z) 0 0 := by
  unfold f_X7_length_L28 at h
  refine aw_iload_n hG 2 rfl dX7_length_28 rfl ?_
  refine aw_bipush (v := 30) hG dX7_length_29 rfl ?_
  refine aw_icmp_ge (t := 48) hG dX7_length_31 rfl (fun hc => ?_) (fun hc => ?_)
  · replace h := it_p hc h
    obtain rfl := Option.some.inj h
    refine aw_sub (L' := [(1, .int x1), (2, .int x2)]) [1, 2] rfl ?_
    exact hK
  · replace h := it_n hc h
    refine aw_aload_n hG 0 rfl dX7_length_34 rfl ?_
    refine aw_iload_n hG 1 rfl dX7_length_35 rfl ?_
    obtain ⟨hi_6, h⟩ := it_o h
    refine al_mA (x := 0) hG hj0 hi_6 dX7_length_36 ?_
    refine aw_iload_n hG 2 rfl dX7_length_37 rfl ?_
    refine aw_ishrJ hG dX7_length_38 ?_
    refine aw_if_eq (t := 48) hG dX7_length_39 rfl (fun hc => ?_) (fun hc => ?_)
    · replace h := it_p hc h
      obtain rfl := Option.some.inj h
      refine aw_sub (L' := [(1, .int x1), (2, .int x2)]) [1, 2] rfl ?_
      exact hK
    · replace h := it_n hc h
      obtain ⟨x2_7, hx2_7⟩ : ∃ y : Int32, y = x2 + 1 := ⟨_, rfl⟩
      replace h := lt_r hx2_7 h
      refine aw_iinc (v := x2_7) (L' := [(2, .int x2_7), (0, .ref (wad (cxw g) (18 + j0))), (1, .int x1)]) hG 2 rfl dX7_length_42 (by rw [hx2_7]; rfl) (by decide) rfl ?_
      refine aw_goto (t := 28) hG dX7_length_45 rfl ?_
      obtain rfl := Option.some.inj h
      refine aw_sub (L' := [(0, .ref (wad (cxw g) (18 + j0))), (1, .int x1), (2, .int x2_7)]) [1, 2, 0] rfl ?_
      exact hK
noncomputable def f_X7_length (j0 : Nat) (m : MS) : Option Int32 :=
  Option.bind (Lp (fun a => f_X7_length_L4 j0 a m) 319) fun e_5 =>
  if 0 ≤ e_5 then
    Option.bind (Lp (fun a => f_X7_length_L28 j0 e_5 a m) 0) fun e_10 =>
    some ((30 * e_5) + e_10)
  else
    some 0
set_option maxRecDepth 20000 in
theorem w_X7_length {g : Cx} {mc ms : Nat} {c : CS} {m : MS} {z : Nat → Int64} {j0 : Nat} {s : Int32} (hj0 : j0 < 8) (hG : Gd g RX7 cX7_length 3 1 mc ms) (h : f_X7_length j0 m = some s) (hK : FinI g cX7_length mc ms s (c, m, z)) : AW g 0 [(0, .ref (wad (cxw g) (18 + j0)))] [] (c, m, z) 0 0 := by
  unfold f_X7_length at h
  refine aw_sipush (v := 319) hG dX7_length_0 rfl ?_
  refine aw_istore_n (L' := [(1, .int 319), (0, .ref (wad (cxw g) (18 + j0)))]) hG dX7_length_3 rfl (by decide) rfl ?_
  obtain ⟨e_5, he, h⟩ := bd_o h
  refine aw_sub (L' := [(0, .ref (wad (cxw g) (18 + j0))), (1, .int 319)]) [1, 0] rfl ?_
  refine Lp_w (F := (fun a => f_X7_length_L4 j0 a m)) (S := (fun a => AW g 4 [(0, .ref (wad (cxw g) (18 + j0))), (1, .int a)] [] (c, m, z) 0 0)) (E := (fun e => AW g 20 [(0, .ref (wad (cxw g) (18 + j0))), (1, .int e)] [] (c, m, z) 0 0)) (a := 319) he (fun a s h hK => w_X7_length_L4 (j0 := j0) (x1 := a) (m := m) hj0 hG h hK) ?_
  show AW g 20 _ _ _ 0 0
  refine aw_iload_n hG 1 rfl dX7_length_20 rfl ?_
  refine aw_if_ge (t := 26) hG dX7_length_21 rfl (fun hc => ?_) (fun hc => ?_)
  · replace h := it_p hc h
    refine aw_iconst (v := 0) hG dX7_length_26 rfl ?_
    refine aw_istore_n (L' := [(2, .int 0), (0, .ref (wad (cxw g) (18 + j0))), (1, .int e_5)]) hG dX7_length_27 rfl (by decide) rfl ?_
    obtain ⟨e_10, he, h⟩ := bd_o h
    refine aw_sub (L' := [(0, .ref (wad (cxw g) (18 + j0))), (1, .int e_5), (2, .int 0)]) [1, 2, 0] rfl ?_
    refine Lp_w (F := (fun a => f_X7_length_L28 j0 e_5 a m)) (S := (fun a => AW g 28 [(0, .ref (wad (cxw g) (18 + j0))), (1, .int e_5), (2, .int a)] [] (c, m, z) 0 0)) (E := (fun e => AW g 48 [(1, .int e_5), (2, .int e)] [] (c, m, z) 0 0)) (a := 0) he (fun a s h hK => w_X7_length_L28 (j0 := j0) (x1 := e_5) (x2 := a) (m := m) hj0 hG h hK) ?_
    show AW g 48 _ _ _ 0 0
    refine aw_bipush (v := 30) hG dX7_length_48 rfl ?_
    refine aw_iload_n hG 0 rfl dX7_length_50 rfl ?_
    refine aw_imul hG dX7_length_51 ?_
    refine aw_iload_n hG 1 rfl dX7_length_52 rfl ?_
    refine aw_iadd hG dX7_length_53 ?_
    obtain rfl := Option.some.inj h
    exact FinI.z hK dX7_length_54
  · replace h := it_n hc h
    refine aw_iconst (v := 0) hG dX7_length_24 rfl ?_
    obtain rfl := Option.some.inj h
    exact FinI.z hK dX7_length_25
theorem c_X7_length {c : CS} {m : MS} {z : Nat → Int64} {j0 : Nat} {s : Int32} (hj0 : j0 < 8) (h : f_X7_length j0 m = some s) : Ct yX7_length cX7_length 3 (some .int) 1 (fun w => [.ref (wad w (18 + j0))]) (c, m, z) (fun _ => some (.int s)) (c, m, z) := Ct_ofI (by decide +kernel) (fun _ => Nat.le_of_ble_eq_true rfl) (fun g hG hK => w_X7_length hj0 hG h hK)
def f_X7_left_J58 (j0 : Nat) (x2 : Int32) (x3 : Int32) (x4 : Int32) (x5 : Int64) (s0 : Int64) (m : MS) : Option ((Int32 × MS) ⊕ (MS)) :=
  if vI x4 (mLen j0) then
    lt (smA m j0 (upd (mA m j0) x4.toNatClampNeg ((((jshl x5 x3) ||| (jshr s0 (30 - x3))) &&& 1073741823).toInt32))) fun m_4 =>
    lt (x4 + (-1)) fun x4_5 =>
    some (.inl (x4_5, m_4))
  else none
set_option maxRecDepth 20000 in
theorem w_X7_left_J58 {g : Cx} {mc ms : Nat} {c : CS} {m : MS} {z : Nat → Int64} {j0 : Nat} {x2 : Int32} {x3 : Int32} {x4 : Int32} {x5 : Int64} {s0 : Int64} {s : ((Int32 × MS) ⊕ (MS))} (hj0 : j0 < 8) (hG : Gd g RX7 cX7_left 9 1 mc ms) (h : f_X7_left_J58 j0 x2 x3 x4 x5 s0 m = some s) (hK : Sum.elim (fun a => AW g 15 [(0, .ref (wad (cxw g) (18 + j0))), (2, .int x2), (3, .int x3), (4, .int a.1)] [] (c, a.2, z) 0 0) (fun e => AW g 87 [] [] (c, e, z) 0 0) s) : AW g 58 [(0, .ref (wad (cxw g) (18 + j0))), (2, .int x2), (3, .int x3), (4, .int x4), (5, .long x5)] [.long s0] (c, m, z) 0 0 := by
  unfold f_X7_left_J58 at h
  refine aw_lstore (L' := [(7, .long s0), (0, .ref (wad (cxw g) (18 + j0))), (2, .int x2), (3, .int x3), (4, .int x4), (5, .long x5)]) hG dX7_left_58 (by decide) rfl ?_
  refine aw_aload_n hG 1 rfl dX7_left_60 rfl ?_
  refine aw_iload hG 4 rfl dX7_left_61 ?_
  refine aw_lload hG 5 rfl dX7_left_63 ?_
  refine aw_iload_n hG 3 rfl dX7_left_65 rfl ?_
  refine aw_lshlJ hG dX7_left_66 ?_
  refine aw_lload hG 0 rfl dX7_left_67 ?_
  refine aw_bipush (v := 30) hG dX7_left_69 rfl ?_
  refine aw_iload_n hG 3 rfl dX7_left_71 rfl ?_
  refine aw_isub hG dX7_left_72 ?_
  refine aw_lshrJ hG dX7_left_73 ?_
  refine aw_lor hG dX7_left_74 ?_
  refine aw_ldc2 hG l_652 dX7_left_75 ?_
  refine aw_land hG dX7_left_78 ?_
  refine aw_l2i hG dX7_left_79 ?_
  obtain ⟨hi_3, h⟩ := it_o h
  refine as_mA hG hj0 hi_3 dX7_left_80 ?_
  refine aw_stm (fun m_4 hm_4 => ?_)
  replace h := lt_r hm_4 h
  obtain ⟨x4_5, hx4_5⟩ : ∃ y : Int32, y = x4 + (-1) := ⟨_, rfl⟩
  replace h := lt_r hx4_5 h
  refine aw_iinc (v := x4_5) (L' := [(4, .int x4_5), (7, .long s0), (0, .ref (wad (cxw g) (18 + j0))), (2, .int x2), (3, .int x3), (5, .long x5)]) hG 4 rfl dX7_left_81 (by rw [hx4_5]; rfl) (by decide) rfl ?_
  refine aw_goto (t := 15) hG dX7_left_84 rfl ?_
  obtain rfl := Option.some.inj h
  refine aw_sub (L' := [(0, .ref (wad (cxw g) (18 + j0))), (2, .int x2), (3, .int x3), (4, .int x4_5)]) [2, 3, 4, 0] rfl ?_
  exact hK
def f_X7_left_J37 (j0 : Nat) (x2 : Int32) (x3 : Int32) (x4 : Int32) (s0 : Int64) (m : MS) : Option ((Int32 × MS) ⊕ (MS)) :=
  if x4 ≤ x2 then
    f_X7_left_J58 j0 x2 x3 x4 s0 0 m
  else
    if vI ((x4 - x2) - 1) (mLen j0) then
      f_X7_left_J58 j0 x2 x3 x4 s0 ((mA m j0 ((x4 - x2) - 1).toNatClampNeg).toInt64) m
    else none
set_option maxRecDepth 20000 in
theorem w_X7_left_J37 {g : Cx} {mc ms : Nat} {c : CS} {m : MS} {z : Nat → Int64} {j0 : Nat} {x2 : Int32} {x3 : Int32} {x4 : Int32} {s0 : Int64} {s : ((Int32 × MS) ⊕ (MS))} (hj0 : j0 < 8) (hG : Gd g RX7 cX7_left 9 1 mc ms) (h : f_X7_left_J37 j0 x2 x3 x4 s0 m = some s) (hK : Sum.elim (fun a => AW g 15 [(0, .ref (wad (cxw g) (18 + j0))), (2, .int x2), (3, .int x3), (4, .int a.1)] [] (c, a.2, z) 0 0) (fun e => AW g 87 [] [] (c, e, z) 0 0) s) : AW g 37 [(0, .ref (wad (cxw g) (18 + j0))), (2, .int x2), (3, .int x3), (4, .int x4)] [.long s0] (c, m, z) 0 0 := by
  unfold f_X7_left_J37 at h
  refine aw_lstore (L' := [(5, .long s0), (0, .ref (wad (cxw g) (18 + j0))), (2, .int x2), (3, .int x3), (4, .int x4)]) hG dX7_left_37 (by decide) rfl ?_
  refine aw_iload hG 4 rfl dX7_left_39 ?_
  refine aw_iload_n hG 2 rfl dX7_left_41 rfl ?_
  refine aw_icmp_le (t := 57) hG dX7_left_42 rfl (fun hc => ?_) (fun hc => ?_)
  · replace h := it_p hc h
    refine aw_lconst (v := 0) hG dX7_left_57 rfl ?_
    refine aw_sub (L' := [(0, .ref (wad (cxw g) (18 + j0))), (2, .int x2), (3, .int x3), (4, .int x4), (5, .long s0)]) [1, 2, 3, 4, 0] rfl ?_
    exact w_X7_left_J58 (j0 := j0) (x2 := x2) (x3 := x3) (x4 := x4) (x5 := s0) (s0 := 0) (m := m) hj0 hG h hK
  · replace h := it_n hc h
    refine aw_aload_n hG 1 rfl dX7_left_45 rfl ?_
    refine aw_iload hG 4 rfl dX7_left_46 ?_
    refine aw_iload_n hG 2 rfl dX7_left_48 rfl ?_
    refine aw_isub hG dX7_left_49 ?_
    refine aw_iconst (v := 1) hG dX7_left_50 rfl ?_
    refine aw_isub hG dX7_left_51 ?_
    obtain ⟨hi_6, h⟩ := it_o h
    refine al_mA (x := 0) hG hj0 hi_6 dX7_left_52 ?_
    refine aw_i2l hG dX7_left_53 ?_
    refine aw_goto (t := 58) hG dX7_left_54 rfl ?_
    refine aw_sub (L' := [(0, .ref (wad (cxw g) (18 + j0))), (2, .int x2), (3, .int x3), (4, .int x4), (5, .long s0)]) [1, 2, 3, 4, 0] rfl ?_
    exact w_X7_left_J58 (j0 := j0) (x2 := x2) (x3 := x3) (x4 := x4) (x5 := s0) (s0 := (mA m j0 ((x4 - x2) - 1).toNatClampNeg).toInt64) (m := m) hj0 hG h hK
def f_X7_left_L15 (j0 : Nat) (x2 : Int32) (x3 : Int32) (x4 : Int32) (m : MS) : Option ((Int32 × MS) ⊕ (MS)) :=
  if x4 < 0 then
    some (.inr m)
  else
    if x4 < x2 then
      f_X7_left_J37 j0 x2 x3 x4 0 m
    else
      if vI (x4 - x2) (mLen j0) then
        f_X7_left_J37 j0 x2 x3 x4 ((mA m j0 (x4 - x2).toNatClampNeg).toInt64) m
      else none
set_option maxRecDepth 20000 in
theorem w_X7_left_L15 {g : Cx} {mc ms : Nat} {c : CS} {m : MS} {z : Nat → Int64} {j0 : Nat} {x2 : Int32} {x3 : Int32} {x4 : Int32} {s : ((Int32 × MS) ⊕ (MS))} (hj0 : j0 < 8) (hG : Gd g RX7 cX7_left 9 1 mc ms) (h : f_X7_left_L15 j0 x2 x3 x4 m = some s) (hK : Sum.elim (fun a => AW g 15 [(0, .ref (wad (cxw g) (18 + j0))), (2, .int x2), (3, .int x3), (4, .int a.1)] [] (c, a.2, z) 0 0) (fun e => AW g 87 [] [] (c, e, z) 0 0) s) : AW g 15 [(0, .ref (wad (cxw g) (18 + j0))), (2, .int x2), (3, .int x3), (4, .int x4)] [] (c, m, z) 0 0 := by
  unfold f_X7_left_L15 at h
  refine aw_iload hG 3 rfl dX7_left_15 ?_
  refine aw_if_lt (t := 87) hG dX7_left_17 rfl (fun hc => ?_) (fun hc => ?_)
  · replace h := it_p hc h
    obtain rfl := Option.some.inj h
    refine aw_sub (L' := []) [] rfl ?_
    exact hK
  · replace h := it_n hc h
    refine aw_iload hG 3 rfl dX7_left_20 ?_
    refine aw_iload_n hG 1 rfl dX7_left_22 rfl ?_
    refine aw_icmp_lt (t := 36) hG dX7_left_23 rfl (fun hc => ?_) (fun hc => ?_)
    · replace h := it_p hc h
      refine aw_lconst (v := 0) hG dX7_left_36 rfl ?_
      exact w_X7_left_J37 (j0 := j0) (x2 := x2) (x3 := x3) (x4 := x4) (s0 := 0) (m := m) hj0 hG h hK
    · replace h := it_n hc h
      refine aw_aload_n hG 0 rfl dX7_left_26 rfl ?_
      refine aw_iload hG 3 rfl dX7_left_27 ?_
      refine aw_iload_n hG 1 rfl dX7_left_29 rfl ?_
      refine aw_isub hG dX7_left_30 ?_
      obtain ⟨hi_8, h⟩ := it_o h
      refine al_mA (x := 0) hG hj0 hi_8 dX7_left_31 ?_
      refine aw_i2l hG dX7_left_32 ?_
      refine aw_goto (t := 37) hG dX7_left_33 rfl ?_
      exact w_X7_left_J37 (j0 := j0) (x2 := x2) (x3 := x3) (x4 := x4) (s0 := (mA m j0 (x4 - x2).toNatClampNeg).toInt64) (m := m) hj0 hG h hK
noncomputable def f_X7_left (j0 : Nat) (x1 : Int32) (m : MS) : Option MS :=
  lt (x1 / 30) fun x2_1 =>
  lt (irm x1 30) fun x3_2 =>
  Option.bind (Lp (fun a => f_X7_left_L15 j0 x2_1 x3_2 a.1 a.2) (319, m)) fun e_11 =>
  some e_11
set_option maxRecDepth 20000 in
theorem w_X7_left {g : Cx} {mc ms : Nat} {c : CS} {m : MS} {z : Nat → Int64} {j0 : Nat} {x1 : Int32} {s : MS} (hj0 : j0 < 8) (hG : Gd g RX7 cX7_left 9 1 mc ms) (h : f_X7_left j0 x1 m = some s) (hK : FinV g cX7_left mc ms (c, s, z)) : AW g 0 [(0, .ref (wad (cxw g) (18 + j0))), (1, .int x1)] [] (c, m, z) 0 0 := by
  unfold f_X7_left at h
  refine aw_iload_n hG 1 rfl dX7_left_0 rfl ?_
  refine aw_bipush (v := 30) hG dX7_left_1 rfl ?_
  refine aw_idiv hG dX7_left_3 (by decide) ?_
  refine aw_topi (fun x2_1 hx2_1 => ?_)
  replace h := lt_r hx2_1 h
  refine aw_istore_n (L' := [(2, .int x2_1), (0, .ref (wad (cxw g) (18 + j0))), (1, .int x1)]) hG dX7_left_4 rfl (by decide) rfl ?_
  refine aw_iload_n hG 2 rfl dX7_left_5 rfl ?_
  refine aw_bipush (v := 30) hG dX7_left_6 rfl ?_
  refine aw_iremJ hG dX7_left_8 (by decide) ?_
  refine aw_topi (fun x3_2 hx3_2 => ?_)
  replace h := lt_r hx3_2 h
  refine aw_istore_n (L' := [(3, .int x3_2), (2, .int x2_1), (0, .ref (wad (cxw g) (18 + j0))), (1, .int x1)]) hG dX7_left_9 rfl (by decide) rfl ?_
  refine aw_sipush (v := 319) hG dX7_left_10 rfl ?_
  refine aw_istore (L' := [(4, .int 319), (3, .int x3_2), (2, .int x2_1), (0, .ref (wad (cxw g) (18 + j0))), (1, .int x1)]) hG dX7_left_13 (by decide) rfl ?_
  obtain ⟨e_11, he, h⟩ := bd_o h
  refine aw_sub (L' := [(0, .ref (wad (cxw g) (18 + j0))), (2, .int x2_1), (3, .int x3_2), (4, .int 319)]) [3, 2, 1, 0] rfl ?_
  refine Lp_w (F := (fun a => f_X7_left_L15 j0 x2_1 x3_2 a.1 a.2)) (S := (fun a => AW g 15 [(0, .ref (wad (cxw g) (18 + j0))), (2, .int x2_1), (3, .int x3_2), (4, .int a.1)] [] (c, a.2, z) 0 0)) (E := (fun e => AW g 87 [] [] (c, e, z) 0 0)) (a := (319, m)) he (fun a s h hK => w_X7_left_L15 (j0 := j0) (x2 := x2_1) (x3 := x3_2) (x4 := a.1) (m := a.2) hj0 hG h hK) ?_
  show AW g 87 _ _ _ 0 0
  obtain rfl := Option.some.inj h
  exact FinV.z hK dX7_left_87
theorem c_X7_left {c : CS} {m : MS} {z : Nat → Int64} {j0 : Nat} {x1 : Int32} {s : MS} (hj0 : j0 < 8) (h : f_X7_left j0 x1 m = some s) : Ct yX7_left cX7_left 9 none 1 (fun w => [.ref (wad w (18 + j0)), .int x1]) (c, m, z) (fun _ => none) (c, s, z) := Ct_ofV (by decide +kernel) (fun _ => Nat.le_of_ble_eq_true rfl) (fun g hG hK => w_X7_left hj0 hG h hK)
def f_X7_halve_J27 (j0 : Nat) (x1 : Int32) (s0 : Int32) (m : MS) : Option ((Int32 × MS) ⊕ (MS)) :=
  if vI x1 (mLen j0) then
    if vI x1 (mLen j0) then
      lt (smA m j0 (upd (mA m j0) x1.toNatClampNeg ((kshr (mA m j0 x1.toNatClampNeg) 1) ||| (kshl (s0 &&& 1) 29)))) fun m_3 =>
      lt (x1 + 1) fun x1_4 =>
      some (.inl (x1_4, m_3))
    else none
  else none
set_option maxRecDepth 20000 in
theorem w_X7_halve_J27 {g : Cx} {mc ms : Nat} {c : CS} {m : MS} {z : Nat → Int64} {j0 : Nat} {x1 : Int32} {s0 : Int32} {s : ((Int32 × MS) ⊕ (MS))} (hj0 : j0 < 8) (hG : Gd g RX7 cX7_halve 3 1 mc ms) (h : f_X7_halve_J27 j0 x1 s0 m = some s) (hK : Sum.elim (fun a => AW g 2 [(0, .ref (wad (cxw g) (18 + j0))), (1, .int a.1)] [] (c, a.2, z) 0 0) (fun e => AW g 49 [] [] (c, e, z) 0 0) s) : AW g 27 [(0, .ref (wad (cxw g) (18 + j0))), (1, .int x1)] [.int s0] (c, m, z) 0 0 := by
  unfold f_X7_halve_J27 at h
  refine aw_istore_n (L' := [(2, .int s0), (0, .ref (wad (cxw g) (18 + j0))), (1, .int x1)]) hG dX7_halve_27 rfl (by decide) rfl ?_
  refine aw_aload_n hG 1 rfl dX7_halve_28 rfl ?_
  refine aw_iload_n hG 2 rfl dX7_halve_29 rfl ?_
  refine aw_aload_n hG 1 rfl dX7_halve_30 rfl ?_
  refine aw_iload_n hG 2 rfl dX7_halve_31 rfl ?_
  obtain ⟨hi_1, h⟩ := it_o h
  refine al_mA (x := 0) hG hj0 hi_1 dX7_halve_32 ?_
  refine aw_iconst (v := 1) hG dX7_halve_33 rfl ?_
  refine aw_ishrJ hG dX7_halve_34 ?_
  refine aw_iload_n hG 0 rfl dX7_halve_35 rfl ?_
  refine aw_iconst (v := 1) hG dX7_halve_36 rfl ?_
  refine aw_iand hG dX7_halve_37 ?_
  refine aw_bipush (v := 29) hG dX7_halve_38 rfl ?_
  refine aw_ishlJ hG dX7_halve_40 ?_
  refine aw_ior hG dX7_halve_41 ?_
  obtain ⟨hi_2, h⟩ := it_o h
  refine as_mA hG hj0 hi_2 dX7_halve_42 ?_
  refine aw_stm (fun m_3 hm_3 => ?_)
  replace h := lt_r hm_3 h
  obtain ⟨x1_4, hx1_4⟩ : ∃ y : Int32, y = x1 + 1 := ⟨_, rfl⟩
  replace h := lt_r hx1_4 h
  refine aw_iinc (v := x1_4) (L' := [(1, .int x1_4), (2, .int s0), (0, .ref (wad (cxw g) (18 + j0)))]) hG 2 rfl dX7_halve_43 (by rw [hx1_4]; rfl) (by decide) rfl ?_
  refine aw_goto (t := 2) hG dX7_halve_46 rfl ?_
  obtain rfl := Option.some.inj h
  refine aw_sub (L' := [(0, .ref (wad (cxw g) (18 + j0))), (1, .int x1_4)]) [2, 0] rfl ?_
  exact hK
def f_X7_halve_L2 (j0 : Nat) (x1 : Int32) (m : MS) : Option ((Int32 × MS) ⊕ (MS)) :=
  if 320 ≤ x1 then
    some (.inr m)
  else
    if 320 ≤ (x1 + 1) then
      f_X7_halve_J27 j0 x1 0 m
    else
      if vI (x1 + 1) (mLen j0) then
        f_X7_halve_J27 j0 x1 (mA m j0 (x1 + 1).toNatClampNeg) m
      else none
set_option maxRecDepth 20000 in
theorem w_X7_halve_L2 {g : Cx} {mc ms : Nat} {c : CS} {m : MS} {z : Nat → Int64} {j0 : Nat} {x1 : Int32} {s : ((Int32 × MS) ⊕ (MS))} (hj0 : j0 < 8) (hG : Gd g RX7 cX7_halve 3 1 mc ms) (h : f_X7_halve_L2 j0 x1 m = some s) (hK : Sum.elim (fun a => AW g 2 [(0, .ref (wad (cxw g) (18 + j0))), (1, .int a.1)] [] (c, a.2, z) 0 0) (fun e => AW g 49 [] [] (c, e, z) 0 0) s) : AW g 2 [(0, .ref (wad (cxw g) (18 + j0))), (1, .int x1)] [] (c, m, z) 0 0 := by
  unfold f_X7_halve_L2 at h
  refine aw_iload_n hG 1 rfl dX7_halve_2 rfl ?_
  refine aw_sipush (v := 320) hG dX7_halve_3 rfl ?_
  refine aw_icmp_ge (t := 49) hG dX7_halve_6 rfl (fun hc => ?_) (fun hc => ?_)
  · replace h := it_p hc h
    obtain rfl := Option.some.inj h
    refine aw_sub (L' := []) [] rfl ?_
    exact hK
  · replace h := it_n hc h
    refine aw_iload_n hG 1 rfl dX7_halve_9 rfl ?_
    refine aw_iconst (v := 1) hG dX7_halve_10 rfl ?_
    refine aw_iadd hG dX7_halve_11 ?_
    refine aw_sipush (v := 320) hG dX7_halve_12 rfl ?_
    refine aw_icmp_ge (t := 26) hG dX7_halve_15 rfl (fun hc => ?_) (fun hc => ?_)
    · replace h := it_p hc h
      refine aw_iconst (v := 0) hG dX7_halve_26 rfl ?_
      exact w_X7_halve_J27 (j0 := j0) (x1 := x1) (s0 := 0) (m := m) hj0 hG h hK
    · replace h := it_n hc h
      refine aw_aload_n hG 0 rfl dX7_halve_18 rfl ?_
      refine aw_iload_n hG 1 rfl dX7_halve_19 rfl ?_
      refine aw_iconst (v := 1) hG dX7_halve_20 rfl ?_
      refine aw_iadd hG dX7_halve_21 ?_
      obtain ⟨hi_5, h⟩ := it_o h
      refine al_mA (x := 0) hG hj0 hi_5 dX7_halve_22 ?_
      refine aw_goto (t := 27) hG dX7_halve_23 rfl ?_
      exact w_X7_halve_J27 (j0 := j0) (x1 := x1) (s0 := mA m j0 (x1 + 1).toNatClampNeg) (m := m) hj0 hG h hK
noncomputable def f_X7_halve (j0 : Nat) (m : MS) : Option MS :=
  Option.bind (Lp (fun a => f_X7_halve_L2 j0 a.1 a.2) (0, m)) fun e_8 =>
  some e_8
set_option maxRecDepth 20000 in
theorem w_X7_halve {g : Cx} {mc ms : Nat} {c : CS} {m : MS} {z : Nat → Int64} {j0 : Nat} {s : MS} (hj0 : j0 < 8) (hG : Gd g RX7 cX7_halve 3 1 mc ms) (h : f_X7_halve j0 m = some s) (hK : FinV g cX7_halve mc ms (c, s, z)) : AW g 0 [(0, .ref (wad (cxw g) (18 + j0)))] [] (c, m, z) 0 0 := by
  unfold f_X7_halve at h
  refine aw_iconst (v := 0) hG dX7_halve_0 rfl ?_
  refine aw_istore_n (L' := [(1, .int 0), (0, .ref (wad (cxw g) (18 + j0)))]) hG dX7_halve_1 rfl (by decide) rfl ?_
  obtain ⟨e_8, he, h⟩ := bd_o h
  refine aw_sub (L' := [(0, .ref (wad (cxw g) (18 + j0))), (1, .int 0)]) [1, 0] rfl ?_
  refine Lp_w (F := (fun a => f_X7_halve_L2 j0 a.1 a.2)) (S := (fun a => AW g 2 [(0, .ref (wad (cxw g) (18 + j0))), (1, .int a.1)] [] (c, a.2, z) 0 0)) (E := (fun e => AW g 49 [] [] (c, e, z) 0 0)) (a := (0, m)) he (fun a s h hK => w_X7_halve_L2 (j0 := j0) (x1 := a.1) (m := a.2) hj0 hG h hK) ?_
  show AW g 49 _ _ _ 0 0
  obtain rfl := Option.some.inj h
  exact FinV.z hK dX7_halve_49
theorem c_X7_halve {c : CS} {m : MS} {z : Nat → Int64} {j0 : Nat} {s : MS} (hj0 : j0 < 8) (h : f_X7_halve j0 m = some s) : Ct yX7_halve cX7_halve 3 none 1 (fun w => [.ref (wad w (18 + j0))]) (c, m, z) (fun _ => none) (c, s, z) := Ct_ofV (by decide +kernel) (fun _ => Nat.le_of_ble_eq_true rfl) (fun g hG hK => w_X7_halve hj0 hG h hK)
def f_X7_compareRows_L4 (j0 : Nat) (j1 : Nat) (x2 : Int32) (m : MS) : Option ((Int32) ⊕ (Int32)) :=
  if x2 ≤ 0 then
    some (.inr x2)
  else
    if vI x2 (mLen j0) then
      if vI x2 (mLen j1) then
        if (mA m j0 x2.toNatClampNeg) = (mA m j1 x2.toNatClampNeg) then
          lt (x2 + (-1)) fun x2_3 =>
          some (.inl x2_3)
        else
          some (.inr x2)
      else none
    else none
set_option maxRecDepth 20000 in
theorem w_X7_compareRows_L4 {g : Cx} {mc ms : Nat} {c : CS} {m : MS} {z : Nat → Int64} {j0 : Nat} {j1 : Nat} {x2 : Int32} {s : ((Int32) ⊕ (Int32))} (hj0 : j0 < 8) (hj1 : j1 < 8) (hG : Gd g RX7 cX7_compareRows 3 1 mc ms) (h : f_X7_compareRows_L4 j0 j1 x2 m = some s) (hK : Sum.elim (fun a => AW g 4 [(0, .ref (wad (cxw g) (18 + j0))), (1, .ref (wad (cxw g) (18 + j1))), (2, .int a)] [] (c, m, z) 0 0) (fun e => AW g 23 [(0, .ref (wad (cxw g) (18 + j0))), (1, .ref (wad (cxw g) (18 + j1))), (2, .int e)] [] (c, m, z) 0 0) s) : AW g 4 [(0, .ref (wad (cxw g) (18 + j0))), (1, .ref (wad (cxw g) (18 + j1))), (2, .int x2)] [] (c, m, z) 0 0 := by
  unfold f_X7_compareRows_L4 at h
  refine aw_iload_n hG 2 rfl dX7_compareRows_4 rfl ?_
  refine aw_if_le (t := 23) hG dX7_compareRows_5 rfl (fun hc => ?_) (fun hc => ?_)
  · replace h := it_p hc h
    obtain rfl := Option.some.inj h
    exact hK
  · replace h := it_n hc h
    refine aw_aload_n hG 0 rfl dX7_compareRows_8 rfl ?_
    refine aw_iload_n hG 2 rfl dX7_compareRows_9 rfl ?_
    obtain ⟨hi_1, h⟩ := it_o h
    refine al_mA (x := 0) hG hj0 hi_1 dX7_compareRows_10 ?_
    refine aw_aload_n hG 1 rfl dX7_compareRows_11 rfl ?_
    refine aw_iload_n hG 2 rfl dX7_compareRows_12 rfl ?_
    obtain ⟨hi_2, h⟩ := it_o h
    refine al_mA (x := 0) hG hj1 hi_2 dX7_compareRows_13 ?_
    refine aw_icmp_ne (t := 23) hG dX7_compareRows_14 rfl (fun hc => ?_) (fun hc => ?_)
    · replace h := it_n hc h
      obtain rfl := Option.some.inj h
      exact hK
    · replace h := it_p hc h
      obtain ⟨x2_3, hx2_3⟩ : ∃ y : Int32, y = x2 + (-1) := ⟨_, rfl⟩
      replace h := lt_r hx2_3 h
      refine aw_iinc (v := x2_3) (L' := [(2, .int x2_3), (0, .ref (wad (cxw g) (18 + j0))), (1, .ref (wad (cxw g) (18 + j1)))]) hG 2 rfl dX7_compareRows_17 (by rw [hx2_3]; rfl) (by decide) rfl ?_
      refine aw_goto (t := 4) hG dX7_compareRows_20 rfl ?_
      obtain rfl := Option.some.inj h
      refine aw_sub (L' := [(0, .ref (wad (cxw g) (18 + j0))), (1, .ref (wad (cxw g) (18 + j1))), (2, .int x2_3)]) [1, 2, 0] rfl ?_
      exact hK
noncomputable def f_X7_compareRows (j0 : Nat) (j1 : Nat) (m : MS) : Option Int32 :=
  Option.bind (Lp (fun a => f_X7_compareRows_L4 j0 j1 a m) 319) fun e_6 =>
  if vI e_6 (mLen j0) then
    if vI e_6 (mLen j1) then
      if (mA m j1 e_6.toNatClampNeg) ≤ (mA m j0 e_6.toNatClampNeg) then
        if vI e_6 (mLen j0) then
          if vI e_6 (mLen j1) then
            if (mA m j0 e_6.toNatClampNeg) ≤ (mA m j1 e_6.toNatClampNeg) then
              some 0
            else
              some 1
          else none
        else none
      else
        some (-1)
    else none
  else none
set_option maxRecDepth 20000 in
theorem w_X7_compareRows {g : Cx} {mc ms : Nat} {c : CS} {m : MS} {z : Nat → Int64} {j0 : Nat} {j1 : Nat} {s : Int32} (hj0 : j0 < 8) (hj1 : j1 < 8) (hG : Gd g RX7 cX7_compareRows 3 1 mc ms) (h : f_X7_compareRows j0 j1 m = some s) (hK : FinI g cX7_compareRows mc ms s (c, m, z)) : AW g 0 [(0, .ref (wad (cxw g) (18 + j0))), (1, .ref (wad (cxw g) (18 + j1)))] [] (c, m, z) 0 0 := by
  unfold f_X7_compareRows at h
  refine aw_sipush (v := 319) hG dX7_compareRows_0 rfl ?_
  refine aw_istore_n (L' := [(2, .int 319), (0, .ref (wad (cxw g) (18 + j0))), (1, .ref (wad (cxw g) (18 + j1)))]) hG dX7_compareRows_3 rfl (by decide) rfl ?_
  obtain ⟨e_6, he, h⟩ := bd_o h
  refine aw_sub (L' := [(0, .ref (wad (cxw g) (18 + j0))), (1, .ref (wad (cxw g) (18 + j1))), (2, .int 319)]) [1, 2, 0] rfl ?_
  refine Lp_w (F := (fun a => f_X7_compareRows_L4 j0 j1 a m)) (S := (fun a => AW g 4 [(0, .ref (wad (cxw g) (18 + j0))), (1, .ref (wad (cxw g) (18 + j1))), (2, .int a)] [] (c, m, z) 0 0)) (E := (fun e => AW g 23 [(0, .ref (wad (cxw g) (18 + j0))), (1, .ref (wad (cxw g) (18 + j1))), (2, .int e)] [] (c, m, z) 0 0)) (a := 319) he (fun a s h hK => w_X7_compareRows_L4 (j0 := j0) (j1 := j1) (x2 := a) (m := m) hj0 hj1 hG h hK) ?_
  show AW g 23 _ _ _ 0 0
  refine aw_aload_n hG 0 rfl dX7_compareRows_23 rfl ?_
  refine aw_iload_n hG 2 rfl dX7_compareRows_24 rfl ?_
  obtain ⟨hi_7, h⟩ := it_o h
  refine al_mA (x := 0) hG hj0 hi_7 dX7_compareRows_25 ?_
  refine aw_aload_n hG 1 rfl dX7_compareRows_26 rfl ?_
  refine aw_iload_n hG 2 rfl dX7_compareRows_27 rfl ?_
  obtain ⟨hi_8, h⟩ := it_o h
  refine al_mA (x := 0) hG hj1 hi_8 dX7_compareRows_28 ?_
  refine aw_icmp_ge (t := 36) hG dX7_compareRows_29 rfl (fun hc => ?_) (fun hc => ?_)
  · replace h := it_p hc h
    refine aw_aload_n hG 0 rfl dX7_compareRows_36 rfl ?_
    refine aw_iload_n hG 2 rfl dX7_compareRows_37 rfl ?_
    obtain ⟨hi_9, h⟩ := it_o h
    refine al_mA (x := 0) hG hj0 hi_9 dX7_compareRows_38 ?_
    refine aw_aload_n hG 1 rfl dX7_compareRows_39 rfl ?_
    refine aw_iload_n hG 2 rfl dX7_compareRows_40 rfl ?_
    obtain ⟨hi_10, h⟩ := it_o h
    refine al_mA (x := 0) hG hj1 hi_10 dX7_compareRows_41 ?_
    refine aw_icmp_le (t := 49) hG dX7_compareRows_42 rfl (fun hc => ?_) (fun hc => ?_)
    · replace h := it_p hc h
      refine aw_iconst (v := 0) hG dX7_compareRows_49 rfl ?_
      obtain rfl := Option.some.inj h
      exact FinI.z hK dX7_compareRows_50
    · replace h := it_n hc h
      refine aw_iconst (v := 1) hG dX7_compareRows_45 rfl ?_
      refine aw_goto (t := 50) hG dX7_compareRows_46 rfl ?_
      obtain rfl := Option.some.inj h
      exact FinI.z hK dX7_compareRows_50
  · replace h := it_n hc h
    refine aw_iconst (v := (-1)) hG dX7_compareRows_32 rfl ?_
    refine aw_goto (t := 50) hG dX7_compareRows_33 rfl ?_
    obtain rfl := Option.some.inj h
    exact FinI.z hK dX7_compareRows_50
theorem c_X7_compareRows {c : CS} {m : MS} {z : Nat → Int64} {j0 : Nat} {j1 : Nat} {s : Int32} (hj0 : j0 < 8) (hj1 : j1 < 8) (h : f_X7_compareRows j0 j1 m = some s) : Ct yX7_compareRows cX7_compareRows 3 (some .int) 1 (fun w => [.ref (wad w (18 + j0)), .ref (wad w (18 + j1))]) (c, m, z) (fun _ => some (.int s)) (c, m, z) := Ct_ofI (by decide +kernel) (fun _ => Nat.le_of_ble_eq_true rfl) (fun g hG hK => w_X7_compareRows hj0 hj1 hG h hK)
def f_X7_less_J32 (j0 : Nat) (j1 : Nat) (x3 : Int32) (x4 : Int32) (s0 : Int32) (m : MS) : Option ((Int32 × Int32 × MS) ⊕ (MS)) :=
  if vI x3 (mLen j0) then
    lt (smA m j0 (upd (mA m j0) x3.toNatClampNeg (x4 &&& 1073741823))) fun m_5 =>
    lt (x3 + 1) fun x3_6 =>
    some (.inl (s0, x3_6, m_5))
  else none
set_option maxRecDepth 20000 in
theorem w_X7_less_J32 {g : Cx} {mc ms : Nat} {c : CS} {m : MS} {z : Nat → Int64} {j0 : Nat} {j1 : Nat} {x3 : Int32} {x4 : Int32} {s0 : Int32} {s : ((Int32 × Int32 × MS) ⊕ (MS))} (hj0 : j0 < 8) (hj1 : j1 < 8) (hG : Gd g RX7 cX7_less 5 1 mc ms) (h : f_X7_less_J32 j0 j1 x3 x4 s0 m = some s) (hK : Sum.elim (fun a => AW g 4 [(0, .ref (wad (cxw g) (18 + j0))), (1, .ref (wad (cxw g) (18 + j1))), (2, .int a.1), (3, .int a.2.1)] [] (c, a.2.2, z) 0 0) (fun e => AW g 47 [] [] (c, e, z) 0 0) s) : AW g 32 [(0, .ref (wad (cxw g) (18 + j0))), (1, .ref (wad (cxw g) (18 + j1))), (3, .int x3), (4, .int x4)] [.int s0] (c, m, z) 0 0 := by
  unfold f_X7_less_J32 at h
  refine aw_istore_n (L' := [(2, .int s0), (0, .ref (wad (cxw g) (18 + j0))), (1, .ref (wad (cxw g) (18 + j1))), (3, .int x3), (4, .int x4)]) hG dX7_less_32 rfl (by decide) rfl ?_
  refine aw_aload_n hG 1 rfl dX7_less_33 rfl ?_
  refine aw_iload_n hG 3 rfl dX7_less_34 rfl ?_
  refine aw_iload hG 4 rfl dX7_less_35 ?_
  refine aw_ldc hG l_658 dX7_less_37 ?_
  refine aw_iand hG dX7_less_39 ?_
  obtain ⟨hi_4, h⟩ := it_o h
  refine as_mA hG hj0 hi_4 dX7_less_40 ?_
  refine aw_stm (fun m_5 hm_5 => ?_)
  replace h := lt_r hm_5 h
  obtain ⟨x3_6, hx3_6⟩ : ∃ y : Int32, y = x3 + 1 := ⟨_, rfl⟩
  replace h := lt_r hx3_6 h
  refine aw_iinc (v := x3_6) (L' := [(3, .int x3_6), (2, .int s0), (0, .ref (wad (cxw g) (18 + j0))), (1, .ref (wad (cxw g) (18 + j1))), (4, .int x4)]) hG 3 rfl dX7_less_41 (by rw [hx3_6]; rfl) (by decide) rfl ?_
  refine aw_goto (t := 4) hG dX7_less_44 rfl ?_
  obtain rfl := Option.some.inj h
  refine aw_sub (L' := [(0, .ref (wad (cxw g) (18 + j0))), (1, .ref (wad (cxw g) (18 + j1))), (2, .int s0), (3, .int x3_6)]) [2, 3, 1, 0] rfl ?_
  exact hK
def f_X7_less_L4 (j0 : Nat) (j1 : Nat) (x2 : Int32) (x3 : Int32) (m : MS) : Option ((Int32 × Int32 × MS) ⊕ (MS)) :=
  if 320 ≤ x3 then
    some (.inr m)
  else
    if vI x3 (mLen j0) then
      if vI x3 (mLen j1) then
        lt (((mA m j0 x3.toNatClampNeg) - (mA m j1 x3.toNatClampNeg)) - x2) fun x4_3 =>
        if 0 ≤ x4_3 then
          f_X7_less_J32 j0 j1 x3 x4_3 0 m
        else
          f_X7_less_J32 j0 j1 x3 x4_3 1 m
      else none
    else none
set_option maxRecDepth 20000 in
theorem w_X7_less_L4 {g : Cx} {mc ms : Nat} {c : CS} {m : MS} {z : Nat → Int64} {j0 : Nat} {j1 : Nat} {x2 : Int32} {x3 : Int32} {s : ((Int32 × Int32 × MS) ⊕ (MS))} (hj0 : j0 < 8) (hj1 : j1 < 8) (hG : Gd g RX7 cX7_less 5 1 mc ms) (h : f_X7_less_L4 j0 j1 x2 x3 m = some s) (hK : Sum.elim (fun a => AW g 4 [(0, .ref (wad (cxw g) (18 + j0))), (1, .ref (wad (cxw g) (18 + j1))), (2, .int a.1), (3, .int a.2.1)] [] (c, a.2.2, z) 0 0) (fun e => AW g 47 [] [] (c, e, z) 0 0) s) : AW g 4 [(0, .ref (wad (cxw g) (18 + j0))), (1, .ref (wad (cxw g) (18 + j1))), (2, .int x2), (3, .int x3)] [] (c, m, z) 0 0 := by
  unfold f_X7_less_L4 at h
  refine aw_iload_n hG 3 rfl dX7_less_4 rfl ?_
  refine aw_sipush (v := 320) hG dX7_less_5 rfl ?_
  refine aw_icmp_ge (t := 47) hG dX7_less_8 rfl (fun hc => ?_) (fun hc => ?_)
  · replace h := it_p hc h
    obtain rfl := Option.some.inj h
    refine aw_sub (L' := []) [] rfl ?_
    exact hK
  · replace h := it_n hc h
    refine aw_aload_n hG 0 rfl dX7_less_11 rfl ?_
    refine aw_iload_n hG 3 rfl dX7_less_12 rfl ?_
    obtain ⟨hi_1, h⟩ := it_o h
    refine al_mA (x := 0) hG hj0 hi_1 dX7_less_13 ?_
    refine aw_aload_n hG 1 rfl dX7_less_14 rfl ?_
    refine aw_iload_n hG 3 rfl dX7_less_15 rfl ?_
    obtain ⟨hi_2, h⟩ := it_o h
    refine al_mA (x := 0) hG hj1 hi_2 dX7_less_16 ?_
    refine aw_isub hG dX7_less_17 ?_
    refine aw_iload_n hG 2 rfl dX7_less_18 rfl ?_
    refine aw_isub hG dX7_less_19 ?_
    refine aw_topi (fun x4_3 hx4_3 => ?_)
    replace h := lt_r hx4_3 h
    refine aw_istore (L' := [(4, .int x4_3), (0, .ref (wad (cxw g) (18 + j0))), (1, .ref (wad (cxw g) (18 + j1))), (2, .int x2), (3, .int x3)]) hG dX7_less_20 (by decide) rfl ?_
    refine aw_iload hG 0 rfl dX7_less_22 ?_
    refine aw_if_ge (t := 31) hG dX7_less_24 rfl (fun hc => ?_) (fun hc => ?_)
    · replace h := it_p hc h
      refine aw_iconst (v := 0) hG dX7_less_31 rfl ?_
      refine aw_sub (L' := [(0, .ref (wad (cxw g) (18 + j0))), (1, .ref (wad (cxw g) (18 + j1))), (3, .int x3), (4, .int x4_3)]) [1, 2, 4, 0] rfl ?_
      exact w_X7_less_J32 (j0 := j0) (j1 := j1) (x3 := x3) (x4 := x4_3) (s0 := 0) (m := m) hj0 hj1 hG h hK
    · replace h := it_n hc h
      refine aw_iconst (v := 1) hG dX7_less_27 rfl ?_
      refine aw_goto (t := 32) hG dX7_less_28 rfl ?_
      refine aw_sub (L' := [(0, .ref (wad (cxw g) (18 + j0))), (1, .ref (wad (cxw g) (18 + j1))), (3, .int x3), (4, .int x4_3)]) [1, 2, 4, 0] rfl ?_
      exact w_X7_less_J32 (j0 := j0) (j1 := j1) (x3 := x3) (x4 := x4_3) (s0 := 1) (m := m) hj0 hj1 hG h hK
noncomputable def f_X7_less (j0 : Nat) (j1 : Nat) (m : MS) : Option MS :=
  Option.bind (Lp (fun a => f_X7_less_L4 j0 j1 a.1 a.2.1 a.2.2) (0, 0, m)) fun e_9 =>
  some e_9
set_option maxRecDepth 20000 in
theorem w_X7_less {g : Cx} {mc ms : Nat} {c : CS} {m : MS} {z : Nat → Int64} {j0 : Nat} {j1 : Nat} {s : MS} (hj0 : j0 < 8) (hj1 : j1 < 8) (hG : Gd g RX7 cX7_less 5 1 mc ms) (h : f_X7_less j0 j1 m = some s) (hK : FinV g cX7_less mc ms (c, s, z)) : AW g 0 [(0, .ref (wad (cxw g) (18 + j0))), (1, .ref (wad (cxw g) (18 + j1)))] [] (c, m, z) 0 0 := by
  unfold f_X7_less at h
  refine aw_iconst (v := 0) hG dX7_less_0 rfl ?_
  refine aw_istore_n (L' := [(2, .int 0), (0, .ref (wad (cxw g) (18 + j0))), (1, .ref (wad (cxw g) (18 + j1)))]) hG dX7_less_1 rfl (by decide) rfl ?_
  refine aw_iconst (v := 0) hG dX7_less_2 rfl ?_
  refine aw_istore_n (L' := [(3, .int 0), (2, .int 0), (0, .ref (wad (cxw g) (18 + j0))), (1, .ref (wad (cxw g) (18 + j1)))]) hG dX7_less_3 rfl (by decide) rfl ?_
  obtain ⟨e_9, he, h⟩ := bd_o h
  refine aw_sub (L' := [(0, .ref (wad (cxw g) (18 + j0))), (1, .ref (wad (cxw g) (18 + j1))), (2, .int 0), (3, .int 0)]) [2, 3, 1, 0] rfl ?_
  refine Lp_w (F := (fun a => f_X7_less_L4 j0 j1 a.1 a.2.1 a.2.2)) (S := (fun a => AW g 4 [(0, .ref (wad (cxw g) (18 + j0))), (1, .ref (wad (cxw g) (18 + j1))), (2, .int a.1), (3, .int a.2.1)] [] (c, a.2.2, z) 0 0)) (E := (fun e => AW g 47 [] [] (c, e, z) 0 0)) (a := (0, 0, m)) he (fun a s h hK => w_X7_less_L4 (j0 := j0) (j1 := j1) (x2 := a.1) (x3 := a.2.1) (m := a.2.2) hj0 hj1 hG h hK) ?_
  show AW g 47 _ _ _ 0 0
  obtain rfl := Option.some.inj h
  exact FinV.z hK dX7_less_47
theorem c_X7_less {c : CS} {m : MS} {z : Nat → Int64} {j0 : Nat} {j1 : Nat} {s : MS} (hj0 : j0 < 8) (hj1 : j1 < 8) (h : f_X7_less j0 j1 m = some s) : Ct yX7_less cX7_less 5 none 1 (fun w => [.ref (wad w (18 + j0)), .ref (wad w (18 + j1))]) (c, m, z) (fun _ => none) (c, s, z) := Ct_ofV (by decide +kernel) (fun _ => Nat.le_of_ble_eq_true rfl) (fun g hG hK => w_X7_less hj0 hj1 hG h hK)
def f_X7_copyRow_L2 (j0 : Nat) (j1 : Nat) (x2 : Int32) (m : MS) : Option ((Int32 × MS) ⊕ (MS)) :=
  if 320 ≤ x2 then
    some (.inr m)
  else
    if vI x2 (mLen j0) then
      if vI x2 (mLen j1) then
        lt (smA m j1 (upd (mA m j1) x2.toNatClampNeg (mA m j0 x2.toNatClampNeg))) fun m_3 =>
        lt (x2 + 1) fun x2_4 =>
        some (.inl (x2_4, m_3))
      else none
    else none
set_option maxRecDepth 20000 in
theorem w_X7_copyRow_L2 {g : Cx} {mc ms : Nat} {c : CS} {m : MS} {z : Nat → Int64} {j0 : Nat} {j1 : Nat} {x2 : Int32} {s : ((Int32 × MS) ⊕ (MS))} (hj0 : j0 < 8) (hj1 : j1 < 8) (hG : Gd g RX7 cX7_copyRow 3 1 mc ms) (h : f_X7_copyRow_L2 j0 j1 x2 m = some s) (hK : Sum.elim (fun a => AW g 2 [(0, .ref (wad (cxw g) (18 + j0))), (1, .ref (wad (cxw g) (18 + j1))), (2, .int a.1)] [] (c, a.2, z) 0 0) (fun e => AW g 21 [] [] (c, e, z) 0 0) s) : AW g 2 [(0, .ref (wad (cxw g) (18 + j0))), (1, .ref (wad (cxw g) (18 + j1))), (2, .int x2)] [] (c, m, z) 0 0 := by
  unfold f_X7_copyRow_L2 at h
  refine aw_iload_n hG 2 rfl dX7_copyRow_2 rfl ?_
  refine aw_sipush (v := 320) hG dX7_copyRow_3 rfl ?_
  refine aw_icmp_ge (t := 21) hG dX7_copyRow_6 rfl (fun hc => ?_) (fun hc => ?_)
  · replace h := it_p hc h
    obtain rfl := Option.some.inj h
    refine aw_sub (L' := []) [] rfl ?_
    exact hK
  · replace h := it_n hc h
    refine aw_aload_n hG 1 rfl dX7_copyRow_9 rfl ?_
    refine aw_iload_n hG 2 rfl dX7_copyRow_10 rfl ?_
    refine aw_aload_n hG 0 rfl dX7_copyRow_11 rfl ?_
    refine aw_iload_n hG 2 rfl dX7_copyRow_12 rfl ?_
    obtain ⟨hi_1, h⟩ := it_o h
    refine al_mA (x := 0) hG hj0 hi_1 dX7_copyRow_13 ?_
    obtain ⟨hi_2, h⟩ := it_o h
    refine as_mA hG hj1 hi_2 dX7_copyRow_14 ?_
    refine aw_stm (fun m_3 hm_3 => ?_)
    replace h := lt_r hm_3 h
    obtain ⟨x2_4, hx2_4⟩ : ∃ y : Int32, y = x2 + 1 := ⟨_, rfl⟩
    replace h := lt_r hx2_4 h
    refine aw_iinc (v := x2_4) (L' := [(2, .int x2_4), (0, .ref (wad (cxw g) (18 + j0))), (1, .ref (wad (cxw g) (18 + j1)))]) hG 2 rfl dX7_copyRow_15 (by rw [hx2_4]; rfl) (by decide) rfl ?_
    refine aw_goto (t := 2) hG dX7_copyRow_18 rfl ?_
    obtain rfl := Option.some.inj h
    refine aw_sub (L' := [(0, .ref (wad (cxw g) (18 + j0))), (1, .ref (wad (cxw g) (18 + j1))), (2, .int x2_4)]) [1, 2, 0] rfl ?_
    exact hK
noncomputable def f_X7_copyRow (j0 : Nat) (j1 : Nat) (m : MS) : Option MS :=
  Option.bind (Lp (fun a => f_X7_copyRow_L2 j0 j1 a.1 a.2) (0, m)) fun e_6 =>
  some e_6
set_option maxRecDepth 20000 in
theorem w_X7_copyRow {g : Cx} {mc ms : Nat} {c : CS} {m : MS} {z : Nat → Int64} {j0 : Nat} {j1 : Nat} {s : MS} (hj0 : j0 < 8) (hj1 : j1 < 8) (hG : Gd g RX7 cX7_copyRow 3 1 mc ms) (h : f_X7_copyRow j0 j1 m = some s) (hK : FinV g cX7_copyRow mc ms (c, s, z)) : AW g 0 [(0, .ref (wad (cxw g) (18 + j0))), (1, .ref (wad (cxw g) (18 + j1)))] [] (c, m, z) 0 0 := by
  unfold f_X7_copyRow at h
  refine aw_iconst (v := 0) hG dX7_copyRow_0 rfl ?_
  refine aw_istore_n (L' := [(2, .int 0), (0, .ref (wad (cxw g) (18 + j0))), (1, .ref (wad (cxw g) (18 + j1)))]) hG dX7_copyRow_1 rfl (by decide) rfl ?_
  obtain ⟨e_6, he, h⟩ := bd_o h
  refine aw_sub (L' := [(0, .ref (wad (cxw g) (18 + j0))), (1, .ref (wad (cxw g) (18 + j1))), (2, .int 0)]) [1, 2, 0] rfl ?_
  refine Lp_w (F := (fun a => f_X7_copyRow_L2 j0 j1 a.1 a.2)) (S := (fun a => AW g 2 [(0, .ref (wad (cxw g) (18 + j0))), (1, .ref (wad (cxw g) (18 + j1))), (2, .int a.1)] [] (c, a.2, z) 0 0)) (E := (fun e => AW g 21 [] [] (c, e, z) 0 0)) (a := (0, m)) he (fun a s h hK => w_X7_copyRow_L2 (j0 := j0) (j1 := j1) (x2 := a.1) (m := a.2) hj0 hj1 hG h hK) ?_
  show AW g 21 _ _ _ 0 0
  obtain rfl := Option.some.inj h
  exact FinV.z hK dX7_copyRow_21
theorem c_X7_copyRow {c : CS} {m : MS} {z : Nat → Int64} {j0 : Nat} {j1 : Nat} {s : MS} (hj0 : j0 < 8) (hj1 : j1 < 8) (h : f_X7_copyRow j0 j1 m = some s) : Ct yX7_copyRow cX7_copyRow 3 none 1 (fun w => [.ref (wad w (18 + j0)), .ref (wad w (18 + j1))]) (c, m, z) (fun _ => none) (c, s, z) := Ct_ofV (by decide +kernel) (fun _ => Nat.le_of_ble_eq_true rfl) (fun g hG hK => w_X7_copyRow hj0 hj1 hG h hK)
noncomputable def f_X7_powerBelow (m : MS) : Option (Int32 × MS) :=
  Option.bind (f_X7_length 3 m) fun v_1 =>
  Option.bind (f_X7_length 4 m) fun v_2 =>
  lt (v_1 - v_2) fun x1_3 =>
  if x1_3 < 0 then
    Option.bind (f_X7_copyRow 3 5 m) fun v_4 =>
    Option.bind (f_X7_left 5 (-x1_3) v_4) fun v_5 =>
    Option.bind (f_X7_compareRows 5 4 v_5) fun v_6 =>
    if 0 ≤ v_6 then
      some (x1_3, v_5)
    else
      some (x1_3 - 1, v_5)
  else
    Option.bind (f_X7_copyRow 4 5 m) fun v_8 =>
    Option.bind (f_X7_left 5 x1_3 v_8) fun v_9 =>
    Option.bind (f_X7_compareRows 3 5 v_9) fun v_10 =>
    if 0 ≤ v_10 then
      some (x1_3, v_9)
    else
      some (x1_3 - 1, v_9)
set_option maxRecDepth 20000 in
theorem w_X7_powerBelow {g : Cx} {mc ms : Nat} {c : CS} {m : MS} {z : Nat → Int64}  {s : (Int32 × MS)}  (hG : Gd g RX7 cX7_powerBelow 2 2 mc ms) (h : f_X7_powerBelow m = some s) (hK : FinI g cX7_powerBelow mc ms s.1 (c, s.2, z)) : AW g 0 [(0, .ref (wad (cxw g) 17))] [] (c, m, z) 0 0 := by
  unfold f_X7_powerBelow at h
  refine aw_aload_n hG 0 rfl dX7_powerBelow_0 rfl ?_
  refine gt_m_a hG l_659 dX7_powerBelow_1 ?_
  obtain ⟨v_1, hv_1, h⟩ := bd_o h
  refine aw_callSi (As := [.ref (wad (cxw g) (18 + 3))]) (rest := []) hG (c_X7_length (j0 := 3) (m := m) (by decide) hv_1) l_660 ws_X7_length rfl rfl rfl (by decide) (Nat.zero_le _) (Nat.zero_le _) (Nat.le_of_ble_eq_true rfl) dX7_powerBelow_4 ?_
  refine aw_aload_n hG 0 rfl dX7_powerBelow_7 rfl ?_
  refine gt_m_b hG l_664 dX7_powerBelow_8 ?_
  obtain ⟨v_2, hv_2, h⟩ := bd_o h
  refine aw_callSi (As := [.ref (wad (cxw g) (18 + 4))]) (rest := [.int v_1]) hG (c_X7_length (j0 := 4) (m := m) (by decide) hv_2) l_660 ws_X7_length rfl rfl rfl (by decide) (Nat.zero_le _) (Nat.zero_le _) (Nat.le_of_ble_eq_true rfl) dX7_powerBelow_11 ?_
  refine aw_isub hG dX7_powerBelow_14 ?_
  refine aw_topi (fun x1_3 hx1_3 => ?_)
  replace h := lt_r hx1_3 h
  refine aw_istore_n (L' := [(1, .int x1_3), (0, .ref (wad (cxw g) 17))]) hG dX7_powerBelow_15 rfl (by decide) rfl ?_
  refine aw_iload_n hG 0 rfl dX7_powerBelow_16 rfl ?_
  refine aw_if_lt (t := 61) hG dX7_powerBelow_17 rfl (fun hc => ?_) (fun hc => ?_)
  · replace h := it_p hc h
    refine aw_aload_n hG 1 rfl dX7_powerBelow_61 rfl ?_
    refine gt_m_a hG l_659 dX7_powerBelow_62 ?_
    refine aw_aload_n hG 1 rfl dX7_powerBelow_65 rfl ?_
    refine gt_m_c hG l_665 dX7_powerBelow_66 ?_
    obtain ⟨v_4, hv_4, h⟩ := bd_o h
    refine aw_callSv (As := [.ref (wad (cxw g) (18 + 3)), .ref (wad (cxw g) (18 + 5))]) (rest := []) hG (c_X7_copyRow (j0 := 3) (j1 := 5) (m := m) (by decide) (by decide) hv_4) l_666 ws_X7_copyRow rfl rfl rfl (by decide) (Nat.zero_le _) (Nat.zero_le _) (Nat.le_of_ble_eq_true rfl) dX7_powerBelow_69 ?_
    refine aw_aload_n hG 1 rfl dX7_powerBelow_72 rfl ?_
    refine gt_m_c hG l_665 dX7_powerBelow_73 ?_
    refine aw_iload_n hG 0 rfl dX7_powerBelow_76 rfl ?_
    refine aw_ineg hG dX7_powerBelow_77 ?_
    obtain ⟨v_5, hv_5, h⟩ := bd_o h
    refine aw_callSv (As := [.ref (wad (cxw g) (18 + 5)), .int (-x1_3)]) (rest := []) hG (c_X7_left (j0 := 5) (x1 := -x1_3) (m := v_4) (by decide) hv_5) l_670 ws_X7_left rfl rfl rfl (by decide) (Nat.zero_le _) (Nat.zero_le _) (Nat.le_of_ble_eq_true rfl) dX7_powerBelow_78 ?_
    refine aw_aload_n hG 1 rfl dX7_powerBelow_81 rfl ?_
    refine gt_m_c hG l_665 dX7_powerBelow_82 ?_
    refine aw_aload_n hG 1 rfl dX7_powerBelow_85 rfl ?_
    refine gt_m_b hG l_664 dX7_powerBelow_86 ?_
    obtain ⟨v_6, hv_6, h⟩ := bd_o h
    refine aw_callSi (As := [.ref (wad (cxw g) (18 + 5)), .ref (wad (cxw g) (18 + 4))]) (rest := []) hG (c_X7_compareRows (j0 := 5) (j1 := 4) (m := v_5) (by decide) (by decide) hv_6) l_674 ws_X7_compareRows rfl rfl rfl (by decide) (Nat.zero_le _) (Nat.zero_le _) (Nat.le_of_ble_eq_true rfl) dX7_powerBelow_89 ?_
    refine aw_if_ge (t := 101) hG dX7_powerBelow_92 rfl (fun hc => ?_) (fun hc => ?_)
    · replace h := it_p hc h
      refine aw_iload_n hG 0 rfl dX7_powerBelow_101 rfl ?_
      obtain rfl := Option.some.inj h
      exact FinI.z hK dX7_powerBelow_102
    · replace h := it_n hc h
      refine aw_iload_n hG 0 rfl dX7_powerBelow_95 rfl ?_
      refine aw_iconst (v := 1) hG dX7_powerBelow_96 rfl ?_
      refine aw_isub hG dX7_powerBelow_97 ?_
      refine aw_goto (t := 102) hG dX7_powerBelow_98 rfl ?_
      obtain rfl := Option.some.inj h
      exact FinI.z hK dX7_powerBelow_102
  · replace h := it_n hc h
    refine aw_aload_n hG 1 rfl dX7_powerBelow_20 rfl ?_
    refine gt_m_b hG l_664 dX7_powerBelow_21 ?_
    refine aw_aload_n hG 1 rfl dX7_powerBelow_24 rfl ?_
    refine gt_m_c hG l_665 dX7_powerBelow_25 ?_
    obtain ⟨v_8, hv_8, h⟩ := bd_o h
    refine aw_callSv (As := [.ref (wad (cxw g) (18 + 4)), .ref (wad (cxw g) (18 + 5))]) (rest := []) hG (c_X7_copyRow (j0 := 4) (j1 := 5) (m := m) (by decide) (by decide) hv_8) l_666 ws_X7_copyRow rfl rfl rfl (by decide) (Nat.zero_le _) (Nat.zero_le _) (Nat.le_of_ble_eq_true rfl) dX7_powerBelow_28 ?_
    refine aw_aload_n hG 1 rfl dX7_powerBelow_31 rfl ?_
    refine gt_m_c hG l_665 dX7_powerBelow_32 ?_
    refine aw_iload_n hG 0 rfl dX7_powerBelow_35 rfl ?_
    obtain ⟨v_9, hv_9, h⟩ := bd_o h
    refine aw_callSv (As := [.ref (wad (cxw g) (18 + 5)), .int x1_3]) (rest := []) hG (c_X7_left (j0 := 5) (x1 := x1_3) (m := v_8) (by decide) hv_9) l_670 ws_X7_left rfl rfl rfl (by decide) (Nat.zero_le _) (Nat.zero_le _) (Nat.le_of_ble_eq_true rfl) dX7_powerBelow_36 ?_
    refine aw_aload_n hG 1 rfl dX7_powerBelow_39 rfl ?_
    refine gt_m_a hG l_659 dX7_powerBelow_40 ?_
    refine aw_aload_n hG 1 rfl dX7_powerBelow_43 rfl ?_
    refine gt_m_c hG l_665 dX7_powerBelow_44 ?_
    obtain ⟨v_10, hv_10, h⟩ := bd_o h
    refine aw_callSi (As := [.ref (wad (cxw g) (18 + 3)), .ref (wad (cxw g) (18 + 5))]) (rest := []) hG (c_X7_compareRows (j0 := 3) (j1 := 5) (m := v_9) (by decide) (by decide) hv_10) l_674 ws_X7_compareRows rfl rfl rfl (by decide) (Nat.zero_le _) (Nat.zero_le _) (Nat.le_of_ble_eq_true rfl) dX7_powerBelow_47 ?_
    refine aw_if_ge (t := 59) hG dX7_powerBelow_50 rfl (fun hc => ?_) (fun hc => ?_)
    · replace h := it_p hc h
      refine aw_iload_n hG 0 rfl dX7_powerBelow_59 rfl ?_
      obtain rfl := Option.some.inj h
      exact FinI.z hK dX7_powerBelow_60
    · replace h := it_n hc h
      refine aw_iload_n hG 0 rfl dX7_powerBelow_53 rfl ?_
      refine aw_iconst (v := 1) hG dX7_powerBelow_54 rfl ?_
      refine aw_isub hG dX7_powerBelow_55 ?_
      refine aw_goto (t := 60) hG dX7_powerBelow_56 rfl ?_
      obtain rfl := Option.some.inj h
      exact FinI.z hK dX7_powerBelow_60
theorem c_X7_powerBelow {c : CS} {m : MS} {z : Nat → Int64}  {s : Int32 × MS}  (h : f_X7_powerBelow m = some s) : Ct yX7_powerBelow cX7_powerBelow 2 (some .int) 2 (fun w => [.ref (wad w 17)]) (c, m, z) (fun _ => some (.int s.1)) (c, s.2, z) := Ct_ofI (by decide +kernel) (fun _ => Nat.le_of_ble_eq_true rfl) (fun g hG hK => w_X7_powerBelow hG h hK)
def f_X7_overflow_J61 (s0 : Int64) (s1 : Int64) (m : MS) : MS :=
  lt (smJ m 2 (s1 ||| s0)) fun m_1 =>
  lt (smI m_1 11 3) fun m_2 =>
  m_2
set_option maxRecDepth 20000 in
theorem w_X7_overflow_J61 {g : Cx} {mc ms : Nat} {c : CS} {m : MS} {z : Nat → Int64} {s0 : Int64} {s1 : Int64} {s : MS}  (hG : Gd g RX7 cX7_overflow 5 3 mc ms) (h : f_X7_overflow_J61 s0 s1 m = s) (hK : FinV g cX7_overflow mc ms (c, s, z)) : AW g 61 [(0, .ref (wad (cxw g) 17))] [.long s0, .long s1, .ref (wad (cxw g) 17)] (c, m, z) 0 0 := by
  unfold f_X7_overflow_J61 at h
  refine aw_lor hG dX7_overflow_61 ?_
  refine pt_m_rounded hG l_678 dX7_overflow_62 ?_
  refine aw_stm (fun m_1 hm_1 => ?_)
  replace h := lt_r hm_1 h
  refine aw_aload_n hG 0 rfl dX7_overflow_65 rfl ?_
  refine aw_iconst (v := 3) hG dX7_overflow_66 rfl ?_
  refine pt_m_noted hG l_679 dX7_overflow_67 ?_
  refine aw_stm (fun m_2 hm_2 => ?_)
  replace h := lt_r hm_2 h
  subst h
  exact FinV.z hK dX7_overflow_70
def f_X7_overflow_J49 (x1 : Int32) (x2 : Int32) (s0 : Int64) (m : MS) : MS :=
  if x2 = 0 then
    f_X7_overflow_J61 0 s0 m
  else
    f_X7_overflow_J61 (f_X7_signBit x1) s0 m
set_option maxRecDepth 20000 in
theorem w_X7_overflow_J49 {g : Cx} {mc ms : Nat} {c : CS} {m : MS} {z : Nat → Int64} {x1 : Int32} {x2 : Int32} {s0 : Int64} {s : MS}  (hG : Gd g RX7 cX7_overflow 5 3 mc ms) (h : f_X7_overflow_J49 x1 x2 s0 m = s) (hK : FinV g cX7_overflow mc ms (c, s, z)) : AW g 49 [(0, .ref (wad (cxw g) 17)), (1, .int x1), (2, .int x2)] [.long s0, .ref (wad (cxw g) 17)] (c, m, z) 0 0 := by
  unfold f_X7_overflow_J49 at h
  refine aw_iload_n hG 2 rfl dX7_overflow_49 rfl ?_
  refine aw_if_eq (t := 60) hG dX7_overflow_50 rfl (fun hc => ?_) (fun hc => ?_)
  · replace h := it_p hc h
    refine aw_lconst (v := 0) hG dX7_overflow_60 rfl ?_
    refine aw_sub (L' := [(0, .ref (wad (cxw g) 17))]) [0] rfl ?_
    exact w_X7_overflow_J61 (s0 := 0) (s1 := s0) (m := m) hG h hK
  · replace h := it_n hc h
    refine aw_iload_n hG 1 rfl dX7_overflow_53 rfl ?_
    refine aw_callSl (As := [.int x1]) (rest := [.long s0, .ref (wad (cxw g) 17)]) hG (c_X7_signBit (x0 := x1) (m := m) ) l_630 ws_X7_signBit rfl rfl rfl (by decide) (Nat.zero_le _) (Nat.zero_le _) (Nat.le_of_ble_eq_true rfl) dX7_overflow_54 ?_
    refine aw_goto (t := 61) hG dX7_overflow_57 rfl ?_
    refine aw_sub (L' := [(0, .ref (wad (cxw g) 17))]) [0] rfl ?_
    exact w_X7_overflow_J61 (s0 := f_X7_signBit x1) (s1 := s0) (m := m) hG h hK
def f_X7_overflow_J28 (x1 : Int32) (x2 : Int32) (s0 : Int32) (m : MS) : MS :=
  if s0 = 0 then
    f_X7_overflow_J49 x1 x2 ((f_X7_infinite x1) - 1) m
  else
    f_X7_overflow_J49 x1 x2 (f_X7_infinite x1) m
set_option maxRecDepth 20000 in
theorem w_X7_overflow_J28 {g : Cx} {mc ms : Nat} {c : CS} {m : MS} {z : Nat → Int64} {x1 : Int32} {x2 : Int32} {s0 : Int32} {s : MS}  (hG : Gd g RX7 cX7_overflow 5 3 mc ms) (h : f_X7_overflow_J28 x1 x2 s0 m = s) (hK : FinV g cX7_overflow mc ms (c, s, z)) : AW g 28 [(0, .ref (wad (cxw g) 17)), (1, .int x1), (2, .int x2)] [.int s0] (c, m, z) 0 0 := by
  unfold f_X7_overflow_J28 at h
  refine aw_istore (L' := [(4, .int s0), (0, .ref (wad (cxw g) 17)), (1, .int x1), (2, .int x2)]) hG dX7_overflow_28 (by decide) rfl ?_
  refine aw_aload_n hG 1 rfl dX7_overflow_30 rfl ?_
  refine aw_iload hG 0 rfl dX7_overflow_31 ?_
  refine aw_if_eq (t := 43) hG dX7_overflow_33 rfl (fun hc => ?_) (fun hc => ?_)
  · replace h := it_p hc h
    refine aw_iload_n hG 2 rfl dX7_overflow_43 rfl ?_
    refine aw_callSl (As := [.int x1]) (rest := [.ref (wad (cxw g) 17)]) hG (c_X7_infinite (x0 := x1) (m := m) ) l_638 ws_X7_infinite rfl rfl rfl (by decide) (Nat.zero_le _) (Nat.zero_le _) (Nat.le_of_ble_eq_true rfl) dX7_overflow_44 ?_
    refine aw_lconst (v := 1) hG dX7_overflow_47 rfl ?_
    refine aw_lsub hG dX7_overflow_48 ?_
    refine aw_sub (L' := [(0, .ref (wad (cxw g) 17)), (1, .int x1), (2, .int x2)]) [1, 2, 3] rfl ?_
    exact w_X7_overflow_J49 (x1 := x1) (x2 := x2) (s0 := (f_X7_infinite x1) - 1) (m := m) hG h hK
  · replace h := it_n hc h
    refine aw_iload_n hG 2 rfl dX7_overflow_36 rfl ?_
    refine aw_callSl (As := [.int x1]) (rest := [.ref (wad (cxw g) 17)]) hG (c_X7_infinite (x0 := x1) (m := m) ) l_638 ws_X7_infinite rfl rfl rfl (by decide) (Nat.zero_le _) (Nat.zero_le _) (Nat.le_of_ble_eq_true rfl) dX7_overflow_37 ?_
    refine aw_goto (t := 49) hG dX7_overflow_40 rfl ?_
    refine aw_sub (L' := [(0, .ref (wad (cxw g) 17)), (1, .int x1), (2, .int x2)]) [1, 2, 3] rfl ?_
    exact w_X7_overflow_J49 (x1 := x1) (x2 := x2) (s0 := f_X7_infinite x1) (m := m) hG h hK
def f_X7_overflow_J14 (x1 : Int32) (x2 : Int32) (x3 : Int32) (m : MS) : MS :=
  if x3 = 4 then
    if x2 = 0 then
      f_X7_overflow_J28 x1 x2 0 m
    else
      f_X7_overflow_J28 x1 x2 1 m
  else
    f_X7_overflow_J28 x1 x2 0 m
set_option maxRecDepth 20000 in
theorem w_X7_overflow_J14 {g : Cx} {mc ms : Nat} {c : CS} {m : MS} {z : Nat → Int64} {x1 : Int32} {x2 : Int32} {x3 : Int32} {s : MS}  (hG : Gd g RX7 cX7_overflow 5 3 mc ms) (h : f_X7_overflow_J14 x1 x2 x3 m = s) (hK : FinV g cX7_overflow mc ms (c, s, z)) : AW g 14 [(0, .ref (wad (cxw g) 17)), (1, .int x1), (2, .int x2), (3, .int x3)] [] (c, m, z) 0 0 := by
  unfold f_X7_overflow_J14 at h
  refine aw_iload_n hG 3 rfl dX7_overflow_14 rfl ?_
  refine aw_iconst (v := 4) hG dX7_overflow_15 rfl ?_
  refine aw_icmp_ne (t := 27) hG dX7_overflow_16 rfl (fun hc => ?_) (fun hc => ?_)
  · replace h := it_n hc h
    refine aw_iconst (v := 0) hG dX7_overflow_27 rfl ?_
    refine aw_sub (L' := [(0, .ref (wad (cxw g) 17)), (1, .int x1), (2, .int x2)]) [0, 1, 2] rfl ?_
    exact w_X7_overflow_J28 (x1 := x1) (x2 := x2) (s0 := 0) (m := m) hG h hK
  · replace h := it_p hc h
    refine aw_iload_n hG 2 rfl dX7_overflow_19 rfl ?_
    refine aw_if_eq (t := 27) hG dX7_overflow_20 rfl (fun hc => ?_) (fun hc => ?_)
    · replace h := it_p hc h
      refine aw_iconst (v := 0) hG dX7_overflow_27 rfl ?_
      refine aw_sub (L' := [(0, .ref (wad (cxw g) 17)), (1, .int x1), (2, .int x2)]) [0, 1, 2] rfl ?_
      exact w_X7_overflow_J28 (x1 := x1) (x2 := x2) (s0 := 0) (m := m) hG h hK
    · replace h := it_n hc h
      refine aw_iconst (v := 1) hG dX7_overflow_23 rfl ?_
      refine aw_goto (t := 28) hG dX7_overflow_24 rfl ?_
      refine aw_sub (L' := [(0, .ref (wad (cxw g) 17)), (1, .int x1), (2, .int x2)]) [0, 1, 2] rfl ?_
      exact w_X7_overflow_J28 (x1 := x1) (x2 := x2) (s0 := 1) (m := m) hG h hK
def f_X7_overflow (x1 : Int32) (x2 : Int32) (x3 : Int32) (m : MS) : MS :=
  if x3 < 2 then
    f_X7_overflow_J28 x1 x2 1 m
  else
    if x3 = 3 then
      if x2 = 0 then
        f_X7_overflow_J28 x1 x2 1 m
      else
        f_X7_overflow_J14 x1 x2 x3 m
    else
      f_X7_overflow_J14 x1 x2 x3 m
set_option maxRecDepth 20000 in
theorem w_X7_overflow {g : Cx} {mc ms : Nat} {c : CS} {m : MS} {z : Nat → Int64} {x1 : Int32} {x2 : Int32} {x3 : Int32} {s : MS}  (hG : Gd g RX7 cX7_overflow 5 3 mc ms) (h : f_X7_overflow x1 x2 x3 m = s) (hK : FinV g cX7_overflow mc ms (c, s, z)) : AW g 0 [(0, .ref (wad (cxw g) 17)), (1, .int x1), (2, .int x2), (3, .int x3)] [] (c, m, z) 0 0 := by
  unfold f_X7_overflow at h
  refine aw_iload_n hG 3 rfl dX7_overflow_0 rfl ?_
  refine aw_iconst (v := 2) hG dX7_overflow_1 rfl ?_
  refine aw_icmp_lt (t := 23) hG dX7_overflow_2 rfl (fun hc => ?_) (fun hc => ?_)
  · replace h := it_p hc h
    refine aw_iconst (v := 1) hG dX7_overflow_23 rfl ?_
    refine aw_goto (t := 28) hG dX7_overflow_24 rfl ?_
    refine aw_sub (L' := [(0, .ref (wad (cxw g) 17)), (1, .int x1), (2, .int x2)]) [0, 1, 2] rfl ?_
    exact w_X7_overflow_J28 (x1 := x1) (x2 := x2) (s0 := 1) (m := m) hG h hK
  · replace h := it_n hc h
    refine aw_iload_n hG 3 rfl dX7_overflow_5 rfl ?_
    refine aw_iconst (v := 3) hG dX7_overflow_6 rfl ?_
    refine aw_icmp_ne (t := 14) hG dX7_overflow_7 rfl (fun hc => ?_) (fun hc => ?_)
    · replace h := it_n hc h
      exact w_X7_overflow_J14 (x1 := x1) (x2 := x2) (x3 := x3) (m := m) hG h hK
    · replace h := it_p hc h
      refine aw_iload_n hG 2 rfl dX7_overflow_10 rfl ?_
      refine aw_if_eq (t := 23) hG dX7_overflow_11 rfl (fun hc => ?_) (fun hc => ?_)
      · replace h := it_p hc h
        refine aw_iconst (v := 1) hG dX7_overflow_23 rfl ?_
        refine aw_goto (t := 28) hG dX7_overflow_24 rfl ?_
        refine aw_sub (L' := [(0, .ref (wad (cxw g) 17)), (1, .int x1), (2, .int x2)]) [0, 1, 2] rfl ?_
        exact w_X7_overflow_J28 (x1 := x1) (x2 := x2) (s0 := 1) (m := m) hG h hK
      · replace h := it_n hc h
        exact w_X7_overflow_J14 (x1 := x1) (x2 := x2) (x3 := x3) (m := m) hG h hK
theorem c_X7_overflow {c : CS} {m : MS} {z : Nat → Int64} {x1 : Int32} {x2 : Int32} {x3 : Int32} {s : MS}  (h : f_X7_overflow x1 x2 x3 m = s) : Ct yX7_overflow cX7_overflow 5 none 3 (fun w => [.ref (wad w 17), .int x1, .int x2, .int x3]) (c, m, z) (fun _ => none) (c, s, z) := Ct_ofV (by decide +kernel) (fun _ => Nat.le_of_ble_eq_true rfl) (fun g hG hK => w_X7_overflow hG h hK)
noncomputable def f_X7_round_J144 (x1 : Int32) (x2 : Int32) (x3 : Int32) (x5 : Int32) (x6 : Int32) (x7 : Int64) (x9 : Int32) (m : MS) : Option ((Int64 × Int32 × MS) ⊕ ((Int64 × MS))) :=
  if x9 ≤ 0 then
    lt (x9 + (-1)) fun x9_7 =>
    some (.inl (x7, x9_7, m))
  else
    Option.bind (f_X7_halve 4 m) fun v_8 =>
    lt (x9 + (-1)) fun x9_9 =>
    some (.inl (x7, x9_9, v_8))
set_option maxRecDepth 20000 in
theorem w_X7_round_J144 {g : Cx} {mc ms : Nat} {c : CS} {m : MS} {z : Nat → Int64} {x1 : Int32} {x2 : Int32} {x3 : Int32} {x5 : Int32} {x6 : Int32} {x7 : Int64} {x9 : Int32} {s : ((Int64 × Int32 × MS) ⊕ ((Int64 × MS)))}  (hG : Gd g RX7 cX7_round 14 4 mc ms) (h : f_X7_round_J144 x1 x2 x3 x5 x6 x7 x9 m = some s) (hK : Sum.elim (fun a => AW g 102 [(0, .ref (wad (cxw g) 17)), (1, .int x1), (2, .int x2), (3, .int x3), (5, .int x5), (6, .int x6), (7, .long a.1), (9, .int a.2.1)] [] (c, a.2.2, z) 0 0) (fun e => AW g 162 [(0, .ref (wad (cxw g) 17)), (1, .int x1), (2, .int x2), (3, .int x3), (5, .int x5), (6, .int x6), (7, .long e.1)] [] (c, e.2, z) 0 0) s) : AW g 144 [(0, .ref (wad (cxw g) 17)), (1, .int x1), (2, .int x2), (3, .int x3), (5, .int x5), (6, .int x6), (7, .long x7), (9, .int x9)] [] (c, m, z) 0 0 := by
  unfold f_X7_round_J144 at h
  refine aw_iload hG 7 rfl dX7_round_144 ?_
  refine aw_if_le (t := 156) hG dX7_round_146 rfl (fun hc => ?_) (fun hc => ?_)
  · replace h := it_p hc h
    obtain ⟨x9_7, hx9_7⟩ : ∃ y : Int32, y = x9 + (-1) := ⟨_, rfl⟩
    replace h := lt_r hx9_7 h
    refine aw_iinc (v := x9_7) (L' := [(9, .int x9_7), (0, .ref (wad (cxw g) 17)), (1, .int x1), (2, .int x2), (3, .int x3), (5, .int x5), (6, .int x6), (7, .long x7)]) hG 7 rfl dX7_round_156 (by rw [hx9_7]; rfl) (by decide) rfl ?_
    refine aw_goto (t := 102) hG dX7_round_159 rfl ?_
    obtain rfl := Option.some.inj h
    refine aw_sub (L' := [(0, .ref (wad (cxw g) 17)), (1, .int x1), (2, .int x2), (3, .int x3), (5, .int x5), (6, .int x6), (7, .long x7), (9, .int x9_7)]) [1, 2, 3, 4, 5, 6, 7, 0] rfl ?_
    exact hK
  · replace h := it_n hc h
    refine aw_aload_n hG 0 rfl dX7_round_149 rfl ?_
    refine gt_m_b hG l_664 dX7_round_150 ?_
    obtain ⟨v_8, hv_8, h⟩ := bd_o h
    refine aw_callSv (As := [.ref (wad (cxw g) (18 + 4))]) (rest := []) hG (c_X7_halve (j0 := 4) (m := m) (by decide) hv_8) l_685 ws_X7_halve rfl rfl rfl (by decide) (Nat.zero_le _) (Nat.zero_le _) (Nat.le_of_ble_eq_true rfl) dX7_round_153 ?_
    obtain ⟨x9_9, hx9_9⟩ : ∃ y : Int32, y = x9 + (-1) := ⟨_, rfl⟩
    replace h := lt_r hx9_9 h
    refine aw_iinc (v := x9_9) (L' := [(9, .int x9_9), (0, .ref (wad (cxw g) 17)), (1, .int x1), (2, .int x2), (3, .int x3), (5, .int x5), (6, .int x6), (7, .long x7)]) hG 7 rfl dX7_round_156 (by rw [hx9_9]; rfl) (by decide) rfl ?_
    refine aw_goto (t := 102) hG dX7_round_159 rfl ?_
    obtain rfl := Option.some.inj h
    refine aw_sub (L' := [(0, .ref (wad (cxw g) 17)), (1, .int x1), (2, .int x2), (3, .int x3), (5, .int x5), (6, .int x6), (7, .long x7), (9, .int x9_9)]) [1, 2, 3, 4, 5, 6, 7, 0] rfl ?_
    exact hK
noncomputable def f_X7_round_L102 (x1 : Int32) (x2 : Int32) (x3 : Int32) (x5 : Int32) (x6 : Int32) (x7 : Int64) (x9 : Int32) (m : MS) : Option ((Int64 × Int32 × MS) ⊕ ((Int64 × MS))) :=
  if x9 < 0 then
    some (.inr (x7, m))
  else
    lt (jshl x7 1) fun x7_5 =>
    Option.bind (f_X7_compareRows 3 4 m) fun v_6 =>
    if v_6 < 0 then
      f_X7_round_J144 x1 x2 x3 x5 x6 x7_5 x9 m
    else
      Option.bind (f_X7_less 3 4 m) fun v_11 =>
      lt (x7_5 ||| 1) fun x7_12 =>
      f_X7_round_J144 x1 x2 x3 x5 x6 x7_12 x9 v_11
set_option maxRecDepth 20000 in
theorem w_X7_round_L102 {g : Cx} {mc ms : Nat} {c : CS} {m : MS} {z : Nat → Int64} {x1 : Int32} {x2 : Int32} {x3 : Int32} {x5 : Int32} {x6 : Int32} {x7 : Int64} {x9 : Int32} {s : ((Int64 × Int32 × MS) ⊕ ((Int64 × MS)))}  (hG : Gd g RX7 cX7_round 14 4 mc ms) (h : f_X7_round_L102 x1 x2 x3 x5 x6 x7 x9 m = some s) (hK : Sum.elim (fun a => AW g 102 [(0, .ref (wad (cxw g) 17)), (1, .int x1), (2, .int x2), (3, .int x3), (5, .int x5), (6, .int x6), (7, .long a.1), (9, .int a.2.1)] [] (c, a.2.2, z) 0 0) (fun e => AW g 162 [(0, .ref (wad (cxw g) 17)), (1, .int x1), (2, .int x2), (3, .int x3), (5, .int x5), (6, .int x6), (7, .long e.1)] [] (c, e.2, z) 0 0) s) : AW g 102 [(0, .ref (wad (cxw g) 17)), (1, .int x1), (2, .int x2), (3, .int x3), (5, .int x5), (6, .int x6), (7, .long x7), (9, .int x9)] [] (c, m, z) 0 0 := by
  unfold f_X7_round_L102 at h
  refine aw_iload hG 7 rfl dX7_round_102 ?_
  refine aw_if_lt (t := 162) hG dX7_round_104 rfl (fun hc => ?_) (fun hc => ?_)
  · replace h := it_p hc h
    obtain rfl := Option.some.inj h
    refine aw_sub (L' := [(0, .ref (wad (cxw g) 17)), (1, .int x1), (2, .int x2), (3, .int x3), (5, .int x5), (6, .int x6), (7, .long x7)]) [0, 1, 2, 3, 4, 5, 6] rfl ?_
    exact hK
  · replace h := it_n hc h
    refine aw_lload hG 6 rfl dX7_round_107 ?_
    refine aw_iconst (v := 1) hG dX7_round_109 rfl ?_
    refine aw_lshlJ hG dX7_round_110 ?_
    refine aw_topl (fun x7_5 hx7_5 => ?_)
    replace h := lt_r hx7_5 h
    refine aw_lstore (L' := [(7, .long x7_5), (0, .ref (wad (cxw g) 17)), (1, .int x1), (2, .int x2), (3, .int x3), (5, .int x5), (6, .int x6), (9, .int x9)]) hG dX7_round_111 (by decide) rfl ?_
    refine aw_aload_n hG 1 rfl dX7_round_113 rfl ?_
    refine gt_m_a hG l_659 dX7_round_114 ?_
    refine aw_aload_n hG 1 rfl dX7_round_117 rfl ?_
    refine gt_m_b hG l_664 dX7_round_118 ?_
    obtain ⟨v_6, hv_6, h⟩ := bd_o h
    refine aw_callSi (As := [.ref (wad (cxw g) (18 + 3)), .ref (wad (cxw g) (18 + 4))]) (rest := []) hG (c_X7_compareRows (j0 := 3) (j1 := 4) (m := m) (by decide) (by decide) hv_6) l_674 ws_X7_compareRows rfl rfl rfl (by decide) (Nat.zero_le _) (Nat.zero_le _) (Nat.le_of_ble_eq_true rfl) dX7_round_121 ?_
    refine aw_if_lt (t := 144) hG dX7_round_124 rfl (fun hc => ?_) (fun hc => ?_)
    · replace h := it_p hc h
      refine aw_sub (L' := [(0, .ref (wad (cxw g) 17)), (1, .int x1), (2, .int x2), (3, .int x3), (5, .int x5), (6, .int x6), (7, .long x7_5), (9, .int x9)]) [1, 2, 3, 4, 5, 6, 0, 7] rfl ?_
      exact w_X7_round_J144 (x1 := x1) (x2 := x2) (x3 := x3) (x5 := x5) (x6 := x6) (x7 := x7_5) (x9 := x9) (m := m) hG h hK
    · replace h := it_n hc h
      refine aw_aload_n hG 1 rfl dX7_round_127 rfl ?_
      refine gt_m_a hG l_659 dX7_round_128 ?_
      refine aw_aload_n hG 1 rfl dX7_round_131 rfl ?_
      refine gt_m_b hG l_664 dX7_round_132 ?_
      obtain ⟨v_11, hv_11, h⟩ := bd_o h
      refine aw_callSv (As := [.ref (wad (cxw g) (18 + 3)), .ref (wad (cxw g) (18 + 4))]) (rest := []) hG (c_X7_less (j0 := 3) (j1 := 4) (m := m) (by decide) (by decide) hv_11) l_689 ws_X7_less rfl rfl rfl (by decide) (Nat.zero_le _) (Nat.zero_le _) (Nat.le_of_ble_eq_true rfl) dX7_round_135 ?_
      refine aw_lload hG 0 rfl dX7_round_138 ?_
      refine aw_lconst (v := 1) hG dX7_round_140 rfl ?_
      refine aw_lor hG dX7_round_141 ?_
      refine aw_topl (fun x7_12 hx7_12 => ?_)
      replace h := lt_r hx7_12 h
      refine aw_lstore (L' := [(7, .long x7_12), (0, .ref (wad (cxw g) 17)), (1, .int x1), (2, .int x2), (3, .int x3), (5, .int x5), (6, .int x6), (9, .int x9)]) hG dX7_round_142 (by decide) rfl ?_
      refine aw_sub (L' := [(0, .ref (wad (cxw g) 17)), (1, .int x1), (2, .int x2), (3, .int x3), (5, .int x5), (6, .int x6), (7, .long x7_12), (9, .int x9)]) [1, 2, 3, 4, 5, 6, 0, 7] rfl ?_
      exact w_X7_round_J144 (x1 := x1) (x2 := x2) (x3 := x3) (x5 := x5) (x6 := x6) (x7 := x7_12) (x9 := x9) (m := v_11) hG h hK
def f_X7_round_J334 (x5 : Int32) (x9 : Int32) (x12 : Int64) (s0 : Int64) (s1 : Int64) (m : MS) : Option MS :=
  lt (smJ m 2 (s1 ||| s0)) fun m_20 =>
  if x9 = 0 then
    lt (smI m_20 11 0) fun m_21 =>
    some m_21
  else
    if (jshl 1 (x5 - 1)) ≤ x12 then
      lt (smI m_20 11 1) fun m_22 =>
      some m_22
    else
      lt (smI m_20 11 5) fun m_23 =>
      some m_23
set_option maxRecDepth 20000 in
theorem w_X7_round_J334 {g : Cx} {mc ms : Nat} {c : CS} {m : MS} {z : Nat → Int64} {x5 : Int32} {x9 : Int32} {x12 : Int64} {s0 : Int64} {s1 : Int64} {s : MS}  (hG : Gd g RX7 cX7_round 14 4 mc ms) (h : f_X7_round_J334 x5 x9 x12 s0 s1 m = some s) (hK : FinV g cX7_round mc ms (c, s, z)) : AW g 334 [(0, .ref (wad (cxw g) 17)), (5, .int x5), (9, .int x9), (12, .long x12)] [.long s0, .long s1, .ref (wad (cxw g) 17)] (c, m, z) 0 0 := by
  unfold f_X7_round_J334 at h
  refine aw_lor hG dX7_round_334 ?_
  refine pt_m_rounded hG l_678 dX7_round_335 ?_
  refine aw_stm (fun m_20 hm_20 => ?_)
  replace h := lt_r hm_20 h
  refine aw_aload_n hG 0 rfl dX7_round_338 rfl ?_
  refine aw_iload hG 2 rfl dX7_round_339 ?_
  refine aw_if_eq (t := 364) hG dX7_round_341 rfl (fun hc => ?_) (fun hc => ?_)
  · replace h := it_p hc h
    refine aw_iconst (v := 0) hG dX7_round_364 rfl ?_
    refine pt_m_noted hG l_679 dX7_round_365 ?_
    refine aw_stm (fun m_21 hm_21 => ?_)
    replace h := lt_r hm_21 h
    obtain rfl := Option.some.inj h
    exact FinV.z hK dX7_round_368
  · replace h := it_n hc h
    refine aw_lload hG 3 rfl dX7_round_344 ?_
    refine aw_lconst (v := 1) hG dX7_round_346 rfl ?_
    refine aw_iload hG 1 rfl dX7_round_347 ?_
    refine aw_iconst (v := 1) hG dX7_round_349 rfl ?_
    refine aw_isub hG dX7_round_350 ?_
    refine aw_lshlJ hG dX7_round_351 ?_
    refine aw_lc_ge (t := 360) hG dX7_round_352 rfl dX7_round_353 rfl rfl (fun hc => ?_) (fun hc => ?_)
    · replace h := it_p hc h
      refine aw_iconst (v := 1) hG dX7_round_360 rfl ?_
      refine aw_goto (t := 365) hG dX7_round_361 rfl ?_
      refine pt_m_noted hG l_679 dX7_round_365 ?_
      refine aw_stm (fun m_22 hm_22 => ?_)
      replace h := lt_r hm_22 h
      obtain rfl := Option.some.inj h
      exact FinV.z hK dX7_round_368
    · replace h := it_n hc h
      refine aw_iconst (v := 5) hG dX7_round_356 rfl ?_
      refine aw_goto (t := 365) hG dX7_round_357 rfl ?_
      refine pt_m_noted hG l_679 dX7_round_365 ?_
      refine aw_stm (fun m_23 hm_23 => ?_)
      replace h := lt_r hm_23 h
      obtain rfl := Option.some.inj h
      exact FinV.z hK dX7_round_368
def f_X7_round_J298 (x1 : Int32) (x2 : Int32) (x3 : Int32) (x5 : Int32) (x9 : Int32) (s0 : Int64) (s1 : Int64) (m : MS) : Option MS :=
  lt (s1 + s0) fun x12_19 =>
  if x12_19 < (f_X7_infinite x1) then
    if x2 = 0 then
      f_X7_round_J334 x5 x9 x12_19 0 x12_19 m
    else
      f_X7_round_J334 x5 x9 x12_19 (f_X7_signBit x1) x12_19 m
  else
    lt (f_X7_overflow x1 x2 x3 m) fun v_27 =>
    some v_27
set_option maxRecDepth 20000 in
theorem w_X7_round_J298 {g : Cx} {mc ms : Nat} {c : CS} {m : MS} {z : Nat → Int64} {x1 : Int32} {x2 : Int32} {x3 : Int32} {x5 : Int32} {x9 : Int32} {s0 : Int64} {s1 : Int64} {s : MS}  (hG : Gd g RX7 cX7_round 14 4 mc ms) (h : f_X7_round_J298 x1 x2 x3 x5 x9 s0 s1 m = some s) (hK : FinV g cX7_round mc ms (c, s, z)) : AW g 298 [(0, .ref (wad (cxw g) 17)), (1, .int x1), (2, .int x2), (3, .int x3), (5, .int x5), (9, .int x9)] [.long s0, .long s1] (c, m, z) 0 0 := by
  unfold f_X7_round_J298 at h
  refine aw_ladd hG dX7_round_298 ?_
  refine aw_topl (fun x12_19 hx12_19 => ?_)
  replace h := lt_r hx12_19 h
  refine aw_lstore (L' := [(12, .long x12_19), (0, .ref (wad (cxw g) 17)), (1, .int x1), (2, .int x2), (3, .int x3), (5, .int x5), (9, .int x9)]) hG dX7_round_299 (by decide) rfl ?_
  refine aw_lload hG 0 rfl dX7_round_301 ?_
  refine aw_iload_n hG 2 rfl dX7_round_303 rfl ?_
  refine aw_callSl (As := [.int x1]) (rest := [.long x12_19]) hG (c_X7_infinite (x0 := x1) (m := m) ) l_638 ws_X7_infinite rfl rfl rfl (by decide) (Nat.zero_le _) (Nat.zero_le _) (Nat.le_of_ble_eq_true rfl) dX7_round_304 ?_
  refine aw_lc_lt (t := 319) hG dX7_round_307 rfl dX7_round_308 rfl rfl (fun hc => ?_) (fun hc => ?_)
  · replace h := it_p hc h
    refine aw_aload_n hG 1 rfl dX7_round_319 rfl ?_
    refine aw_lload hG 0 rfl dX7_round_320 ?_
    refine aw_iload_n hG 3 rfl dX7_round_322 rfl ?_
    refine aw_if_eq (t := 333) hG dX7_round_323 rfl (fun hc => ?_) (fun hc => ?_)
    · replace h := it_p hc h
      refine aw_lconst (v := 0) hG dX7_round_333 rfl ?_
      refine aw_sub (L' := [(0, .ref (wad (cxw g) 17)), (5, .int x5), (9, .int x9), (12, .long x12_19)]) [1, 5, 6, 0] rfl ?_
      exact w_X7_round_J334 (x5 := x5) (x9 := x9) (x12 := x12_19) (s0 := 0) (s1 := x12_19) (m := m) hG h hK
    · replace h := it_n hc h
      refine aw_iload_n hG 2 rfl dX7_round_326 rfl ?_
      refine aw_callSl (As := [.int x1]) (rest := [.long x12_19, .ref (wad (cxw g) 17)]) hG (c_X7_signBit (x0 := x1) (m := m) ) l_630 ws_X7_signBit rfl rfl rfl (by decide) (Nat.zero_le _) (Nat.zero_le _) (Nat.le_of_ble_eq_true rfl) dX7_round_327 ?_
      refine aw_goto (t := 334) hG dX7_round_330 rfl ?_
      refine aw_sub (L' := [(0, .ref (wad (cxw g) 17)), (5, .int x5), (9, .int x9), (12, .long x12_19)]) [1, 5, 6, 0] rfl ?_
      exact w_X7_round_J334 (x5 := x5) (x9 := x9) (x12 := x12_19) (s0 := f_X7_signBit x1) (s1 := x12_19) (m := m) hG h hK
  · replace h := it_n hc h
    refine aw_aload_n hG 1 rfl dX7_round_311 rfl ?_
    refine aw_iload_n hG 2 rfl dX7_round_312 rfl ?_
    refine aw_iload_n hG 3 rfl dX7_round_313 rfl ?_
    refine aw_iload_n hG 4 rfl dX7_round_314 rfl ?_
    obtain ⟨v_27, hv_27⟩ : ∃ y, y = f_X7_overflow x1 x2 x3 m := ⟨_, rfl⟩
    replace h := lt_r hv_27 h
    refine aw_callVv (As := [.int x1, .int x2, .int x3]) (rest := []) hG (c_X7_overflow (x1 := x1) (x2 := x2) (x3 := x3) (m := m)  hv_27.symm) l_693 wv_X7_overflow (rv_X7 hG) rfl rfl rfl (by decide) (Nat.zero_le _) (Nat.zero_le _) (Nat.le_of_ble_eq_true rfl) dX7_round_315 ?_
    obtain rfl := Option.some.inj h
    exact FinV.z hK dX7_round_318
def f_X7_round_J270 (x1 : Int32) (x2 : Int32) (x3 : Int32) (x5 : Int32) (x6 : Int32) (x7 : Int64) (x9 : Int32) (s0 : Int32) (m : MS) : Option MS :=
  if s0 = 0 then
    f_X7_round_J298 x1 x2 x3 x5 x9 0 ((jshl ((x6 - (f_X7_least x1)).toInt64) (x5 - 1)) + x7) m
  else
    f_X7_round_J298 x1 x2 x3 x5 x9 1 ((jshl ((x6 - (f_X7_least x1)).toInt64) (x5 - 1)) + x7) m
set_option maxRecDepth 20000 in
theorem w_X7_round_J270 {g : Cx} {mc ms : Nat} {c : CS} {m : MS} {z : Nat → Int64} {x1 : Int32} {x2 : Int32} {x3 : Int32} {x5 : Int32} {x6 : Int32} {x7 : Int64} {x9 : Int32} {s0 : Int32} {s : MS}  (hG : Gd g RX7 cX7_round 14 4 mc ms) (h : f_X7_round_J270 x1 x2 x3 x5 x6 x7 x9 s0 m = some s) (hK : FinV g cX7_round mc ms (c, s, z)) : AW g 270 [(0, .ref (wad (cxw g) 17)), (1, .int x1), (2, .int x2), (3, .int x3), (5, .int x5), (6, .int x6), (7, .long x7), (9, .int x9)] [.int s0] (c, m, z) 0 0 := by
  unfold f_X7_round_J270 at h
  refine aw_istore (L' := [(11, .int s0), (0, .ref (wad (cxw g) 17)), (1, .int x1), (2, .int x2), (3, .int x3), (5, .int x5), (6, .int x6), (7, .long x7), (9, .int x9)]) hG dX7_round_270 (by decide) rfl ?_
  refine aw_iload hG 6 rfl dX7_round_272 ?_
  refine aw_iload_n hG 2 rfl dX7_round_274 rfl ?_
  refine aw_callSi (As := [.int x1]) (rest := [.int x6]) hG (c_X7_least (x0 := x1) (m := m) ) l_643 ws_X7_least rfl rfl rfl (by decide) (Nat.zero_le _) (Nat.zero_le _) (Nat.le_of_ble_eq_true rfl) dX7_round_275 ?_
  refine aw_isub hG dX7_round_278 ?_
  refine aw_i2l hG dX7_round_279 ?_
  refine aw_iload hG 5 rfl dX7_round_280 ?_
  refine aw_iconst (v := 1) hG dX7_round_282 rfl ?_
  refine aw_isub hG dX7_round_283 ?_
  refine aw_lshlJ hG dX7_round_284 ?_
  refine aw_lload hG 7 rfl dX7_round_285 ?_
  refine aw_ladd hG dX7_round_287 ?_
  refine aw_iload hG 0 rfl dX7_round_288 ?_
  refine aw_if_eq (t := 297) hG dX7_round_290 rfl (fun hc => ?_) (fun hc => ?_)
  · replace h := it_p hc h
    refine aw_lconst (v := 0) hG dX7_round_297 rfl ?_
    refine aw_sub (L' := [(0, .ref (wad (cxw g) 17)), (1, .int x1), (2, .int x2), (3, .int x3), (5, .int x5), (9, .int x9)]) [1, 2, 3, 4, 5, 8] rfl ?_
    exact w_X7_round_J298 (x1 := x1) (x2 := x2) (x3 := x3) (x5 := x5) (x9 := x9) (s0 := 0) (s1 := (jshl ((x6 - (f_X7_least x1)).toInt64) (x5 - 1)) + x7) (m := m) hG h hK
  · replace h := it_n hc h
    refine aw_lconst (v := 1) hG dX7_round_293 rfl ?_
    refine aw_goto (t := 298) hG dX7_round_294 rfl ?_
    refine aw_sub (L' := [(0, .ref (wad (cxw g) 17)), (1, .int x1), (2, .int x2), (3, .int x3), (5, .int x5), (9, .int x9)]) [1, 2, 3, 4, 5, 8] rfl ?_
    exact w_X7_round_J298 (x1 := x1) (x2 := x2) (x3 := x3) (x5 := x5) (x9 := x9) (s0 := 1) (s1 := (jshl ((x6 - (f_X7_least x1)).toInt64) (x5 - 1)) + x7) (m := m) hG h hK
noncomputable def f_X7_round_J177 (x1 : Int32) (x2 : Int32) (x3 : Int32) (x5 : Int32) (x6 : Int32) (x7 : Int64) (s0 : Int32) (m : MS) : Option MS :=
  Option.bind (f_X7_left 3 1 m) fun v_17 =>
  Option.bind (f_X7_compareRows 3 4 v_17) fun v_18 =>
  if s0 = 0 then
    f_X7_round_J270 x1 x2 x3 x5 x6 x7 s0 0 v_17
  else
    if x3 = 0 then
      if 0 < v_18 then
        f_X7_round_J270 x1 x2 x3 x5 x6 x7 s0 1 v_17
      else
        if v_18 = 0 then
          if (x7 &&& 1) = 1 then
            f_X7_round_J270 x1 x2 x3 x5 x6 x7 s0 1 v_17
          else
            f_X7_round_J270 x1 x2 x3 x5 x6 x7 s0 0 v_17
        else
          f_X7_round_J270 x1 x2 x3 x5 x6 x7 s0 0 v_17
    else
      if x3 = 1 then
        if v_18 < 0 then
          f_X7_round_J270 x1 x2 x3 x5 x6 x7 s0 0 v_17
        else
          f_X7_round_J270 x1 x2 x3 x5 x6 x7 s0 1 v_17
      else
        if x3 = 3 then
          if x2 = 0 then
            f_X7_round_J270 x1 x2 x3 x5 x6 x7 s0 1 v_17
          else
            f_X7_round_J270 x1 x2 x3 x5 x6 x7 s0 0 v_17
        else
          if x3 = 4 then
            if x2 = 0 then
              f_X7_round_J270 x1 x2 x3 x5 x6 x7 s0 0 v_17
            else
              f_X7_round_J270 x1 x2 x3 x5 x6 x7 s0 1 v_17
          else
            f_X7_round_J270 x1 x2 x3 x5 x6 x7 s0 0 v_17
set_option maxRecDepth 20000 in
theorem w_X7_round_J177 {g : Cx} {mc ms : Nat} {c : CS} {m : MS} {z : Nat → Int64} {x1 : Int32} {x2 : Int32} {x3 : Int32} {x5 : Int32} {x6 : Int32} {x7 : Int64} {s0 : Int32} {s : MS}  (hG : Gd g RX7 cX7_round 14 4 mc ms) (h : f_X7_round_J177 x1 x2 x3 x5 x6 x7 s0 m = some s) (hK : FinV g cX7_round mc ms (c, s, z)) : AW g 177 [(0, .ref (wad (cxw g) 17)), (1, .int x1), (2, .int x2), (3, .int x3), (5, .int x5), (6, .int x6), (7, .long x7)] [.int s0] (c, m, z) 0 0 := by
  unfold f_X7_round_J177 at h
  refine aw_istore (L' := [(9, .int s0), (0, .ref (wad (cxw g) 17)), (1, .int x1), (2, .int x2), (3, .int x3), (5, .int x5), (6, .int x6), (7, .long x7)]) hG dX7_round_177 (by decide) rfl ?_
  refine aw_aload_n hG 1 rfl dX7_round_179 rfl ?_
  refine gt_m_a hG l_659 dX7_round_180 ?_
  refine aw_iconst (v := 1) hG dX7_round_183 rfl ?_
  obtain ⟨v_17, hv_17, h⟩ := bd_o h
  refine aw_callSv (As := [.ref (wad (cxw g) (18 + 3)), .int 1]) (rest := []) hG (c_X7_left (j0 := 3) (x1 := 1) (m := m) (by decide) hv_17) l_670 ws_X7_left rfl rfl rfl (by decide) (Nat.zero_le _) (Nat.zero_le _) (Nat.le_of_ble_eq_true rfl) dX7_round_184 ?_
  refine aw_aload_n hG 1 rfl dX7_round_187 rfl ?_
  refine gt_m_a hG l_659 dX7_round_188 ?_
  refine aw_aload_n hG 1 rfl dX7_round_191 rfl ?_
  refine gt_m_b hG l_664 dX7_round_192 ?_
  obtain ⟨v_18, hv_18, h⟩ := bd_o h
  refine aw_callSi (As := [.ref (wad (cxw g) (18 + 3)), .ref (wad (cxw g) (18 + 4))]) (rest := []) hG (c_X7_compareRows (j0 := 3) (j1 := 4) (m := v_17) (by decide) (by decide) hv_18) l_674 ws_X7_compareRows rfl rfl rfl (by decide) (Nat.zero_le _) (Nat.zero_le _) (Nat.le_of_ble_eq_true rfl) dX7_round_195 ?_
  refine aw_istore (L' := [(10, .int v_18), (9, .int s0), (0, .ref (wad (cxw g) 17)), (1, .int x1), (2, .int x2), (3, .int x3), (5, .int x5), (6, .int x6), (7, .long x7)]) hG dX7_round_198 (by decide) rfl ?_
  refine aw_iload hG 1 rfl dX7_round_200 ?_
  refine aw_if_eq (t := 269) hG dX7_round_202 rfl (fun hc => ?_) (fun hc => ?_)
  · replace h := it_p hc h
    refine aw_iconst (v := 0) hG dX7_round_269 rfl ?_
    refine aw_sub (L' := [(0, .ref (wad (cxw g) 17)), (1, .int x1), (2, .int x2), (3, .int x3), (5, .int x5), (6, .int x6), (7, .long x7), (9, .int s0)]) [2, 3, 4, 5, 6, 7, 8, 1] rfl ?_
    exact w_X7_round_J270 (x1 := x1) (x2 := x2) (x3 := x3) (x5 := x5) (x6 := x6) (x7 := x7) (x9 := s0) (s0 := 0) (m := v_17) hG h hK
  · replace h := it_n hc h
    refine aw_iload_n hG 5 rfl dX7_round_205 rfl ?_
    refine aw_if_ne (t := 231) hG dX7_round_206 rfl (fun hc => ?_) (fun hc => ?_)
    · replace h := it_n hc h
      refine aw_iload_n hG 5 rfl dX7_round_231 rfl ?_
      refine aw_iconst (v := 1) hG dX7_round_232 rfl ?_
      refine aw_icmp_ne (t := 244) hG dX7_round_233 rfl (fun hc => ?_) (fun hc => ?_)
      · replace h := it_n hc h
        refine aw_iload_n hG 5 rfl dX7_round_244 rfl ?_
        refine aw_iconst (v := 3) hG dX7_round_245 rfl ?_
        refine aw_icmp_ne (t := 256) hG dX7_round_246 rfl (fun hc => ?_) (fun hc => ?_)
        · replace h := it_n hc h
          refine aw_iload_n hG 5 rfl dX7_round_256 rfl ?_
          refine aw_iconst (v := 4) hG dX7_round_257 rfl ?_
          refine aw_icmp_ne (t := 269) hG dX7_round_258 rfl (fun hc => ?_) (fun hc => ?_)
          · replace h := it_n hc h
            refine aw_iconst (v := 0) hG dX7_round_269 rfl ?_
            refine aw_sub (L' := [(0, .ref (wad (cxw g) 17)), (1, .int x1), (2, .int x2), (3, .int x3), (5, .int x5), (6, .int x6), (7, .long x7), (9, .int s0)]) [2, 3, 4, 5, 6, 7, 8, 1] rfl ?_
            exact w_X7_round_J270 (x1 := x1) (x2 := x2) (x3 := x3) (x5 := x5) (x6 := x6) (x7 := x7) (x9 := s0) (s0 := 0) (m := v_17) hG h hK
          · replace h := it_p hc h
            refine aw_iload_n hG 4 rfl dX7_round_261 rfl ?_
            refine aw_if_eq (t := 269) hG dX7_round_262 rfl (fun hc => ?_) (fun hc => ?_)
            · replace h := it_p hc h
              refine aw_iconst (v := 0) hG dX7_round_269 rfl ?_
              refine aw_sub (L' := [(0, .ref (wad (cxw g) 17)), (1, .int x1), (2, .int x2), (3, .int x3), (5, .int x5), (6, .int x6), (7, .long x7), (9, .int s0)]) [2, 3, 4, 5, 6, 7, 8, 1] rfl ?_
              exact w_X7_round_J270 (x1 := x1) (x2 := x2) (x3 := x3) (x5 := x5) (x6 := x6) (x7 := x7) (x9 := s0) (s0 := 0) (m := v_17) hG h hK
            · replace h := it_n hc h
              refine aw_iconst (v := 1) hG dX7_round_265 rfl ?_
              refine aw_goto (t := 270) hG dX7_round_266 rfl ?_
              refine aw_sub (L' := [(0, .ref (wad (cxw g) 17)), (1, .int x1), (2, .int x2), (3, .int x3), (5, .int x5), (6, .int x6), (7, .long x7), (9, .int s0)]) [2, 3, 4, 5, 6, 7, 8, 1] rfl ?_
              exact w_X7_round_J270 (x1 := x1) (x2 := x2) (x3 := x3) (x5 := x5) (x6 := x6) (x7 := x7) (x9 := s0) (s0 := 1) (m := v_17) hG h hK
        · replace h := it_p hc h
          refine aw_iload_n hG 4 rfl dX7_round_249 rfl ?_
          refine aw_if_ne (t := 269) hG dX7_round_250 rfl (fun hc => ?_) (fun hc => ?_)
          · replace h := it_n hc h
            refine aw_iconst (v := 0) hG dX7_round_269 rfl ?_
            refine aw_sub (L' := [(0, .ref (wad (cxw g) 17)), (1, .int x1), (2, .int x2), (3, .int x3), (5, .int x5), (6, .int x6), (7, .long x7), (9, .int s0)]) [2, 3, 4, 5, 6, 7, 8, 1] rfl ?_
            exact w_X7_round_J270 (x1 := x1) (x2 := x2) (x3 := x3) (x5 := x5) (x6 := x6) (x7 := x7) (x9 := s0) (s0 := 0) (m := v_17) hG h hK
          · replace h := it_p hc h
            refine aw_goto (t := 265) hG dX7_round_253 rfl ?_
            refine aw_iconst (v := 1) hG dX7_round_265 rfl ?_
            refine aw_goto (t := 270) hG dX7_round_266 rfl ?_
            refine aw_sub (L' := [(0, .ref (wad (cxw g) 17)), (1, .int x1), (2, .int x2), (3, .int x3), (5, .int x5), (6, .int x6), (7, .long x7), (9, .int s0)]) [2, 3, 4, 5, 6, 7, 8, 1] rfl ?_
            exact w_X7_round_J270 (x1 := x1) (x2 := x2) (x3 := x3) (x5 := x5) (x6 := x6) (x7 := x7) (x9 := s0) (s0 := 1) (m := v_17) hG h hK
      · replace h := it_p hc h
        refine aw_iload hG 0 rfl dX7_round_236 ?_
        refine aw_if_lt (t := 269) hG dX7_round_238 rfl (fun hc => ?_) (fun hc => ?_)
        · replace h := it_p hc h
          refine aw_iconst (v := 0) hG dX7_round_269 rfl ?_
          refine aw_sub (L' := [(0, .ref (wad (cxw g) 17)), (1, .int x1), (2, .int x2), (3, .int x3), (5, .int x5), (6, .int x6), (7, .long x7), (9, .int s0)]) [2, 3, 4, 5, 6, 7, 8, 1] rfl ?_
          exact w_X7_round_J270 (x1 := x1) (x2 := x2) (x3 := x3) (x5 := x5) (x6 := x6) (x7 := x7) (x9 := s0) (s0 := 0) (m := v_17) hG h hK
        · replace h := it_n hc h
          refine aw_goto (t := 265) hG dX7_round_241 rfl ?_
          refine aw_iconst (v := 1) hG dX7_round_265 rfl ?_
          refine aw_goto (t := 270) hG dX7_round_266 rfl ?_
          refine aw_sub (L' := [(0, .ref (wad (cxw g) 17)), (1, .int x1), (2, .int x2), (3, .int x3), (5, .int x5), (6, .int x6), (7, .long x7), (9, .int s0)]) [2, 3, 4, 5, 6, 7, 8, 1] rfl ?_
          exact w_X7_round_J270 (x1 := x1) (x2 := x2) (x3 := x3) (x5 := x5) (x6 := x6) (x7 := x7) (x9 := s0) (s0 := 1) (m := v_17) hG h hK
    · replace h := it_p hc h
      refine aw_iload hG 0 rfl dX7_round_209 ?_
      refine aw_if_gt (t := 265) hG dX7_round_211 rfl (fun hc => ?_) (fun hc => ?_)
      · replace h := it_p hc h
        refine aw_iconst (v := 1) hG dX7_round_265 rfl ?_
        refine aw_goto (t := 270) hG dX7_round_266 rfl ?_
        refine aw_sub (L' := [(0, .ref (wad (cxw g) 17)), (1, .int x1), (2, .int x2), (3, .int x3), (5, .int x5), (6, .int x6), (7, .long x7), (9, .int s0)]) [2, 3, 4, 5, 6, 7, 8, 1] rfl ?_
        exact w_X7_round_J270 (x1 := x1) (x2 := x2) (x3 := x3) (x5 := x5) (x6 := x6) (x7 := x7) (x9 := s0) (s0 := 1) (m := v_17) hG h hK
      · replace h := it_n hc h
        refine aw_iload hG 0 rfl dX7_round_214 ?_
        refine aw_if_ne (t := 269) hG dX7_round_216 rfl (fun hc => ?_) (fun hc => ?_)
        · replace h := it_n hc h
          refine aw_iconst (v := 0) hG dX7_round_269 rfl ?_
          refine aw_sub (L' := [(0, .ref (wad (cxw g) 17)), (1, .int x1), (2, .int x2), (3, .int x3), (5, .int x5), (6, .int x6), (7, .long x7), (9, .int s0)]) [2, 3, 4, 5, 6, 7, 8, 1] rfl ?_
          exact w_X7_round_J270 (x1 := x1) (x2 := x2) (x3 := x3) (x5 := x5) (x6 := x6) (x7 := x7) (x9 := s0) (s0 := 0) (m := v_17) hG h hK
        · replace h := it_p hc h
          refine aw_lload hG 8 rfl dX7_round_219 ?_
          refine aw_lconst (v := 1) hG dX7_round_221 rfl ?_
          refine aw_land hG dX7_round_222 ?_
          refine aw_lconst (v := 1) hG dX7_round_223 rfl ?_
          refine aw_lc_ne (t := 269) hG dX7_round_224 rfl dX7_round_225 rfl rfl (fun hc => ?_) (fun hc => ?_)
          · replace h := it_n hc h
            refine aw_iconst (v := 0) hG dX7_round_269 rfl ?_
            refine aw_sub (L' := [(0, .ref (wad (cxw g) 17)), (1, .int x1), (2, .int x2), (3, .int x3), (5, .int x5), (6, .int x6), (7, .long x7), (9, .int s0)]) [2, 3, 4, 5, 6, 7, 8, 1] rfl ?_
            exact w_X7_round_J270 (x1 := x1) (x2 := x2) (x3 := x3) (x5 := x5) (x6 := x6) (x7 := x7) (x9 := s0) (s0 := 0) (m := v_17) hG h hK
          · replace h := it_p hc h
            refine aw_goto (t := 265) hG dX7_round_228 rfl ?_
            refine aw_iconst (v := 1) hG dX7_round_265 rfl ?_
            refine aw_goto (t := 270) hG dX7_round_266 rfl ?_
            refine aw_sub (L' := [(0, .ref (wad (cxw g) 17)), (1, .int x1), (2, .int x2), (3, .int x3), (5, .int x5), (6, .int x6), (7, .long x7), (9, .int s0)]) [2, 3, 4, 5, 6, 7, 8, 1] rfl ?_
            exact w_X7_round_J270 (x1 := x1) (x2 := x2) (x3 := x3) (x5 := x5) (x6 := x6) (x7 := x7) (x9 := s0) (s0 := 1) (m := v_17) hG h hK
noncomputable def f_X7_round_J86 (x1 : Int32) (x2 : Int32) (x3 : Int32) (x5 : Int32) (x6 : Int32) (m : MS) : Option MS :=
  Option.bind (f_X7_left 4 x5 m) fun v_4 =>
  Option.bind (Lp (fun a => f_X7_round_L102 x1 x2 x3 x5 x6 a.1 a.2.1 a.2.2) (0, x5, v_4)) fun e_15 =>
  Option.bind (f_X7_length 3 e_15.2) fun v_16 =>
  if v_16 ≤ 0 then
    f_X7_round_J177 x1 x2 x3 x5 x6 e_15.1 0 e_15.2
  else
    f_X7_round_J177 x1 x2 x3 x5 x6 e_15.1 1 e_15.2
set_option maxRecDepth 20000 in
theorem w_X7_round_J86 {g : Cx} {mc ms : Nat} {c : CS} {m : MS} {z : Nat → Int64} {x1 : Int32} {x2 : Int32} {x3 : Int32} {x5 : Int32} {x6 : Int32} {s : MS}  (hG : Gd g RX7 cX7_round 14 4 mc ms) (h : f_X7_round_J86 x1 x2 x3 x5 x6 m = some s) (hK : FinV g cX7_round mc ms (c, s, z)) : AW g 86 [(0, .ref (wad (cxw g) 17)), (1, .int x1), (2, .int x2), (3, .int x3), (5, .int x5), (6, .int x6)] [] (c, m, z) 0 0 := by
  unfold f_X7_round_J86 at h
  refine aw_aload_n hG 0 rfl dX7_round_86 rfl ?_
  refine gt_m_b hG l_664 dX7_round_87 ?_
  refine aw_iload hG 4 rfl dX7_round_90 ?_
  obtain ⟨v_4, hv_4, h⟩ := bd_o h
  refine aw_callSv (As := [.ref (wad (cxw g) (18 + 4)), .int x5]) (rest := []) hG (c_X7_left (j0 := 4) (x1 := x5) (m := m) (by decide) hv_4) l_670 ws_X7_left rfl rfl rfl (by decide) (Nat.zero_le _) (Nat.zero_le _) (Nat.le_of_ble_eq_true rfl) dX7_round_92 ?_
  refine aw_lconst (v := 0) hG dX7_round_95 rfl ?_
  refine aw_lstore (L' := [(7, .long 0), (0, .ref (wad (cxw g) 17)), (1, .int x1), (2, .int x2), (3, .int x3), (5, .int x5), (6, .int x6)]) hG dX7_round_96 (by decide) rfl ?_
  refine aw_iload hG 5 rfl dX7_round_98 ?_
  refine aw_istore (L' := [(9, .int x5), (7, .long 0), (0, .ref (wad (cxw g) 17)), (1, .int x1), (2, .int x2), (3, .int x3), (5, .int x5), (6, .int x6)]) hG dX7_round_100 (by decide) rfl ?_
  obtain ⟨e_15, he, h⟩ := bd_o h
  refine aw_sub (L' := [(0, .ref (wad (cxw g) 17)), (1, .int x1), (2, .int x2), (3, .int x3), (5, .int x5), (6, .int x6), (7, .long 0), (9, .int x5)]) [2, 3, 4, 5, 6, 7, 1, 0] rfl ?_
  refine Lp_w (F := (fun a => f_X7_round_L102 x1 x2 x3 x5 x6 a.1 a.2.1 a.2.2)) (S := (fun a => AW g 102 [(0, .ref (wad (cxw g) 17)), (1, .int x1), (2, .int x2), (3, .int x3), (5, .int x5), (6, .int x6), (7, .long a.1), (9, .int a.2.1)] [] (c, a.2.2, z) 0 0)) (E := (fun e => AW g 162 [(0, .ref (wad (cxw g) 17)), (1, .int x1), (2, .int x2), (3, .int x3), (5, .int x5), (6, .int x6), (7, .long e.1)] [] (c, e.2, z) 0 0)) (a := (0, x5, v_4)) he (fun a s h hK => w_X7_round_L102 (x1 := x1) (x2 := x2) (x3 := x3) (x5 := x5) (x6 := x6) (x7 := a.1) (x9 := a.2.1) (m := a.2.2) hG h hK) ?_
  show AW g 162 _ _ _ 0 0
  refine aw_aload_n hG 0 rfl dX7_round_162 rfl ?_
  refine gt_m_a hG l_659 dX7_round_163 ?_
  obtain ⟨v_16, hv_16, h⟩ := bd_o h
  refine aw_callSi (As := [.ref (wad (cxw g) (18 + 3))]) (rest := []) hG (c_X7_length (j0 := 3) (m := e_15.2) (by decide) hv_16) l_660 ws_X7_length rfl rfl rfl (by decide) (Nat.zero_le _) (Nat.zero_le _) (Nat.le_of_ble_eq_true rfl) dX7_round_166 ?_
  refine aw_if_le (t := 176) hG dX7_round_169 rfl (fun hc => ?_) (fun hc => ?_)
  · replace h := it_p hc h
    refine aw_iconst (v := 0) hG dX7_round_176 rfl ?_
    exact w_X7_round_J177 (x1 := x1) (x2 := x2) (x3 := x3) (x5 := x5) (x6 := x6) (x7 := e_15.1) (s0 := 0) (m := e_15.2) hG h hK
  · replace h := it_n hc h
    refine aw_iconst (v := 1) hG dX7_round_172 rfl ?_
    refine aw_goto (t := 177) hG dX7_round_173 rfl ?_
    exact w_X7_round_J177 (x1 := x1) (x2 := x2) (x3 := x3) (x5 := x5) (x6 := x6) (x7 := e_15.1) (s0 := 1) (m := e_15.2) hG h hK
noncomputable def f_X7_round_J57 (x1 : Int32) (x2 : Int32) (x3 : Int32) (x5 : Int32) (s0 : Int32) (m : MS) : Option MS :=
  if 0 ≤ s0 then
    Option.bind (f_X7_left 4 s0 m) fun v_3 =>
    f_X7_round_J86 x1 x2 x3 x5 s0 v_3
  else
    Option.bind (f_X7_left 3 (-s0) m) fun v_42 =>
    f_X7_round_J86 x1 x2 x3 x5 s0 v_42
set_option maxRecDepth 20000 in
theorem w_X7_round_J57 {g : Cx} {mc ms : Nat} {c : CS} {m : MS} {z : Nat → Int64} {x1 : Int32} {x2 : Int32} {x3 : Int32} {x5 : Int32} {s0 : Int32} {s : MS}  (hG : Gd g RX7 cX7_round 14 4 mc ms) (h : f_X7_round_J57 x1 x2 x3 x5 s0 m = some s) (hK : FinV g cX7_round mc ms (c, s, z)) : AW g 57 [(0, .ref (wad (cxw g) 17)), (1, .int x1), (2, .int x2), (3, .int x3), (5, .int x5)] [.int s0] (c, m, z) 0 0 := by
  unfold f_X7_round_J57 at h
  refine aw_istore (L' := [(6, .int s0), (0, .ref (wad (cxw g) 17)), (1, .int x1), (2, .int x2), (3, .int x3), (5, .int x5)]) hG dX7_round_57 (by decide) rfl ?_
  refine aw_iload hG 0 rfl dX7_round_59 ?_
  refine aw_if_ge (t := 77) hG dX7_round_61 rfl (fun hc => ?_) (fun hc => ?_)
  · replace h := it_p hc h
    refine aw_aload_n hG 1 rfl dX7_round_77 rfl ?_
    refine gt_m_b hG l_664 dX7_round_78 ?_
    refine aw_iload hG 0 rfl dX7_round_81 ?_
    obtain ⟨v_3, hv_3, h⟩ := bd_o h
    refine aw_callSv (As := [.ref (wad (cxw g) (18 + 4)), .int s0]) (rest := []) hG (c_X7_left (j0 := 4) (x1 := s0) (m := m) (by decide) hv_3) l_670 ws_X7_left rfl rfl rfl (by decide) (Nat.zero_le _) (Nat.zero_le _) (Nat.le_of_ble_eq_true rfl) dX7_round_83 ?_
    refine aw_sub (L' := [(0, .ref (wad (cxw g) 17)), (1, .int x1), (2, .int x2), (3, .int x3), (5, .int x5), (6, .int s0)]) [1, 2, 3, 4, 5, 0] rfl ?_
    exact w_X7_round_J86 (x1 := x1) (x2 := x2) (x3 := x3) (x5 := x5) (x6 := s0) (m := v_3) hG h hK
  · replace h := it_n hc h
    refine aw_aload_n hG 1 rfl dX7_round_64 rfl ?_
    refine gt_m_a hG l_659 dX7_round_65 ?_
    refine aw_iload hG 0 rfl dX7_round_68 ?_
    refine aw_ineg hG dX7_round_70 ?_
    obtain ⟨v_42, hv_42, h⟩ := bd_o h
    refine aw_callSv (As := [.ref (wad (cxw g) (18 + 3)), .int (-s0)]) (rest := []) hG (c_X7_left (j0 := 3) (x1 := -s0) (m := m) (by decide) hv_42) l_670 ws_X7_left rfl rfl rfl (by decide) (Nat.zero_le _) (Nat.zero_le _) (Nat.le_of_ble_eq_true rfl) dX7_round_71 ?_
    refine aw_goto (t := 86) hG dX7_round_74 rfl ?_
    refine aw_sub (L' := [(0, .ref (wad (cxw g) 17)), (1, .int x1), (2, .int x2), (3, .int x3), (5, .int x5), (6, .int s0)]) [1, 2, 3, 4, 5, 0] rfl ?_
    exact w_X7_round_J86 (x1 := x1) (x2 := x2) (x3 := x3) (x5 := x5) (x6 := s0) (m := v_42) hG h hK
noncomputable def f_X7_round (x1 : Int32) (x2 : Int32) (x3 : Int32) (m : MS) : Option MS :=
  Option.bind (f_X7_powerBelow m) fun v_1 =>
  if v_1.1 ≤ (f_X7_greatest x1) then
    lt (f_X7_precision x1) fun x5_2 =>
    if ((v_1.1 - x5_2) + 1) ≤ (f_X7_least x1) then
      f_X7_round_J57 x1 x2 x3 x5_2 (f_X7_least x1) v_1.2
    else
      f_X7_round_J57 x1 x2 x3 x5_2 ((v_1.1 - x5_2) + 1) v_1.2
  else
    lt (f_X7_overflow x1 x2 x3 v_1.2) fun v_45 =>
    some v_45
set_option maxRecDepth 20000 in
theorem w_X7_round {g : Cx} {mc ms : Nat} {c : CS} {m : MS} {z : Nat → Int64} {x1 : Int32} {x2 : Int32} {x3 : Int32} {s : MS}  (hG : Gd g RX7 cX7_round 14 4 mc ms) (h : f_X7_round x1 x2 x3 m = some s) (hK : FinV g cX7_round mc ms (c, s, z)) : AW g 0 [(0, .ref (wad (cxw g) 17)), (1, .int x1), (2, .int x2), (3, .int x3)] [] (c, m, z) 0 0 := by
  unfold f_X7_round at h
  refine aw_aload_n hG 0 rfl dX7_round_0 rfl ?_
  obtain ⟨v_1, hv_1, h⟩ := bd_o h
  refine aw_callVi (As := []) (rest := []) hG (c_X7_powerBelow (m := m)  hv_1) l_680 wv_X7_powerBelow (rv_X7 hG) rfl rfl rfl (by decide) (Nat.zero_le _) (Nat.zero_le _) (Nat.le_of_ble_eq_true rfl) dX7_round_1 ?_
  refine aw_istore (L' := [(4, .int v_1.1), (0, .ref (wad (cxw g) 17)), (1, .int x1), (2, .int x2), (3, .int x3)]) hG dX7_round_4 (by decide) rfl ?_
  refine aw_iload hG 0 rfl dX7_round_6 ?_
  refine aw_iload_n hG 2 rfl dX7_round_8 rfl ?_
  refine aw_callSi (As := [.int x1]) (rest := [.int v_1.1]) hG (c_X7_greatest (x0 := x1) (m := v_1.2) ) l_612 ws_X7_greatest rfl rfl rfl (by decide) (Nat.zero_le _) (Nat.zero_le _) (Nat.le_of_ble_eq_true rfl) dX7_round_9 ?_
  refine aw_icmp_le (t := 23) hG dX7_round_12 rfl (fun hc => ?_) (fun hc => ?_)
  · replace h := it_p hc h
    refine aw_iload_n hG 2 rfl dX7_round_23 rfl ?_
    refine aw_callSi (As := [.int x1]) (rest := []) hG (c_X7_precision (x0 := x1) (m := v_1.2) ) l_616 ws_X7_precision rfl rfl rfl (by decide) (Nat.zero_le _) (Nat.zero_le _) (Nat.le_of_ble_eq_true rfl) dX7_round_24 ?_
    refine aw_topi (fun x5_2 hx5_2 => ?_)
    replace h := lt_r hx5_2 h
    refine aw_istore (L' := [(5, .int x5_2), (4, .int v_1.1), (0, .ref (wad (cxw g) 17)), (1, .int x1), (2, .int x2), (3, .int x3)]) hG dX7_round_27 (by decide) rfl ?_
    refine aw_iload hG 1 rfl dX7_round_29 ?_
    refine aw_iload hG 0 rfl dX7_round_31 ?_
    refine aw_isub hG dX7_round_33 ?_
    refine aw_iconst (v := 1) hG dX7_round_34 rfl ?_
    refine aw_iadd hG dX7_round_35 ?_
    refine aw_iload_n hG 3 rfl dX7_round_36 rfl ?_
    refine aw_callSi (As := [.int x1]) (rest := [.int ((v_1.1 - x5_2) + 1)]) hG (c_X7_least (x0 := x1) (m := v_1.2) ) l_643 ws_X7_least rfl rfl rfl (by decide) (Nat.zero_le _) (Nat.zero_le _) (Nat.le_of_ble_eq_true rfl) dX7_round_37 ?_
    refine aw_icmp_le (t := 53) hG dX7_round_40 rfl (fun hc => ?_) (fun hc => ?_)
    · replace h := it_p hc h
      refine aw_iload_n hG 3 rfl dX7_round_53 rfl ?_
      refine aw_callSi (As := [.int x1]) (rest := []) hG (c_X7_least (x0 := x1) (m := v_1.2) ) l_643 ws_X7_least rfl rfl rfl (by decide) (Nat.zero_le _) (Nat.zero_le _) (Nat.le_of_ble_eq_true rfl) dX7_round_54 ?_
      refine aw_sub (L' := [(0, .ref (wad (cxw g) 17)), (1, .int x1), (2, .int x2), (3, .int x3), (5, .int x5_2)]) [2, 3, 4, 5, 0] rfl ?_
      exact w_X7_round_J57 (x1 := x1) (x2 := x2) (x3 := x3) (x5 := x5_2) (s0 := f_X7_least x1) (m := v_1.2) hG h hK
    · replace h := it_n hc h
      refine aw_iload hG 1 rfl dX7_round_43 ?_
      refine aw_iload hG 0 rfl dX7_round_45 ?_
      refine aw_isub hG dX7_round_47 ?_
      refine aw_iconst (v := 1) hG dX7_round_48 rfl ?_
      refine aw_iadd hG dX7_round_49 ?_
      refine aw_goto (t := 57) hG dX7_round_50 rfl ?_
      refine aw_sub (L' := [(0, .ref (wad (cxw g) 17)), (1, .int x1), (2, .int x2), (3, .int x3), (5, .int x5_2)]) [2, 3, 4, 5, 0] rfl ?_
      exact w_X7_round_J57 (x1 := x1) (x2 := x2) (x3 := x3) (x5 := x5_2) (s0 := (v_1.1 - x5_2) + 1) (m := v_1.2) hG h hK
  · replace h := it_n hc h
    refine aw_aload_n hG 1 rfl dX7_round_15 rfl ?_
    refine aw_iload_n hG 2 rfl dX7_round_16 rfl ?_
    refine aw_iload_n hG 3 rfl dX7_round_17 rfl ?_
    refine aw_iload_n hG 4 rfl dX7_round_18 rfl ?_
    obtain ⟨v_45, hv_45⟩ : ∃ y, y = f_X7_overflow x1 x2 x3 v_1.2 := ⟨_, rfl⟩
    replace h := lt_r hv_45 h
    refine aw_callVv (As := [.int x1, .int x2, .int x3]) (rest := []) hG (c_X7_overflow (x1 := x1) (x2 := x2) (x3 := x3) (m := v_1.2)  hv_45.symm) l_693 wv_X7_overflow (rv_X7 hG) rfl rfl rfl (by decide) (Nat.zero_le _) (Nat.zero_le _) (Nat.le_of_ble_eq_true rfl) dX7_round_19 ?_
    obtain rfl := Option.some.inj h
    exact FinV.z hK dX7_round_22
theorem c_X7_round {c : CS} {m : MS} {z : Nat → Int64} {x1 : Int32} {x2 : Int32} {x3 : Int32} {s : MS}  (h : f_X7_round x1 x2 x3 m = some s) : Ct yX7_round cX7_round 14 none 4 (fun w => [.ref (wad w 17), .int x1, .int x2, .int x3]) (c, m, z) (fun _ => none) (c, s, z) := Ct_ofV (by decide +kernel) (fun _ => Nat.le_of_ble_eq_true rfl) (fun g hG hK => w_X7_round hG h hK)
def f_X7_roundDecimal_L3 (x1 : Int32) (x2 : Int32) (x3 : Int32) (x4 : Int32) (x5 : Int32) (m : MS) : Option ((Int32) ⊕ (Int32)) :=
  if (mI m 10) ≤ x5 then
    some (.inr x5)
  else
    if vI x5 (mLen 7) then
      if (mA m 7 x5.toNatClampNeg) = 0 then
        lt (x5 + 1) fun x5_2 =>
        some (.inl x5_2)
      else
        some (.inr x5)
    else none
set_option maxRecDepth 20000 in
theorem w_X7_roundDecimal_L3 {g : Cx} {mc ms : Nat} {c : CS} {m : MS} {z : Nat → Int64} {x1 : Int32} {x2 : Int32} {x3 : Int32} {x4 : Int32} {x5 : Int32} {s : ((Int32) ⊕ (Int32))}  (hG : Gd g RX7 cX7_roundDecimal 8 5 mc ms) (h : f_X7_roundDecimal_L3 x1 x2 x3 x4 x5 m = some s) (hK : Sum.elim (fun a => AW g 3 [(0, .ref (wad (cxw g) 17)), (1, .int x1), (2, .int x2), (3, .int x3), (4, .int x4), (5, .int a)] [] (c, m, z) 0 0) (fun e => AW g 28 [(0, .ref (wad (cxw g) 17)), (1, .int x1), (2, .int x2), (3, .int x3), (4, .int x4), (5, .int e)] [] (c, m, z) 0 0) s) : AW g 3 [(0, .ref (wad (cxw g) 17)), (1, .int x1), (2, .int x2), (3, .int x3), (4, .int x4), (5, .int x5)] [] (c, m, z) 0 0 := by
  unfold f_X7_roundDecimal_L3 at h
  refine aw_iload hG 5 rfl dX7_roundDecimal_3 ?_
  refine aw_aload_n hG 0 rfl dX7_roundDecimal_5 rfl ?_
  refine gt_m_rowMany hG l_698 dX7_roundDecimal_6 ?_
  refine aw_icmp_ge (t := 28) hG dX7_roundDecimal_9 rfl (fun hc => ?_) (fun hc => ?_)
  · replace h := it_p hc h
    obtain rfl := Option.some.inj h
    exact hK
  · replace h := it_n hc h
    refine aw_aload_n hG 0 rfl dX7_roundDecimal_12 rfl ?_
    refine gt_m_row hG l_699 dX7_roundDecimal_13 ?_
    refine aw_iload hG 5 rfl dX7_roundDecimal_16 ?_
    obtain ⟨hi_1, h⟩ := it_o h
    refine al_mA (x := 0) hG (by decide) hi_1 dX7_roundDecimal_18 ?_
    refine aw_if_ne (t := 28) hG dX7_roundDecimal_19 rfl (fun hc => ?_) (fun hc => ?_)
    · replace h := it_n hc h
      obtain rfl := Option.some.inj h
      exact hK
    · replace h := it_p hc h
      obtain ⟨x5_2, hx5_2⟩ : ∃ y : Int32, y = x5 + 1 := ⟨_, rfl⟩
      replace h := lt_r hx5_2 h
      refine aw_iinc (v := x5_2) (L' := [(5, .int x5_2), (0, .ref (wad (cxw g) 17)), (1, .int x1), (2, .int x2), (3, .int x3), (4, .int x4)]) hG 5 rfl dX7_roundDecimal_22 (by rw [hx5_2]; rfl) (by decide) rfl ?_
      refine aw_goto (t := 3) hG dX7_roundDecimal_25 rfl ?_
      obtain rfl := Option.some.inj h
      refine aw_sub (L' := [(0, .ref (wad (cxw g) 17)), (1, .int x1), (2, .int x2), (3, .int x3), (4, .int x4), (5, .int x5_2)]) [1, 2, 3, 4, 5, 0] rfl ?_
      exact hK
noncomputable def f_X7_roundDecimal_L145 (x1 : Int32) (x2 : Int32) (x3 : Int32) (x4 : Int32) (x7 : Int32) (m : MS) : Option ((Int32 × MS) ⊕ (MS)) :=
  if (mI m 10) ≤ x7 then
    some (.inr m)
  else
    if vI x7 (mLen 7) then
      Option.bind (f_X7_grow 3 10 (mA m 7 x7.toNatClampNeg) m) fun v_10 =>
      lt (x7 + 1) fun x7_11 =>
      some (.inl (x7_11, v_10))
    else none
set_option maxRecDepth 20000 in
theorem w_X7_roundDecimal_L145 {g : Cx} {mc ms : Nat} {c : CS} {m : MS} {z : Nat → Int64} {x1 : Int32} {x2 : Int32} {x3 : Int32} {x4 : Int32} {x7 : Int32} {s : ((Int32 × MS) ⊕ (MS))}  (hG : Gd g RX7 cX7_roundDecimal 8 5 mc ms) (h : f_X7_roundDecimal_L145 x1 x2 x3 x4 x7 m = some s) (hK : Sum.elim (fun a => AW g 145 [(0, .ref (wad (cxw g) 17)), (1, .int x1), (2, .int x2), (3, .int x3), (4, .int x4), (7, .int a.1)] [] (c, a.2, z) 0 0) (fun e => AW g 176 [(0, .ref (wad (cxw g) 17)), (1, .int x1), (2, .int x2), (3, .int x3), (4, .int x4)] [] (c, e, z) 0 0) s) : AW g 145 [(0, .ref (wad (cxw g) 17)), (1, .int x1), (2, .int x2), (3, .int x3), (4, .int x4), (7, .int x7)] [] (c, m, z) 0 0 := by
  unfold f_X7_roundDecimal_L145 at h
  refine aw_iload hG 5 rfl dX7_roundDecimal_145 ?_
  refine aw_aload_n hG 0 rfl dX7_roundDecimal_147 rfl ?_
  refine gt_m_rowMany hG l_698 dX7_roundDecimal_148 ?_
  refine aw_icmp_ge (t := 176) hG dX7_roundDecimal_151 rfl (fun hc => ?_) (fun hc => ?_)
  · replace h := it_p hc h
    obtain rfl := Option.some.inj h
    refine aw_sub (L' := [(0, .ref (wad (cxw g) 17)), (1, .int x1), (2, .int x2), (3, .int x3), (4, .int x4)]) [0, 1, 2, 3, 4] rfl ?_
    exact hK
  · replace h := it_n hc h
    refine aw_aload_n hG 0 rfl dX7_roundDecimal_154 rfl ?_
    refine gt_m_a hG l_659 dX7_roundDecimal_155 ?_
    refine aw_bipush (v := 10) hG dX7_roundDecimal_158 rfl ?_
    refine aw_aload_n hG 0 rfl dX7_roundDecimal_160 rfl ?_
    refine gt_m_row hG l_699 dX7_roundDecimal_161 ?_
    refine aw_iload hG 5 rfl dX7_roundDecimal_164 ?_
    obtain ⟨hi_9, h⟩ := it_o h
    refine al_mA (x := 0) hG (by decide) hi_9 dX7_roundDecimal_166 ?_
    obtain ⟨v_10, hv_10, h⟩ := bd_o h
    refine aw_callSv (As := [.ref (wad (cxw g) (18 + 3)), .int 10, .int (mA m 7 x7.toNatClampNeg)]) (rest := []) hG (c_X7_grow (j0 := 3) (x1 := 10) (x2 := mA m 7 x7.toNatClampNeg) (m := m) (by decide) hv_10) l_654 ws_X7_grow rfl rfl rfl (by decide) (Nat.zero_le _) (Nat.zero_le _) (Nat.le_of_ble_eq_true rfl) dX7_roundDecimal_167 ?_
    obtain ⟨x7_11, hx7_11⟩ : ∃ y : Int32, y = x7 + 1 := ⟨_, rfl⟩
    replace h := lt_r hx7_11 h
    refine aw_iinc (v := x7_11) (L' := [(7, .int x7_11), (0, .ref (wad (cxw g) 17)), (1, .int x1), (2, .int x2), (3, .int x3), (4, .int x4)]) hG 5 rfl dX7_roundDecimal_170 (by rw [hx7_11]; rfl) (by decide) rfl ?_
    refine aw_goto (t := 145) hG dX7_roundDecimal_173 rfl ?_
    obtain rfl := Option.some.inj h
    refine aw_sub (L' := [(0, .ref (wad (cxw g) 17)), (1, .int x1), (2, .int x2), (3, .int x3), (4, .int x4), (7, .int x7_11)]) [1, 2, 3, 4, 5, 0] rfl ?_
    exact hK
noncomputable def f_X7_roundDecimal_J200 (x1 : Int32) (x2 : Int32) (x4 : Int32) (m : MS) : Option MS :=
  Option.bind (f_X7_round x1 x2 x4 m) fun v_15 =>
  some v_15
set_option maxRecDepth 20000 in
theorem w_X7_roundDecimal_J200 {g : Cx} {mc ms : Nat} {c : CS} {m : MS} {z : Nat → Int64} {x1 : Int32} {x2 : Int32} {x4 : Int32} {s : MS}  (hG : Gd g RX7 cX7_roundDecimal 8 5 mc ms) (h : f_X7_roundDecimal_J200 x1 x2 x4 m = some s) (hK : FinV g cX7_roundDecimal mc ms (c, s, z)) : AW g 200 [(0, .ref (wad (cxw g) 17)), (1, .int x1), (2, .int x2), (4, .int x4)] [] (c, m, z) 0 0 := by
  unfold f_X7_roundDecimal_J200 at h
  refine aw_aload_n hG 0 rfl dX7_roundDecimal_200 rfl ?_
  refine aw_iload_n hG 1 rfl dX7_roundDecimal_201 rfl ?_
  refine aw_iload_n hG 2 rfl dX7_roundDecimal_202 rfl ?_
  refine aw_iload hG 3 rfl dX7_roundDecimal_203 ?_
  obtain ⟨v_15, hv_15, h⟩ := bd_o h
  refine aw_callVv (As := [.int x1, .int x2, .int x4]) (rest := []) hG (c_X7_round (x1 := x1) (x2 := x2) (x3 := x4) (m := m)  hv_15) l_708 wv_X7_round (rv_X7 hG) rfl rfl rfl (by decide) (Nat.zero_le _) (Nat.zero_le _) (Nat.le_of_ble_eq_true rfl) dX7_roundDecimal_205 ?_
  obtain rfl := Option.some.inj h
  exact FinV.z hK dX7_roundDecimal_208
noncomputable def f_X7_roundDecimal (x1 : Int32) (x2 : Int32) (x3 : Int32) (x4 : Int32) (m : MS) : Option MS :=
  Option.bind (Lp (fun a => f_X7_roundDecimal_L3 x1 x2 x3 x4 a m) 0) fun e_5 =>
  if e_5 = (mI m 10) then
    if x2 = 0 then
      lt (smJ m 2 0) fun m_26 =>
      lt (smI m_26 11 0) fun m_27 =>
      some m_27
    else
      lt (smJ m 2 (f_X7_signBit x1)) fun m_28 =>
      lt (smI m_28 11 0) fun m_29 =>
      some m_29
  else
    lt (((mI m 10) - e_5) + x3) fun x6_6 =>
    Option.bind (f_X7_zero 3 m) fun v_7 =>
    Option.bind (f_X7_set 4 1 v_7) fun v_8 =>
    if x6_6 ≤ 330 then
      if (-360) ≤ x6_6 then
        Option.bind (Lp (fun a => f_X7_roundDecimal_L145 x1 x2 x3 x4 a.1 a.2) (e_5, v_8)) fun e_13 =>
        if x3 ≤ 0 then
          Option.bind (f_X7_tens 4 (-x3) e_13) fun v_14 =>
          f_X7_roundDecimal_J200 x1 x2 x4 v_14
        else
          Option.bind (f_X7_tens 3 x3 e_13) fun v_16 =>
          f_X7_roundDecimal_J200 x1 x2 x4 v_16
      else
        if vI 0 (mLen 3) then
          lt (smA v_8 3 (upd (mA v_8 3) (0 : Int32).toNatClampNeg 1)) fun m_19 =>
          Option.bind (f_X7_tens 4 400 m_19) fun v_20 =>
          f_X7_roundDecimal_J200 x1 x2 x4 v_20
        else none
    else
      if vI 0 (mLen 3) then
        lt (smA v_8 3 (upd (mA v_8 3) (0 : Int32).toNatClampNeg 1)) fun m_23 =>
        Option.bind (f_X7_tens 3 330 m_23) fun v_24 =>
        f_X7_roundDecimal_J200 x1 x2 x4 v_24
      else none
set_option maxRecDepth 20000 in
theorem w_X7_roundDecimal {g : Cx} {mc ms : Nat} {c : CS} {m : MS} {z : Nat → Int64} {x1 : Int32} {x2 : Int32} {x3 : Int32} {x4 : Int32} {s : MS}  (hG : Gd g RX7 cX7_roundDecimal 8 5 mc ms) (h : f_X7_roundDecimal x1 x2 x3 x4 m = some s) (hK : FinV g cX7_roundDecimal mc ms (c, s, z)) : AW g 0 [(0, .ref (wad (cxw g) 17)), (1, .int x1), (2, .int x2), (3, .int x3), (4, .int x4)] [] (c, m, z) 0 0 := by
  unfold f_X7_roundDecimal at h
  refine aw_iconst (v := 0) hG dX7_roundDecimal_0 rfl ?_
  refine aw_istore (L' := [(5, .int 0), (0, .ref (wad (cxw g) 17)), (1, .int x1), (2, .int x2), (3, .int x3), (4, .int x4)]) hG dX7_roundDecimal_1 (by decide) rfl ?_
  obtain ⟨e_5, he, h⟩ := bd_o h
  refine aw_sub (L' := [(0, .ref (wad (cxw g) 17)), (1, .int x1), (2, .int x2), (3, .int x3), (4, .int x4), (5, .int 0)]) [1, 2, 3, 4, 5, 0] rfl ?_
  refine Lp_w (F := (fun a => f_X7_roundDecimal_L3 x1 x2 x3 x4 a m)) (S := (fun a => AW g 3 [(0, .ref (wad (cxw g) 17)), (1, .int x1), (2, .int x2), (3, .int x3), (4, .int x4), (5, .int a)] [] (c, m, z) 0 0)) (E := (fun e => AW g 28 [(0, .ref (wad (cxw g) 17)), (1, .int x1), (2, .int x2), (3, .int x3), (4, .int x4), (5, .int e)] [] (c, m, z) 0 0)) (a := 0) he (fun a s h hK => w_X7_roundDecimal_L3 (x1 := x1) (x2 := x2) (x3 := x3) (x4 := x4) (x5 := a) (m := m) hG h hK) ?_
  show AW g 28 _ _ _ 0 0
  refine aw_iload hG 5 rfl dX7_roundDecimal_28 ?_
  refine aw_aload_n hG 0 rfl dX7_roundDecimal_30 rfl ?_
  refine gt_m_rowMany hG l_698 dX7_roundDecimal_31 ?_
  refine aw_icmp_ne (t := 59) hG dX7_roundDecimal_34 rfl (fun hc => ?_) (fun hc => ?_)
  · replace h := it_n hc h
    refine aw_aload_n hG 0 rfl dX7_roundDecimal_59 rfl ?_
    refine gt_m_rowMany hG l_698 dX7_roundDecimal_60 ?_
    refine aw_iload hG 5 rfl dX7_roundDecimal_63 ?_
    refine aw_isub hG dX7_roundDecimal_65 ?_
    refine aw_iload_n hG 3 rfl dX7_roundDecimal_66 rfl ?_
    refine aw_iadd hG dX7_roundDecimal_67 ?_
    refine aw_topi (fun x6_6 hx6_6 => ?_)
    replace h := lt_r hx6_6 h
    refine aw_istore (L' := [(6, .int x6_6), (0, .ref (wad (cxw g) 17)), (1, .int x1), (2, .int x2), (3, .int x3), (4, .int x4), (5, .int e_5)]) hG dX7_roundDecimal_68 (by decide) rfl ?_
    refine aw_aload_n hG 1 rfl dX7_roundDecimal_70 rfl ?_
    refine gt_m_a hG l_659 dX7_roundDecimal_71 ?_
    obtain ⟨v_7, hv_7, h⟩ := bd_o h
    refine aw_callSv (As := [.ref (wad (cxw g) (18 + 3))]) (rest := []) hG (c_X7_zero (j0 := 3) (m := m) (by decide) hv_7) l_648 ws_X7_zero rfl rfl rfl (by decide) (Nat.zero_le _) (Nat.zero_le _) (Nat.le_of_ble_eq_true rfl) dX7_roundDecimal_74 ?_
    refine aw_aload_n hG 1 rfl dX7_roundDecimal_77 rfl ?_
    refine gt_m_b hG l_664 dX7_roundDecimal_78 ?_
    refine aw_lconst (v := 1) hG dX7_roundDecimal_81 rfl ?_
    obtain ⟨v_8, hv_8, h⟩ := bd_o h
    refine aw_callSv (As := [.ref (wad (cxw g) (18 + 4)), .long 1]) (rest := []) hG (c_X7_set (j0 := 4) (x1 := 1) (m := v_7) (by decide) hv_8) l_700 ws_X7_set rfl rfl rfl (by decide) (Nat.zero_le _) (Nat.zero_le _) (Nat.le_of_ble_eq_true rfl) dX7_roundDecimal_82 ?_
    refine aw_iload hG 0 rfl dX7_roundDecimal_85 ?_
    refine aw_sipush (v := 330) hG dX7_roundDecimal_87 rfl ?_
    refine aw_icmp_le (t := 113) hG dX7_roundDecimal_90 rfl (fun hc => ?_) (fun hc => ?_)
    · replace h := it_p hc h
      refine aw_iload hG 0 rfl dX7_roundDecimal_113 ?_
      refine aw_sipush (v := (-360)) hG dX7_roundDecimal_115 rfl ?_
      refine aw_icmp_ge (t := 141) hG dX7_roundDecimal_118 rfl (fun hc => ?_) (fun hc => ?_)
      · replace h := it_p hc h
        refine aw_iload hG 6 rfl dX7_roundDecimal_141 ?_
        refine aw_istore (L' := [(7, .int e_5), (6, .int x6_6), (0, .ref (wad (cxw g) 17)), (1, .int x1), (2, .int x2), (3, .int x3), (4, .int x4), (5, .int e_5)]) hG dX7_roundDecimal_143 (by decide) rfl ?_
        obtain ⟨e_13, he, h⟩ := bd_o h
        refine aw_sub (L' := [(0, .ref (wad (cxw g) 17)), (1, .int x1), (2, .int x2), (3, .int x3), (4, .int x4), (7, .int e_5)]) [2, 3, 4, 5, 6, 0] rfl ?_
        refine Lp_w (F := (fun a => f_X7_roundDecimal_L145 x1 x2 x3 x4 a.1 a.2)) (S := (fun a => AW g 145 [(0, .ref (wad (cxw g) 17)), (1, .int x1), (2, .int x2), (3, .int x3), (4, .int x4), (7, .int a.1)] [] (c, a.2, z) 0 0)) (E := (fun e => AW g 176 [(0, .ref (wad (cxw g) 17)), (1, .int x1), (2, .int x2), (3, .int x3), (4, .int x4)] [] (c, e, z) 0 0)) (a := (e_5, v_8)) he (fun a s h hK => w_X7_roundDecimal_L145 (x1 := x1) (x2 := x2) (x3 := x3) (x4 := x4) (x7 := a.1) (m := a.2) hG h hK) ?_
        show AW g 176 _ _ _ 0 0
        refine aw_iload_n hG 3 rfl dX7_roundDecimal_176 rfl ?_
        refine aw_if_le (t := 191) hG dX7_roundDecimal_177 rfl (fun hc => ?_) (fun hc => ?_)
        · replace h := it_p hc h
          refine aw_aload_n hG 0 rfl dX7_roundDecimal_191 rfl ?_
          refine gt_m_b hG l_664 dX7_roundDecimal_192 ?_
          refine aw_iload_n hG 3 rfl dX7_roundDecimal_195 rfl ?_
          refine aw_ineg hG dX7_roundDecimal_196 ?_
          obtain ⟨v_14, hv_14, h⟩ := bd_o h
          refine aw_callSv (As := [.ref (wad (cxw g) (18 + 4)), .int (-x3)]) (rest := []) hG (c_X7_tens (j0 := 4) (x1 := -x3) (m := e_13) (by decide) hv_14) l_704 ws_X7_tens rfl rfl rfl (by decide) (Nat.zero_le _) (Nat.zero_le _) (Nat.le_of_ble_eq_true rfl) dX7_roundDecimal_197 ?_
          refine aw_sub (L' := [(0, .ref (wad (cxw g) 17)), (1, .int x1), (2, .int x2), (4, .int x4)]) [0, 1, 2, 4] rfl ?_
          exact w_X7_roundDecimal_J200 (x1 := x1) (x2 := x2) (x4 := x4) (m := v_14) hG h hK
        · replace h := it_n hc h
          refine aw_aload_n hG 0 rfl dX7_roundDecimal_180 rfl ?_
          refine gt_m_a hG l_659 dX7_roundDecimal_181 ?_
          refine aw_iload_n hG 3 rfl dX7_roundDecimal_184 rfl ?_
          obtain ⟨v_16, hv_16, h⟩ := bd_o h
          refine aw_callSv (As := [.ref (wad (cxw g) (18 + 3)), .int x3]) (rest := []) hG (c_X7_tens (j0 := 3) (x1 := x3) (m := e_13) (by decide) hv_16) l_704 ws_X7_tens rfl rfl rfl (by decide) (Nat.zero_le _) (Nat.zero_le _) (Nat.le_of_ble_eq_true rfl) dX7_roundDecimal_185 ?_
          refine aw_goto (t := 200) hG dX7_roundDecimal_188 rfl ?_
          refine aw_sub (L' := [(0, .ref (wad (cxw g) 17)), (1, .int x1), (2, .int x2), (4, .int x4)]) [0, 1, 2, 4] rfl ?_
          exact w_X7_roundDecimal_J200 (x1 := x1) (x2 := x2) (x4 := x4) (m := v_16) hG h hK
      · replace h := it_n hc h
        refine aw_aload_n hG 1 rfl dX7_roundDecimal_121 rfl ?_
        refine gt_m_a hG l_659 dX7_roundDecimal_122 ?_
        refine aw_iconst (v := 0) hG dX7_roundDecimal_125 rfl ?_
        refine aw_iconst (v := 1) hG dX7_roundDecimal_126 rfl ?_
        obtain ⟨hi_18, h⟩ := it_o h
        refine as_mA hG (by decide) hi_18 dX7_roundDecimal_127 ?_
        refine aw_stm (fun m_19 hm_19 => ?_)
        replace h := lt_r hm_19 h
        refine aw_aload_n hG 1 rfl dX7_roundDecimal_128 rfl ?_
        refine gt_m_b hG l_664 dX7_roundDecimal_129 ?_
        refine aw_sipush (v := 400) hG dX7_roundDecimal_132 rfl ?_
        obtain ⟨v_20, hv_20, h⟩ := bd_o h
        refine aw_callSv (As := [.ref (wad (cxw g) (18 + 4)), .int 400]) (rest := []) hG (c_X7_tens (j0 := 4) (x1 := 400) (m := m_19) (by decide) hv_20) l_704 ws_X7_tens rfl rfl rfl (by decide) (Nat.zero_le _) (Nat.zero_le _) (Nat.le_of_ble_eq_true rfl) dX7_roundDecimal_135 ?_
        refine aw_goto (t := 200) hG dX7_roundDecimal_138 rfl ?_
        refine aw_sub (L' := [(0, .ref (wad (cxw g) 17)), (1, .int x1), (2, .int x2), (4, .int x4)]) [1, 2, 3, 5] rfl ?_
        exact w_X7_roundDecimal_J200 (x1 := x1) (x2 := x2) (x4 := x4) (m := v_20) hG h hK
    · replace h := it_n hc h
      refine aw_aload_n hG 1 rfl dX7_roundDecimal_93 rfl ?_
      refine gt_m_a hG l_659 dX7_roundDecimal_94 ?_
      refine aw_iconst (v := 0) hG dX7_roundDecimal_97 rfl ?_
      refine aw_iconst (v := 1) hG dX7_roundDecimal_98 rfl ?_
      obtain ⟨hi_22, h⟩ := it_o h
      refine as_mA hG (by decide) hi_22 dX7_roundDecimal_99 ?_
      refine aw_stm (fun m_23 hm_23 => ?_)
      replace h := lt_r hm_23 h
      refine aw_aload_n hG 1 rfl dX7_roundDecimal_100 rfl ?_
      refine gt_m_a hG l_659 dX7_roundDecimal_101 ?_
      refine aw_sipush (v := 330) hG dX7_roundDecimal_104 rfl ?_
      obtain ⟨v_24, hv_24, h⟩ := bd_o h
      refine aw_callSv (As := [.ref (wad (cxw g) (18 + 3)), .int 330]) (rest := []) hG (c_X7_tens (j0 := 3) (x1 := 330) (m := m_23) (by decide) hv_24) l_704 ws_X7_tens rfl rfl rfl (by decide) (Nat.zero_le _) (Nat.zero_le _) (Nat.le_of_ble_eq_true rfl) dX7_roundDecimal_107 ?_
      refine aw_goto (t := 200) hG dX7_roundDecimal_110 rfl ?_
      refine aw_sub (L' := [(0, .ref (wad (cxw g) 17)), (1, .int x1), (2, .int x2), (4, .int x4)]) [1, 2, 3, 5] rfl ?_
      exact w_X7_roundDecimal_J200 (x1 := x1) (x2 := x2) (x4 := x4) (m := v_24) hG h hK
  · replace h := it_p hc h
    refine aw_aload_n hG 0 rfl dX7_roundDecimal_37 rfl ?_
    refine aw_iload_n hG 2 rfl dX7_roundDecimal_38 rfl ?_
    refine aw_if_eq (t := 49) hG dX7_roundDecimal_39 rfl (fun hc => ?_) (fun hc => ?_)
    · replace h := it_p hc h
      refine aw_lconst (v := 0) hG dX7_roundDecimal_49 rfl ?_
      refine pt_m_rounded hG l_678 dX7_roundDecimal_50 ?_
      refine aw_stm (fun m_26 hm_26 => ?_)
      replace h := lt_r hm_26 h
      refine aw_aload_n hG 0 rfl dX7_roundDecimal_53 rfl ?_
      refine aw_iconst (v := 0) hG dX7_roundDecimal_54 rfl ?_
      refine pt_m_noted hG l_679 dX7_roundDecimal_55 ?_
      refine aw_stm (fun m_27 hm_27 => ?_)
      replace h := lt_r hm_27 h
      obtain rfl := Option.some.inj h
      exact FinV.z hK dX7_roundDecimal_58
    · replace h := it_n hc h
      refine aw_iload_n hG 1 rfl dX7_roundDecimal_42 rfl ?_
      refine aw_callSl (As := [.int x1]) (rest := [.ref (wad (cxw g) 17)]) hG (c_X7_signBit (x0 := x1) (m := m) ) l_630 ws_X7_signBit rfl rfl rfl (by decide) (Nat.zero_le _) (Nat.zero_le _) (Nat.le_of_ble_eq_true rfl) dX7_roundDecimal_43 ?_
      refine aw_goto (t := 50) hG dX7_roundDecimal_46 rfl ?_
      refine pt_m_rounded hG l_678 dX7_roundDecimal_50 ?_
      refine aw_stm (fun m_28 hm_28 => ?_)
      replace h := lt_r hm_28 h
      refine aw_aload_n hG 0 rfl dX7_roundDecimal_53 rfl ?_
      refine aw_iconst (v := 0) hG dX7_roundDecimal_54 rfl ?_
      refine pt_m_noted hG l_679 dX7_roundDecimal_55 ?_
      refine aw_stm (fun m_29 hm_29 => ?_)
      replace h := lt_r hm_29 h
      obtain rfl := Option.some.inj h
      exact FinV.z hK dX7_roundDecimal_58
theorem c_X7_roundDecimal {c : CS} {m : MS} {z : Nat → Int64} {x1 : Int32} {x2 : Int32} {x3 : Int32} {x4 : Int32} {s : MS}  (h : f_X7_roundDecimal x1 x2 x3 x4 m = some s) : Ct yX7_roundDecimal cX7_roundDecimal 8 none 5 (fun w => [.ref (wad w 17), .int x1, .int x2, .int x3, .int x4]) (c, m, z) (fun _ => none) (c, s, z) := Ct_ofV (by decide +kernel) (fun _ => Nat.le_of_ble_eq_true rfl) (fun g hG hK => w_X7_roundDecimal hG h hK)
noncomputable def f_X7_roundBinary_J139 (x1 : Int32) (x2 : Int32) (x5 : Int32) (m : MS) : Option MS :=
  Option.bind (f_X7_round x1 x2 x5 m) fun v_5 =>
  some v_5
set_option maxRecDepth 20000 in
theorem w_X7_roundBinary_J139 {g : Cx} {mc ms : Nat} {c : CS} {m : MS} {z : Nat → Int64} {x1 : Int32} {x2 : Int32} {x5 : Int32} {s : MS}  (hG : Gd g RX7 cX7_roundBinary 9 5 mc ms) (h : f_X7_roundBinary_J139 x1 x2 x5 m = some s) (hK : FinV g cX7_roundBinary mc ms (c, s, z)) : AW g 139 [(0, .ref (wad (cxw g) 17)), (1, .int x1), (2, .int x2), (5, .int x5)] [] (c, m, z) 0 0 := by
  unfold f_X7_roundBinary_J139 at h
  refine aw_aload_n hG 0 rfl dX7_roundBinary_139 rfl ?_
  refine aw_iload_n hG 1 rfl dX7_roundBinary_140 rfl ?_
  refine aw_iload_n hG 2 rfl dX7_roundBinary_141 rfl ?_
  refine aw_iload hG 3 rfl dX7_roundBinary_142 ?_
  obtain ⟨v_5, hv_5, h⟩ := bd_o h
  refine aw_callVv (As := [.int x1, .int x2, .int x5]) (rest := []) hG (c_X7_round (x1 := x1) (x2 := x2) (x3 := x5) (m := m)  hv_5) l_708 wv_X7_round (rv_X7 hG) rfl rfl rfl (by decide) (Nat.zero_le _) (Nat.zero_le _) (Nat.le_of_ble_eq_true rfl) dX7_roundBinary_144 ?_
  obtain rfl := Option.some.inj h
  exact FinV.z hK dX7_roundBinary_147
noncomputable def f_X7_roundBinary (x1 : Int32) (x2 : Int32) (x3 : Int64) (x5 : Int32) (m : MS) : Option MS :=
  Option.bind (f_X7_length 3 m) fun v_1 =>
  if v_1 = 0 then
    if x2 = 0 then
      lt (smJ m 2 0) fun m_14 =>
      lt (smI m_14 11 0) fun m_15 =>
      some m_15
    else
      lt (smJ m 2 (f_X7_signBit x1)) fun m_16 =>
      lt (smI m_16 11 0) fun m_17 =>
      some m_17
  else
    lt (v_1.toInt64 + x3) fun x7_2 =>
    Option.bind (f_X7_set 4 1 m) fun v_3 =>
    if x7_2 ≤ 1100 then
      if (-1300) ≤ x7_2 then
        if x3 ≤ 0 then
          Option.bind (f_X7_left 4 ((-x3).toInt32) v_3) fun v_4 =>
          f_X7_roundBinary_J139 x1 x2 x5 v_4
        else
          Option.bind (f_X7_left 3 x3.toInt32 v_3) fun v_6 =>
          f_X7_roundBinary_J139 x1 x2 x5 v_6
      else
        Option.bind (f_X7_set 3 1 v_3) fun v_8 =>
        Option.bind (f_X7_left 4 1300 v_8) fun v_9 =>
        f_X7_roundBinary_J139 x1 x2 x5 v_9
    else
      Option.bind (f_X7_set 3 1 v_3) fun v_11 =>
      Option.bind (f_X7_left 3 1100 v_11) fun v_12 =>
      f_X7_roundBinary_J139 x1 x2 x5 v_12
set_option maxRecDepth 20000 in
theorem w_X7_roundBinary {g : Cx} {mc ms : Nat} {c : CS} {m : MS} {z : Nat → Int64} {x1 : Int32} {x2 : Int32} {x3 : Int64} {x5 : Int32} {s : MS}  (hG : Gd g RX7 cX7_roundBinary 9 5 mc ms) (h : f_X7_roundBinary x1 x2 x3 x5 m = some s) (hK : FinV g cX7_roundBinary mc ms (c, s, z)) : AW g 0 [(0, .ref (wad (cxw g) 17)), (1, .int x1), (2, .int x2), (3, .long x3), (5, .int x5)] [] (c, m, z) 0 0 := by
  unfold f_X7_roundBinary at h
  refine aw_aload_n hG 0 rfl dX7_roundBinary_0 rfl ?_
  refine gt_m_a hG l_659 dX7_roundBinary_1 ?_
  obtain ⟨v_1, hv_1, h⟩ := bd_o h
  refine aw_callSi (As := [.ref (wad (cxw g) (18 + 3))]) (rest := []) hG (c_X7_length (j0 := 3) (m := m) (by decide) hv_1) l_660 ws_X7_length rfl rfl rfl (by decide) (Nat.zero_le _) (Nat.zero_le _) (Nat.le_of_ble_eq_true rfl) dX7_roundBinary_4 ?_
  refine aw_istore (L' := [(6, .int v_1), (0, .ref (wad (cxw g) 17)), (1, .int x1), (2, .int x2), (3, .long x3), (5, .int x5)]) hG dX7_roundBinary_7 (by decide) rfl ?_
  refine aw_iload hG 0 rfl dX7_roundBinary_9 ?_
  refine aw_if_ne (t := 36) hG dX7_roundBinary_11 rfl (fun hc => ?_) (fun hc => ?_)
  · replace h := it_n hc h
    refine aw_iload hG 0 rfl dX7_roundBinary_36 ?_
    refine aw_i2l hG dX7_roundBinary_38 ?_
    refine aw_lload_n hG 4 rfl dX7_roundBinary_39 rfl ?_
    refine aw_ladd hG dX7_roundBinary_40 ?_
    refine aw_topl (fun x7_2 hx7_2 => ?_)
    replace h := lt_r hx7_2 h
    refine aw_lstore (L' := [(7, .long x7_2), (6, .int v_1), (0, .ref (wad (cxw g) 17)), (1, .int x1), (2, .int x2), (3, .long x3), (5, .int x5)]) hG dX7_roundBinary_41 (by decide) rfl ?_
    refine aw_aload_n hG 2 rfl dX7_roundBinary_43 rfl ?_
    refine gt_m_b hG l_664 dX7_roundBinary_44 ?_
    refine aw_lconst (v := 1) hG dX7_roundBinary_47 rfl ?_
    obtain ⟨v_3, hv_3, h⟩ := bd_o h
    refine aw_callSv (As := [.ref (wad (cxw g) (18 + 4)), .long 1]) (rest := []) hG (c_X7_set (j0 := 4) (x1 := 1) (m := m) (by decide) hv_3) l_700 ws_X7_set rfl rfl rfl (by decide) (Nat.zero_le _) (Nat.zero_le _) (Nat.le_of_ble_eq_true rfl) dX7_roundBinary_48 ?_
    refine aw_lload hG 0 rfl dX7_roundBinary_51 ?_
    refine aw_ldc2 hG l_713 dX7_roundBinary_53 ?_
    refine aw_lc_le (t := 81) hG dX7_roundBinary_56 rfl dX7_roundBinary_57 rfl rfl (fun hc => ?_) (fun hc => ?_)
    · replace h := it_p hc h
      refine aw_lload hG 0 rfl dX7_roundBinary_81 ?_
      refine aw_ldc2 hG l_714 dX7_roundBinary_83 ?_
      refine aw_lc_ge (t := 111) hG dX7_roundBinary_86 rfl dX7_roundBinary_87 rfl rfl (fun hc => ?_) (fun hc => ?_)
      · replace h := it_p hc h
        refine aw_lload_n hG 5 rfl dX7_roundBinary_111 rfl ?_
        refine aw_lconst (v := 0) hG dX7_roundBinary_112 rfl ?_
        refine aw_lc_le (t := 129) hG dX7_roundBinary_113 rfl dX7_roundBinary_114 rfl rfl (fun hc => ?_) (fun hc => ?_)
        · replace h := it_p hc h
          refine aw_aload_n hG 2 rfl dX7_roundBinary_129 rfl ?_
          refine gt_m_b hG l_664 dX7_roundBinary_130 ?_
          refine aw_lload_n hG 5 rfl dX7_roundBinary_133 rfl ?_
          refine aw_lneg hG dX7_roundBinary_134 ?_
          refine aw_l2i hG dX7_roundBinary_135 ?_
          obtain ⟨v_4, hv_4, h⟩ := bd_o h
          refine aw_callSv (As := [.ref (wad (cxw g) (18 + 4)), .int ((-x3).toInt32)]) (rest := []) hG (c_X7_left (j0 := 4) (x1 := (-x3).toInt32) (m := v_3) (by decide) hv_4) l_670 ws_X7_left rfl rfl rfl (by decide) (Nat.zero_le _) (Nat.zero_le _) (Nat.le_of_ble_eq_true rfl) dX7_roundBinary_136 ?_
          refine aw_sub (L' := [(0, .ref (wad (cxw g) 17)), (1, .int x1), (2, .int x2), (5, .int x5)]) [2, 3, 4, 6] rfl ?_
          exact w_X7_roundBinary_J139 (x1 := x1) (x2 := x2) (x5 := x5) (m := v_4) hG h hK
        · replace h := it_n hc h
          refine aw_aload_n hG 2 rfl dX7_roundBinary_117 rfl ?_
          refine gt_m_a hG l_659 dX7_roundBinary_118 ?_
          refine aw_lload_n hG 5 rfl dX7_roundBinary_121 rfl ?_
          refine aw_l2i hG dX7_roundBinary_122 ?_
          obtain ⟨v_6, hv_6, h⟩ := bd_o h
          refine aw_callSv (As := [.ref (wad (cxw g) (18 + 3)), .int x3.toInt32]) (rest := []) hG (c_X7_left (j0 := 3) (x1 := x3.toInt32) (m := v_3) (by decide) hv_6) l_670 ws_X7_left rfl rfl rfl (by decide) (Nat.zero_le _) (Nat.zero_le _) (Nat.le_of_ble_eq_true rfl) dX7_roundBinary_123 ?_
          refine aw_goto (t := 139) hG dX7_roundBinary_126 rfl ?_
          refine aw_sub (L' := [(0, .ref (wad (cxw g) 17)), (1, .int x1), (2, .int x2), (5, .int x5)]) [2, 3, 4, 6] rfl ?_
          exact w_X7_roundBinary_J139 (x1 := x1) (x2 := x2) (x5 := x5) (m := v_6) hG h hK
      · replace h := it_n hc h
        refine aw_aload_n hG 2 rfl dX7_roundBinary_90 rfl ?_
        refine gt_m_a hG l_659 dX7_roundBinary_91 ?_
        refine aw_lconst (v := 1) hG dX7_roundBinary_94 rfl ?_
        obtain ⟨v_8, hv_8, h⟩ := bd_o h
        refine aw_callSv (As := [.ref (wad (cxw g) (18 + 3)), .long 1]) (rest := []) hG (c_X7_set (j0 := 3) (x1 := 1) (m := v_3) (by decide) hv_8) l_700 ws_X7_set rfl rfl rfl (by decide) (Nat.zero_le _) (Nat.zero_le _) (Nat.le_of_ble_eq_true rfl) dX7_roundBinary_95 ?_
        refine aw_aload_n hG 2 rfl dX7_roundBinary_98 rfl ?_
        refine gt_m_b hG l_664 dX7_roundBinary_99 ?_
        refine aw_sipush (v := 1300) hG dX7_roundBinary_102 rfl ?_
        obtain ⟨v_9, hv_9, h⟩ := bd_o h
        refine aw_callSv (As := [.ref (wad (cxw g) (18 + 4)), .int 1300]) (rest := []) hG (c_X7_left (j0 := 4) (x1 := 1300) (m := v_8) (by decide) hv_9) l_670 ws_X7_left rfl rfl rfl (by decide) (Nat.zero_le _) (Nat.zero_le _) (Nat.le_of_ble_eq_true rfl) dX7_roundBinary_105 ?_
        refine aw_goto (t := 139) hG dX7_roundBinary_108 rfl ?_
        refine aw_sub (L' := [(0, .ref (wad (cxw g) 17)), (1, .int x1), (2, .int x2), (5, .int x5)]) [2, 3, 4, 6] rfl ?_
        exact w_X7_roundBinary_J139 (x1 := x1) (x2 := x2) (x5 := x5) (m := v_9) hG h hK
    · replace h := it_n hc h
      refine aw_aload_n hG 2 rfl dX7_roundBinary_60 rfl ?_
      refine gt_m_a hG l_659 dX7_roundBinary_61 ?_
      refine aw_lconst (v := 1) hG dX7_roundBinary_64 rfl ?_
      obtain ⟨v_11, hv_11, h⟩ := bd_o h
      refine aw_callSv (As := [.ref (wad (cxw g) (18 + 3)), .long 1]) (rest := []) hG (c_X7_set (j0 := 3) (x1 := 1) (m := v_3) (by decide) hv_11) l_700 ws_X7_set rfl rfl rfl (by decide) (Nat.zero_le _) (Nat.zero_le _) (Nat.le_of_ble_eq_true rfl) dX7_roundBinary_65 ?_
      refine aw_aload_n hG 2 rfl dX7_roundBinary_68 rfl ?_
      refine gt_m_a hG l_659 dX7_roundBinary_69 ?_
      refine aw_sipush (v := 1100) hG dX7_roundBinary_72 rfl ?_
      obtain ⟨v_12, hv_12, h⟩ := bd_o h
      refine aw_callSv (As := [.ref (wad (cxw g) (18 + 3)), .int 1100]) (rest := []) hG (c_X7_left (j0 := 3) (x1 := 1100) (m := v_11) (by decide) hv_12) l_670 ws_X7_left rfl rfl rfl (by decide) (Nat.zero_le _) (Nat.zero_le _) (Nat.le_of_ble_eq_true rfl) dX7_roundBinary_75 ?_
      refine aw_goto (t := 139) hG dX7_roundBinary_78 rfl ?_
      refine aw_sub (L' := [(0, .ref (wad (cxw g) 17)), (1, .int x1), (2, .int x2), (5, .int x5)]) [2, 3, 4, 6] rfl ?_
      exact w_X7_roundBinary_J139 (x1 := x1) (x2 := x2) (x5 := x5) (m := v_12) hG h hK
  · replace h := it_p hc h
    refine aw_aload_n hG 1 rfl dX7_roundBinary_14 rfl ?_
    refine aw_iload_n hG 3 rfl dX7_roundBinary_15 rfl ?_
    refine aw_if_eq (t := 26) hG dX7_roundBinary_16 rfl (fun hc => ?_) (fun hc => ?_)
    · replace h := it_p hc h
      refine aw_lconst (v := 0) hG dX7_roundBinary_26 rfl ?_
      refine pt_m_rounded hG l_678 dX7_roundBinary_27 ?_
      refine aw_stm (fun m_14 hm_14 => ?_)
      replace h := lt_r hm_14 h
      refine aw_aload_n hG 1 rfl dX7_roundBinary_30 rfl ?_
      refine aw_iconst (v := 0) hG dX7_roundBinary_31 rfl ?_
      refine pt_m_noted hG l_679 dX7_roundBinary_32 ?_
      refine aw_stm (fun m_15 hm_15 => ?_)
      replace h := lt_r hm_15 h
      obtain rfl := Option.some.inj h
      exact FinV.z hK dX7_roundBinary_35
    · replace h := it_n hc h
      refine aw_iload_n hG 2 rfl dX7_roundBinary_19 rfl ?_
      refine aw_callSl (As := [.int x1]) (rest := [.ref (wad (cxw g) 17)]) hG (c_X7_signBit (x0 := x1) (m := m) ) l_630 ws_X7_signBit rfl rfl rfl (by decide) (Nat.zero_le _) (Nat.zero_le _) (Nat.le_of_ble_eq_true rfl) dX7_roundBinary_20 ?_
      refine aw_goto (t := 27) hG dX7_roundBinary_23 rfl ?_
      refine pt_m_rounded hG l_678 dX7_roundBinary_27 ?_
      refine aw_stm (fun m_16 hm_16 => ?_)
      replace h := lt_r hm_16 h
      refine aw_aload_n hG 1 rfl dX7_roundBinary_30 rfl ?_
      refine aw_iconst (v := 0) hG dX7_roundBinary_31 rfl ?_
      refine pt_m_noted hG l_679 dX7_roundBinary_32 ?_
      refine aw_stm (fun m_17 hm_17 => ?_)
      replace h := lt_r hm_17 h
      obtain rfl := Option.some.inj h
      exact FinV.z hK dX7_roundBinary_35
theorem c_X7_roundBinary {c : CS} {m : MS} {z : Nat → Int64} {x1 : Int32} {x2 : Int32} {x3 : Int64} {x5 : Int32} {s : MS}  (h : f_X7_roundBinary x1 x2 x3 x5 m = some s) : Ct yX7_roundBinary cX7_roundBinary 9 none 5 (fun w => [.ref (wad w 17), .int x1, .int x2, .long x3, .int x5]) (c, m, z) (fun _ => none) (c, s, z) := Ct_ofV (by decide +kernel) (fun _ => Nat.le_of_ble_eq_true rfl) (fun g hG hK => w_X7_roundBinary hG h hK)
def f_X7_keep (m : MS) : MS :=
  lt (smJ m 0 (mJ m 2)) fun m_1 =>
  lt (smI m_1 6 (mI m_1 11)) fun m_2 =>
  m_2
set_option maxRecDepth 20000 in
theorem w_X7_keep {g : Cx} {mc ms : Nat} {c : CS} {m : MS} {z : Nat → Int64}  {s : MS}  (hG : Gd g RX7 cX7_keep 1 1 mc ms) (h : f_X7_keep m = s) (hK : FinV g cX7_keep mc ms (c, s, z)) : AW g 0 [(0, .ref (wad (cxw g) 17))] [] (c, m, z) 0 0 := by
  unfold f_X7_keep at h
  refine aw_aload_n hG 0 rfl dX7_keep_0 rfl ?_
  refine aw_aload_n hG 0 rfl dX7_keep_1 rfl ?_
  refine gt_m_rounded hG l_678 dX7_keep_2 ?_
  refine pt_m_result hG l_715 dX7_keep_5 ?_
  refine aw_stm (fun m_1 hm_1 => ?_)
  replace h := lt_r hm_1 h
  refine aw_aload_n hG 0 rfl dX7_keep_8 rfl ?_
  refine aw_aload_n hG 0 rfl dX7_keep_9 rfl ?_
  refine gt_m_noted hG l_679 dX7_keep_10 ?_
  refine pt_m_flags hG l_716 dX7_keep_13 ?_
  refine aw_stm (fun m_2 hm_2 => ?_)
  replace h := lt_r hm_2 h
  subst h
  exact FinV.z hK dX7_keep_16
theorem c_X7_keep {c : CS} {m : MS} {z : Nat → Int64}  {s : MS}  (h : f_X7_keep m = s) : Ct yX7_keep cX7_keep 1 none 1 (fun w => [.ref (wad w 17)]) (c, m, z) (fun _ => none) (c, s, z) := Ct_ofV (by decide +kernel) (fun _ => Nat.le_of_ble_eq_true rfl) (fun g hG hK => w_X7_keep hG h hK)
def f_X7_type_L35 (x1 : Int64) (x3 : Int32) (x4 : Int32) (m : MS) : Option ((Int32 × MS) ⊕ (MS)) :=
  if x3 ≤ x4 then
    some (.inr m)
  else
    if vI (mI m 1) (mLen 0) then
      lt (smA m 0 (upd (mA m 0) (mI m 1).toNatClampNeg (((jshr x1 (8 * x4)) &&& 255).toInt32))) fun m_3 =>
      lt (smI m_3 1 ((mI m_3 1) + 1)) fun m_4 =>
      lt (x4 + 1) fun x4_5 =>
      some (.inl (x4_5, m_4))
    else none
set_option maxRecDepth 20000 in
theorem w_X7_type_L35 {g : Cx} {mc ms : Nat} {c : CS} {m : MS} {z : Nat → Int64} {x1 : Int64} {x3 : Int32} {x4 : Int32} {s : ((Int32 × MS) ⊕ (MS))}  (hG : Gd g RX7 cX7_type 5 2 mc ms) (h : f_X7_type_L35 x1 x3 x4 m = some s) (hK : Sum.elim (fun a => AW g 35 [(0, .ref (wad (cxw g) 17)), (1, .long x1), (3, .int x3), (4, .int a.1)] [] (c, a.2, z) 0 0) (fun e => AW g 78 [(0, .ref (wad (cxw g) 17))] [] (c, e, z) 0 0) s) : AW g 35 [(0, .ref (wad (cxw g) 17)), (1, .long x1), (3, .int x3), (4, .int x4)] [] (c, m, z) 0 0 := by
  unfold f_X7_type_L35 at h
  refine aw_iload hG 3 rfl dX7_type_35 ?_
  refine aw_iload_n hG 2 rfl dX7_type_37 rfl ?_
  refine aw_icmp_ge (t := 78) hG dX7_type_38 rfl (fun hc => ?_) (fun hc => ?_)
  · replace h := it_p hc h
    obtain rfl := Option.some.inj h
    refine aw_sub (L' := [(0, .ref (wad (cxw g) 17))]) [0] rfl ?_
    exact hK
  · replace h := it_n hc h
    refine aw_aload_n hG 0 rfl dX7_type_41 rfl ?_
    refine gt_m_text hG l_724 dX7_type_42 ?_
    refine aw_aload_n hG 0 rfl dX7_type_45 rfl ?_
    refine gt_m_size hG l_723 dX7_type_46 ?_
    refine aw_lload_n hG 1 rfl dX7_type_49 rfl ?_
    refine aw_bipush (v := 8) hG dX7_type_50 rfl ?_
    refine aw_iload hG 3 rfl dX7_type_52 ?_
    refine aw_imul hG dX7_type_54 ?_
    refine aw_lshrJ hG dX7_type_55 ?_
    refine aw_ldc2 hG l_725 dX7_type_56 ?_
    refine aw_land hG dX7_type_59 ?_
    refine aw_l2i hG dX7_type_60 ?_
    obtain ⟨hi_2, h⟩ := it_o h
    refine as_mA hG (by decide) hi_2 dX7_type_61 ?_
    refine aw_stm (fun m_3 hm_3 => ?_)
    replace h := lt_r hm_3 h
    refine aw_aload_n hG 0 rfl dX7_type_62 rfl ?_
    refine aw_dup hG dX7_type_63 rfl ?_
    refine gt_m_size hG l_723 dX7_type_64 ?_
    refine aw_iconst (v := 1) hG dX7_type_67 rfl ?_
    refine aw_iadd hG dX7_type_68 ?_
    refine pt_m_size hG l_723 dX7_type_69 ?_
    refine aw_stm (fun m_4 hm_4 => ?_)
    replace h := lt_r hm_4 h
    obtain ⟨x4_5, hx4_5⟩ : ∃ y : Int32, y = x4 + 1 := ⟨_, rfl⟩
    replace h := lt_r hx4_5 h
    refine aw_iinc (v := x4_5) (L' := [(4, .int x4_5), (0, .ref (wad (cxw g) 17)), (1, .long x1), (3, .int x3)]) hG 3 rfl dX7_type_72 (by rw [hx4_5]; rfl) (by decide) rfl ?_
    refine aw_goto (t := 35) hG dX7_type_75 rfl ?_
    obtain rfl := Option.some.inj h
    refine aw_sub (L' := [(0, .ref (wad (cxw g) 17)), (1, .long x1), (3, .int x3), (4, .int x4_5)]) [1, 2, 3, 0] rfl ?_
    exact hK
noncomputable def f_X7_type (x1 : Int64) (x3 : Int32) (m : MS) : Option (Int32 × MS) :=
  lt (f_X7_refuses (f_X7_in x3.toInt64 0 8) m) fun v_1 =>
  if v_1.1 = 0 then
    if ((mI v_1.2 1) + x3) ≤ 1600 then
      Option.bind (Lp (fun a => f_X7_type_L35 x1 x3 a.1 a.2) (0, v_1.2)) fun e_7 =>
      some (mI e_7 1, e_7)
    else
      some ((-1), v_1.2)
  else
    some (0, v_1.2)
set_option maxRecDepth 20000 in
theorem w_X7_type {g : Cx} {mc ms : Nat} {c : CS} {m : MS} {z : Nat → Int64} {x1 : Int64} {x3 : Int32} {s : (Int32 × MS)}  (hG : Gd g RX7 cX7_type 5 2 mc ms) (h : f_X7_type x1 x3 m = some s) (hK : FinI g cX7_type mc ms s.1 (c, s.2, z)) : AW g 0 [(0, .ref (wad (cxw g) 17)), (1, .long x1), (3, .int x3)] [] (c, m, z) 0 0 := by
  unfold f_X7_type at h
  refine aw_aload_n hG 0 rfl dX7_type_0 rfl ?_
  refine aw_iload_n hG 2 rfl dX7_type_1 rfl ?_
  refine aw_i2l hG dX7_type_2 ?_
  refine aw_lconst (v := 0) hG dX7_type_3 rfl ?_
  refine aw_ldc2 hG l_717 dX7_type_4 ?_
  refine aw_callSi (As := [.long x3.toInt64, .long 0, .long 8]) (rest := [.ref (wad (cxw g) 17)]) hG (c_X7_in (x0 := x3.toInt64) (x2 := 0) (x4 := 8) (m := m) ) l_626 ws_X7_in rfl rfl rfl (by decide) (Nat.zero_le _) (Nat.zero_le _) (Nat.le_of_ble_eq_true rfl) dX7_type_7 ?_
  obtain ⟨v_1, hv_1⟩ : ∃ y, y = f_X7_refuses (f_X7_in x3.toInt64 0 8) m := ⟨_, rfl⟩
  replace h := lt_r hv_1 h
  refine aw_callVi (As := [.int (f_X7_in x3.toInt64 0 8)]) (rest := []) hG (c_X7_refuses (x1 := f_X7_in x3.toInt64 0 8) (m := m)  hv_1.symm) l_718 wv_X7_refuses (rv_X7 hG) rfl rfl rfl (by decide) (Nat.zero_le _) (Nat.zero_le _) (Nat.le_of_ble_eq_true rfl) dX7_type_10 ?_
  refine aw_if_eq (t := 18) hG dX7_type_13 rfl (fun hc => ?_) (fun hc => ?_)
  · replace h := it_p hc h
    refine aw_aload_n hG 0 rfl dX7_type_18 rfl ?_
    refine gt_m_size hG l_723 dX7_type_19 ?_
    refine aw_iload_n hG 2 rfl dX7_type_22 rfl ?_
    refine aw_iadd hG dX7_type_23 ?_
    refine aw_sipush (v := 1600) hG dX7_type_24 rfl ?_
    refine aw_icmp_le (t := 32) hG dX7_type_27 rfl (fun hc => ?_) (fun hc => ?_)
    · replace h := it_p hc h
      refine aw_iconst (v := 0) hG dX7_type_32 rfl ?_
      refine aw_istore (L' := [(4, .int 0), (0, .ref (wad (cxw g) 17)), (1, .long x1), (3, .int x3)]) hG dX7_type_33 (by decide) rfl ?_
      obtain ⟨e_7, he, h⟩ := bd_o h
      refine aw_sub (L' := [(0, .ref (wad (cxw g) 17)), (1, .long x1), (3, .int x3), (4, .int 0)]) [1, 2, 3, 0] rfl ?_
      refine Lp_w (F := (fun a => f_X7_type_L35 x1 x3 a.1 a.2)) (S := (fun a => AW g 35 [(0, .ref (wad (cxw g) 17)), (1, .long x1), (3, .int x3), (4, .int a.1)] [] (c, a.2, z) 0 0)) (E := (fun e => AW g 78 [(0, .ref (wad (cxw g) 17))] [] (c, e, z) 0 0)) (a := (0, v_1.2)) he (fun a s h hK => w_X7_type_L35 (x1 := x1) (x3 := x3) (x4 := a.1) (m := a.2) hG h hK) ?_
      show AW g 78 _ _ _ 0 0
      refine aw_aload_n hG 0 rfl dX7_type_78 rfl ?_
      refine gt_m_size hG l_723 dX7_type_79 ?_
      obtain rfl := Option.some.inj h
      exact FinI.z hK dX7_type_82
    · replace h := it_n hc h
      refine aw_iconst (v := (-1)) hG dX7_type_30 rfl ?_
      obtain rfl := Option.some.inj h
      exact FinI.z hK dX7_type_31
  · replace h := it_n hc h
    refine aw_iconst (v := 0) hG dX7_type_16 rfl ?_
    obtain rfl := Option.some.inj h
    exact FinI.z hK dX7_type_17
theorem c_X7_type {c : CS} {m : MS} {z : Nat → Int64} {x1 : Int64} {x3 : Int32} {s : Int32 × MS}  (h : f_X7_type x1 x3 m = some s) : Ct yX7_type cX7_type 5 (some .int) 2 (fun w => [.ref (wad w 17), .long x1, .int x3]) (c, m, z) (fun _ => some (.int s.1)) (c, s.2, z) := Ct_ofI (by decide +kernel) (fun _ => Nat.le_of_ble_eq_true rfl) (fun g hG hK => w_X7_type hG h hK)
def f_X7_pass_L24 (x1 : Int32) (m : MS) : Option ((Int32 × MS) ⊕ (MS)) :=
  if (mI m 2) ≤ x1 then
    some (.inr m)
  else
    if vI x1 (mLen 1) then
      if vI (mI m 1) (mLen 0) then
        lt (smA m 0 (upd (mA m 0) (mI m 1).toNatClampNeg (mA m 1 x1.toNatClampNeg))) fun m_4 =>
        lt (smI m_4 1 ((mI m_4 1) + 1)) fun m_5 =>
        lt (x1 + 1) fun x1_6 =>
        some (.inl (x1_6, m_5))
      else none
    else none
set_option maxRecDepth 20000 in
theorem w_X7_pass_L24 {g : Cx} {mc ms : Nat} {c : CS} {m : MS} {z : Nat → Int64} {x1 : Int32} {s : ((Int32 × MS) ⊕ (MS))}  (hG : Gd g RX7 cX7_pass 2 1 mc ms) (h : f_X7_pass_L24 x1 m = some s) (hK : Sum.elim (fun a => AW g 24 [(0, .ref (wad (cxw g) 17)), (1, .int a.1)] [] (c, a.2, z) 0 0) (fun e => AW g 63 [(0, .ref (wad (cxw g) 17))] [] (c, e, z) 0 0) s) : AW g 24 [(0, .ref (wad (cxw g) 17)), (1, .int x1)] [] (c, m, z) 0 0 := by
  unfold f_X7_pass_L24 at h
  refine aw_iload_n hG 1 rfl dX7_pass_24 rfl ?_
  refine aw_aload_n hG 0 rfl dX7_pass_25 rfl ?_
  refine gt_m_outSize hG l_726 dX7_pass_26 ?_
  refine aw_icmp_ge (t := 63) hG dX7_pass_29 rfl (fun hc => ?_) (fun hc => ?_)
  · replace h := it_p hc h
    obtain rfl := Option.some.inj h
    refine aw_sub (L' := [(0, .ref (wad (cxw g) 17))]) [0] rfl ?_
    exact hK
  · replace h := it_n hc h
    refine aw_aload_n hG 0 rfl dX7_pass_32 rfl ?_
    refine gt_m_text hG l_724 dX7_pass_33 ?_
    refine aw_aload_n hG 0 rfl dX7_pass_36 rfl ?_
    refine gt_m_size hG l_723 dX7_pass_37 ?_
    refine aw_aload_n hG 0 rfl dX7_pass_40 rfl ?_
    refine gt_m_out hG l_727 dX7_pass_41 ?_
    refine aw_iload_n hG 1 rfl dX7_pass_44 rfl ?_
    obtain ⟨hi_2, h⟩ := it_o h
    refine al_mA (x := 0) hG (by decide) hi_2 dX7_pass_45 ?_
    obtain ⟨hi_3, h⟩ := it_o h
    refine as_mA hG (by decide) hi_3 dX7_pass_46 ?_
    refine aw_stm (fun m_4 hm_4 => ?_)
    replace h := lt_r hm_4 h
    refine aw_aload_n hG 0 rfl dX7_pass_47 rfl ?_
    refine aw_dup hG dX7_pass_48 rfl ?_
    refine gt_m_size hG l_723 dX7_pass_49 ?_
    refine aw_iconst (v := 1) hG dX7_pass_52 rfl ?_
    refine aw_iadd hG dX7_pass_53 ?_
    refine pt_m_size hG l_723 dX7_pass_54 ?_
    refine aw_stm (fun m_5 hm_5 => ?_)
    replace h := lt_r hm_5 h
    obtain ⟨x1_6, hx1_6⟩ : ∃ y : Int32, y = x1 + 1 := ⟨_, rfl⟩
    replace h := lt_r hx1_6 h
    refine aw_iinc (v := x1_6) (L' := [(1, .int x1_6), (0, .ref (wad (cxw g) 17))]) hG 1 rfl dX7_pass_57 (by rw [hx1_6]; rfl) (by decide) rfl ?_
    refine aw_goto (t := 24) hG dX7_pass_60 rfl ?_
    obtain rfl := Option.some.inj h
    refine aw_sub (L' := [(0, .ref (wad (cxw g) 17)), (1, .int x1_6)]) [1, 0] rfl ?_
    exact hK
noncomputable def f_X7_pass (m : MS) : Option (Int32 × MS) :=
  lt (smI m 0 0) fun m_1 =>
  if ((mI m_1 1) + (mI m_1 2)) ≤ 1600 then
    Option.bind (Lp (fun a => f_X7_pass_L24 a.1 a.2) (0, m_1)) fun e_8 =>
    some (mI e_8 1, e_8)
  else
    some ((-1), m_1)
set_option maxRecDepth 20000 in
theorem w_X7_pass {g : Cx} {mc ms : Nat} {c : CS} {m : MS} {z : Nat → Int64}  {s : (Int32 × MS)}  (hG : Gd g RX7 cX7_pass 2 1 mc ms) (h : f_X7_pass m = some s) (hK : FinI g cX7_pass mc ms s.1 (c, s.2, z)) : AW g 0 [(0, .ref (wad (cxw g) 17))] [] (c, m, z) 0 0 := by
  unfold f_X7_pass at h
  refine aw_aload_n hG 0 rfl dX7_pass_0 rfl ?_
  refine aw_iconst (v := 0) hG dX7_pass_1 rfl ?_
  refine pt_m_thrown hG l_611 dX7_pass_2 ?_
  refine aw_stm (fun m_1 hm_1 => ?_)
  replace h := lt_r hm_1 h
  refine aw_aload_n hG 0 rfl dX7_pass_5 rfl ?_
  refine gt_m_size hG l_723 dX7_pass_6 ?_
  refine aw_aload_n hG 0 rfl dX7_pass_9 rfl ?_
  refine gt_m_outSize hG l_726 dX7_pass_10 ?_
  refine aw_iadd hG dX7_pass_13 ?_
  refine aw_sipush (v := 1600) hG dX7_pass_14 rfl ?_
  refine aw_icmp_le (t := 22) hG dX7_pass_17 rfl (fun hc => ?_) (fun hc => ?_)
  · replace h := it_p hc h
    refine aw_iconst (v := 0) hG dX7_pass_22 rfl ?_
    refine aw_istore_n (L' := [(1, .int 0), (0, .ref (wad (cxw g) 17))]) hG dX7_pass_23 rfl (by decide) rfl ?_
    obtain ⟨e_8, he, h⟩ := bd_o h
    refine aw_sub (L' := [(0, .ref (wad (cxw g) 17)), (1, .int 0)]) [1, 0] rfl ?_
    refine Lp_w (F := (fun a => f_X7_pass_L24 a.1 a.2)) (S := (fun a => AW g 24 [(0, .ref (wad (cxw g) 17)), (1, .int a.1)] [] (c, a.2, z) 0 0)) (E := (fun e => AW g 63 [(0, .ref (wad (cxw g) 17))] [] (c, e, z) 0 0)) (a := (0, m_1)) he (fun a s h hK => w_X7_pass_L24 (x1 := a.1) (m := a.2) hG h hK) ?_
    show AW g 63 _ _ _ 0 0
    refine aw_aload_n hG 0 rfl dX7_pass_63 rfl ?_
    refine gt_m_size hG l_723 dX7_pass_64 ?_
    obtain rfl := Option.some.inj h
    exact FinI.z hK dX7_pass_67
  · replace h := it_n hc h
    refine aw_iconst (v := (-1)) hG dX7_pass_20 rfl ?_
    obtain rfl := Option.some.inj h
    exact FinI.z hK dX7_pass_21
theorem c_X7_pass {c : CS} {m : MS} {z : Nat → Int64}  {s : Int32 × MS}  (h : f_X7_pass m = some s) : Ct yX7_pass cX7_pass 2 (some .int) 1 (fun w => [.ref (wad w 17)]) (c, m, z) (fun _ => some (.int s.1)) (c, s.2, z) := Ct_ofI (by decide +kernel) (fun _ => Nat.le_of_ble_eq_true rfl) (fun g hG hK => w_X7_pass hG h hK)
def f_X7_clear (m : MS) : Int32 × MS :=
  lt (smI m 0 0) fun m_1 =>
  lt (mI m_1 1) fun x1_2 =>
  lt (smI m_1 1 0) fun m_3 =>
  (x1_2, m_3)
set_option maxRecDepth 20000 in
theorem w_X7_clear {g : Cx} {mc ms : Nat} {c : CS} {m : MS} {z : Nat → Int64}  {s : Int32 × MS}  (hG : Gd g RX7 cX7_clear 2 1 mc ms) (h : f_X7_clear m = s) (hK : FinI g cX7_clear mc ms s.1 (c, s.2, z)) : AW g 0 [(0, .ref (wad (cxw g) 17))] [] (c, m, z) 0 0 := by
  unfold f_X7_clear at h
  refine aw_aload_n hG 0 rfl dX7_clear_0 rfl ?_
  refine aw_iconst (v := 0) hG dX7_clear_1 rfl ?_
  refine pt_m_thrown hG l_611 dX7_clear_2 ?_
  refine aw_stm (fun m_1 hm_1 => ?_)
  replace h := lt_r hm_1 h
  refine aw_aload_n hG 0 rfl dX7_clear_5 rfl ?_
  refine gt_m_size hG l_723 dX7_clear_6 ?_
  refine aw_topi (fun x1_2 hx1_2 => ?_)
  replace h := lt_r hx1_2 h
  refine aw_istore_n (L' := [(1, .int x1_2), (0, .ref (wad (cxw g) 17))]) hG dX7_clear_9 rfl (by decide) rfl ?_
  refine aw_aload_n hG 1 rfl dX7_clear_10 rfl ?_
  refine aw_iconst (v := 0) hG dX7_clear_11 rfl ?_
  refine pt_m_size hG l_723 dX7_clear_12 ?_
  refine aw_stm (fun m_3 hm_3 => ?_)
  replace h := lt_r hm_3 h
  refine aw_iload_n hG 0 rfl dX7_clear_15 rfl ?_
  subst h
  exact FinI.z hK dX7_clear_16
theorem c_X7_clear {c : CS} {m : MS} {z : Nat → Int64}  {s : Int32 × MS}  (h : f_X7_clear m = s) : Ct yX7_clear cX7_clear 2 (some .int) 1 (fun w => [.ref (wad w 17)]) (c, m, z) (fun _ => some (.int s.1)) (c, s.2, z) := Ct_ofI (by decide +kernel) (fun _ => Nat.le_of_ble_eq_true rfl) (fun g hG hK => w_X7_clear hG h hK)
def f_X7_peek (m : MS) : Option Int32 :=
  if (mI m 1) ≤ (mI m 12) then
    some (-1)
  else
    if vI (mI m 12) (mLen 0) then
      some (mA m 0 (mI m 12).toNatClampNeg)
    else none
set_option maxRecDepth 20000 in
theorem w_X7_peek {g : Cx} {mc ms : Nat} {c : CS} {m : MS} {z : Nat → Int64}  {s : Int32}  (hG : Gd g RX7 cX7_peek 1 1 mc ms) (h : f_X7_peek m = some s) (hK : FinI g cX7_peek mc ms s (c, m, z)) : AW g 0 [(0, .ref (wad (cxw g) 17))] [] (c, m, z) 0 0 := by
  unfold f_X7_peek at h
  refine aw_aload_n hG 0 rfl dX7_peek_0 rfl ?_
  refine gt_m_at hG l_728 dX7_peek_1 ?_
  refine aw_aload_n hG 0 rfl dX7_peek_4 rfl ?_
  refine gt_m_size hG l_723 dX7_peek_5 ?_
  refine aw_icmp_ge (t := 23) hG dX7_peek_8 rfl (fun hc => ?_) (fun hc => ?_)
  · replace h := it_p hc h
    refine aw_iconst (v := (-1)) hG dX7_peek_23 rfl ?_
    obtain rfl := Option.some.inj h
    exact FinI.z hK dX7_peek_24
  · replace h := it_n hc h
    refine aw_aload_n hG 0 rfl dX7_peek_11 rfl ?_
    refine gt_m_text hG l_724 dX7_peek_12 ?_
    refine aw_aload_n hG 0 rfl dX7_peek_15 rfl ?_
    refine gt_m_at hG l_728 dX7_peek_16 ?_
    obtain ⟨hi_1, h⟩ := it_o h
    refine al_mA (x := 0) hG (by decide) hi_1 dX7_peek_19 ?_
    refine aw_goto (t := 24) hG dX7_peek_20 rfl ?_
    obtain rfl := Option.some.inj h
    exact FinI.z hK dX7_peek_24
theorem c_X7_peek {c : CS} {m : MS} {z : Nat → Int64}  {s : Int32}  (h : f_X7_peek m = some s) : Ct yX7_peek cX7_peek 1 (some .int) 1 (fun w => [.ref (wad w 17)]) (c, m, z) (fun _ => some (.int s)) (c, m, z) := Ct_ofI (by decide +kernel) (fun _ => Nat.le_of_ble_eq_true rfl) (fun g hG hK => w_X7_peek hG h hK)
def f_X7_small (x0 : Int32) : Int32 :=
  if x0 < 65 then
    x0
  else
    if 90 < x0 then
      x0
    else
      (x0 + 32)
set_option maxRecDepth 20000 in
theorem w_X7_small {g : Cx} {mc ms : Nat} {c : CS} {m : MS} {z : Nat → Int64} {x0 : Int32} {s : Int32}  (hG : Gd g RX7 cX7_small 1 1 mc ms) (h : f_X7_small x0 = s) (hK : FinI g cX7_small mc ms s (c, m, z)) : AW g 0 [(0, .int x0)] [] (c, m, z) 0 0 := by
  unfold f_X7_small at h
  refine aw_iload_n hG 0 rfl dX7_small_0 rfl ?_
  refine aw_bipush (v := 65) hG dX7_small_1 rfl ?_
  refine aw_icmp_lt (t := 19) hG dX7_small_3 rfl (fun hc => ?_) (fun hc => ?_)
  · replace h := it_p hc h
    refine aw_iload_n hG 0 rfl dX7_small_19 rfl ?_
    subst h
    exact FinI.z hK dX7_small_20
  · replace h := it_n hc h
    refine aw_iload_n hG 0 rfl dX7_small_6 rfl ?_
    refine aw_bipush (v := 90) hG dX7_small_7 rfl ?_
    refine aw_icmp_gt (t := 19) hG dX7_small_9 rfl (fun hc => ?_) (fun hc => ?_)
    · replace h := it_p hc h
      refine aw_iload_n hG 0 rfl dX7_small_19 rfl ?_
      subst h
      exact FinI.z hK dX7_small_20
    · replace h := it_n hc h
      refine aw_iload_n hG 0 rfl dX7_small_12 rfl ?_
      refine aw_bipush (v := 32) hG dX7_small_13 rfl ?_
      refine aw_iadd hG dX7_small_15 ?_
      refine aw_goto (t := 20) hG dX7_small_16 rfl ?_
      subst h
      exact FinI.z hK dX7_small_20
theorem c_X7_small {c : CS} {m : MS} {z : Nat → Int64} {x0 : Int32}  : Ct yX7_small cX7_small 1 (some .int) 1 (fun w => [.int x0]) (c, m, z) (fun _ => some (.int (f_X7_small x0))) (c, m, z) := Ct_ofI (by decide +kernel) (fun _ => Nat.le_of_ble_eq_true rfl) (fun g hG hK => w_X7_small hG rfl hK)
def f_X7_figure_J24 (x1 : Int32) : Int32 :=
  if x1 < 97 then
    99
  else
    if 102 < x1 then
      99
    else
      ((x1 - 97) + 10)
set_option maxRecDepth 20000 in
theorem w_X7_figure_J24 {g : Cx} {mc ms : Nat} {c : CS} {m : MS} {z : Nat → Int64} {x1 : Int32} {s : Int32}  (hG : Gd g RX7 cX7_figure 2 2 mc ms) (h : f_X7_figure_J24 x1 = s) (hK : FinI g cX7_figure mc ms s (c, m, z)) : AW g 24 [(1, .int x1)] [] (c, m, z) 0 0 := by
  unfold f_X7_figure_J24 at h
  refine aw_iload_n hG 0 rfl dX7_figure_24 rfl ?_
  refine aw_bipush (v := 97) hG dX7_figure_25 rfl ?_
  refine aw_icmp_lt (t := 46) hG dX7_figure_27 rfl (fun hc => ?_) (fun hc => ?_)
  · replace h := it_p hc h
    refine aw_bipush (v := 99) hG dX7_figure_46 rfl ?_
    subst h
    exact FinI.z hK dX7_figure_48
  · replace h := it_n hc h
    refine aw_iload_n hG 0 rfl dX7_figure_30 rfl ?_
    refine aw_bipush (v := 102) hG dX7_figure_31 rfl ?_
    refine aw_icmp_gt (t := 46) hG dX7_figure_33 rfl (fun hc => ?_) (fun hc => ?_)
    · replace h := it_p hc h
      refine aw_bipush (v := 99) hG dX7_figure_46 rfl ?_
      subst h
      exact FinI.z hK dX7_figure_48
    · replace h := it_n hc h
      refine aw_iload_n hG 0 rfl dX7_figure_36 rfl ?_
      refine aw_bipush (v := 97) hG dX7_figure_37 rfl ?_
      refine aw_isub hG dX7_figure_39 ?_
      refine aw_bipush (v := 10) hG dX7_figure_40 rfl ?_
      refine aw_iadd hG dX7_figure_42 ?_
      refine aw_goto (t := 48) hG dX7_figure_43 rfl ?_
      subst h
      exact FinI.z hK dX7_figure_48
def f_X7_figure (x0 : Int32) : Int32 :=
  lt (f_X7_small x0) fun x1_1 =>
  if x0 < 48 then
    f_X7_figure_J24 x1_1
  else
    if 57 < x0 then
      f_X7_figure_J24 x1_1
    else
      (x0 - 48)
set_option maxRecDepth 20000 in
theorem w_X7_figure {g : Cx} {mc ms : Nat} {c : CS} {m : MS} {z : Nat → Int64} {x0 : Int32} {s : Int32}  (hG : Gd g RX7 cX7_figure 2 2 mc ms) (h : f_X7_figure x0 = s) (hK : FinI g cX7_figure mc ms s (c, m, z)) : AW g 0 [(0, .int x0)] [] (c, m, z) 0 0 := by
  unfold f_X7_figure at h
  refine aw_iload_n hG 0 rfl dX7_figure_0 rfl ?_
  refine aw_callSi (As := [.int x0]) (rest := []) hG (c_X7_small (x0 := x0) (m := m) ) l_729 ws_X7_small rfl rfl rfl (by decide) (Nat.zero_le _) (Nat.zero_le _) (Nat.le_of_ble_eq_true rfl) dX7_figure_1 ?_
  refine aw_topi (fun x1_1 hx1_1 => ?_)
  replace h := lt_r hx1_1 h
  refine aw_istore_n (L' := [(1, .int x1_1), (0, .int x0)]) hG dX7_figure_4 rfl (by decide) rfl ?_
  refine aw_iload_n hG 1 rfl dX7_figure_5 rfl ?_
  refine aw_bipush (v := 48) hG dX7_figure_6 rfl ?_
  refine aw_icmp_lt (t := 24) hG dX7_figure_8 rfl (fun hc => ?_) (fun hc => ?_)
  · replace h := it_p hc h
    refine aw_sub (L' := [(1, .int x1_1)]) [0] rfl ?_
    exact w_X7_figure_J24 (x1 := x1_1) hG h hK
  · replace h := it_n hc h
    refine aw_iload_n hG 1 rfl dX7_figure_11 rfl ?_
    refine aw_bipush (v := 57) hG dX7_figure_12 rfl ?_
    refine aw_icmp_gt (t := 24) hG dX7_figure_14 rfl (fun hc => ?_) (fun hc => ?_)
    · replace h := it_p hc h
      refine aw_sub (L' := [(1, .int x1_1)]) [0] rfl ?_
      exact w_X7_figure_J24 (x1 := x1_1) hG h hK
    · replace h := it_n hc h
      refine aw_iload_n hG 1 rfl dX7_figure_17 rfl ?_
      refine aw_bipush (v := 48) hG dX7_figure_18 rfl ?_
      refine aw_isub hG dX7_figure_20 ?_
      refine aw_goto (t := 48) hG dX7_figure_21 rfl ?_
      subst h
      exact FinI.z hK dX7_figure_48
theorem c_X7_figure {c : CS} {m : MS} {z : Nat → Int64} {x0 : Int32}  : Ct yX7_figure cX7_figure 2 (some .int) 2 (fun w => [.int x0]) (c, m, z) (fun _ => some (.int (f_X7_figure x0))) (c, m, z) := Ct_ofI (by decide +kernel) (fun _ => Nat.le_of_ble_eq_true rfl) (fun g hG hK => w_X7_figure hG rfl hK)
def f_X7_isWord_L2 (j1 : Nat) (x3 : Int32) (m : MS) : Option ((Int32 × MS) ⊕ (MS ⊕ MS)) :=
  if (f_JS_length j1) ≤ x3 then
    some (.inr (.inr m))
  else
    Option.bind (f_X7_peek m) fun v_1 =>
    Option.bind (f_JS_charAt j1 x3) fun v_2 =>
    if (f_X7_small v_1) = v_2 then
      lt (smI m 12 ((mI m 12) + 1)) fun m_3 =>
      lt (x3 + 1) fun x3_4 =>
      some (.inl (x3_4, m_3))
    else
      some (.inr (.inl m))
set_option maxRecDepth 20000 in
theorem w_X7_isWord_L2 {g : Cx} {mc ms : Nat} {c : CS} {m : MS} {z : Nat → Int64} {j1 : Nat} {x3 : Int32} {s : ((Int32 × MS) ⊕ (MS ⊕ MS))} (hj1 : j1 < 27) (hG : Gd g RX7 cX7_isWord 4 5 mc ms) (h : f_X7_isWord_L2 j1 x3 m = some s) (hK : Sum.elim (fun a => AW g 2 [(0, .ref (wad (cxw g) 17)), (1, .ref (wad (cxw g) (40 + j1))), (3, .int a.1)] [] (c, a.2, z) 0 0) (Sum.elim (fun e => AW g 25 [(0, .ref (wad (cxw g) 17))] [] (c, e, z) 0 0) (fun e => AW g 51 [] [] (c, e, z) 0 0)) s) : AW g 2 [(0, .ref (wad (cxw g) 17)), (1, .ref (wad (cxw g) (40 + j1))), (3, .int x3)] [] (c, m, z) 0 0 := by
  unfold f_X7_isWord_L2 at h
  refine aw_iload_n hG 2 rfl dX7_isWord_2 rfl ?_
  refine aw_aload_n hG 1 rfl dX7_isWord_3 rfl ?_
  refine aw_callVi (As := []) (rest := [.int x3]) hG (c_JS_length (j0 := j1) (m := m) hj1) l_733 wv_JS_length (rv_S hG hj1) rfl rfl rfl (by decide) (Nat.zero_le _) (Nat.zero_le _) (Nat.le_of_ble_eq_true rfl) dX7_isWord_4 ?_
  refine aw_icmp_ge (t := 51) hG dX7_isWord_7 rfl (fun hc => ?_) (fun hc => ?_)
  · replace h := it_p hc h
    obtain rfl := Option.some.inj h
    refine aw_sub (L' := []) [] rfl ?_
    exact hK
  · replace h := it_n hc h
    refine aw_aload_n hG 0 rfl dX7_isWord_10 rfl ?_
    obtain ⟨v_1, hv_1, h⟩ := bd_o h
    refine aw_callVi (As := []) (rest := []) hG (c_X7_peek (m := m)  hv_1) l_734 wv_X7_peek (rv_X7 hG) rfl rfl rfl (by decide) (Nat.zero_le _) (Nat.zero_le _) (Nat.le_of_ble_eq_true rfl) dX7_isWord_11 ?_
    refine aw_callSi (As := [.int v_1]) (rest := []) hG (c_X7_small (x0 := v_1) (m := m) ) l_729 ws_X7_small rfl rfl rfl (by decide) (Nat.zero_le _) (Nat.zero_le _) (Nat.le_of_ble_eq_true rfl) dX7_isWord_14 ?_
    refine aw_aload_n hG 1 rfl dX7_isWord_17 rfl ?_
    refine aw_iload_n hG 2 rfl dX7_isWord_18 rfl ?_
    obtain ⟨v_2, hv_2, h⟩ := bd_o h
    refine aw_callVi (As := [.int x3]) (rest := [.int (f_X7_small v_1)]) hG (c_JS_charAt (j0 := j1) (x1 := x3) (m := m) hj1 hv_2) l_739 wv_JS_charAt (rv_S hG hj1) rfl rfl rfl (by decide) (Nat.zero_le _) (Nat.zero_le _) (Nat.le_of_ble_eq_true rfl) dX7_isWord_19 ?_
    refine aw_icmp_eq (t := 35) hG dX7_isWord_22 rfl (fun hc => ?_) (fun hc => ?_)
    · replace h := it_p hc h
      refine aw_aload_n hG 0 rfl dX7_isWord_35 rfl ?_
      refine aw_dup hG dX7_isWord_36 rfl ?_
      refine gt_m_at hG l_728 dX7_isWord_37 ?_
      refine aw_iconst (v := 1) hG dX7_isWord_40 rfl ?_
      refine aw_iadd hG dX7_isWord_41 ?_
      refine pt_m_at hG l_728 dX7_isWord_42 ?_
      refine aw_stm (fun m_3 hm_3 => ?_)
      replace h := lt_r hm_3 h
      obtain ⟨x3_4, hx3_4⟩ : ∃ y : Int32, y = x3 + 1 := ⟨_, rfl⟩
      replace h := lt_r hx3_4 h
      refine aw_iinc (v := x3_4) (L' := [(3, .int x3_4), (0, .ref (wad (cxw g) 17)), (1, .ref (wad (cxw g) (40 + j1)))]) hG 2 rfl dX7_isWord_45 (by rw [hx3_4]; rfl) (by decide) rfl ?_
      refine aw_goto (t := 2) hG dX7_isWord_48 rfl ?_
      obtain rfl := Option.some.inj h
      refine aw_sub (L' := [(0, .ref (wad (cxw g) 17)), (1, .ref (wad (cxw g) (40 + j1))), (3, .int x3_4)]) [1, 2, 0] rfl ?_
      exact hK
    · replace h := it_n hc h
      obtain rfl := Option.some.inj h
      refine aw_sub (L' := [(0, .ref (wad (cxw g) 17))]) [0] rfl ?_
      exact hK
noncomputable def f_X7_isWord (j1 : Nat) (x2 : Int32) (m : MS) : Option (Int32 × MS) :=
  Option.bind (Lp (fun a => f_X7_isWord_L2 j1 a.1 a.2) (x2, m)) fun e_7 =>
  Sum.elim (fun e_8 =>
    lt (smI e_8 13 (mI e_8 12)) fun m_10 =>
    some (0, m_10)) (fun e_9 =>
    some (1, e_9)) e_7
set_option maxRecDepth 20000 in
theorem w_X7_isWord {g : Cx} {mc ms : Nat} {c : CS} {m : MS} {z : Nat → Int64} {j1 : Nat} {x2 : Int32} {s : (Int32 × MS)} (hj1 : j1 < 27) (hG : Gd g RX7 cX7_isWord 4 5 mc ms) (h : f_X7_isWord j1 x2 m = some s) (hK : FinZ g cX7_isWord mc ms s.1 (c, s.2, z)) : AW g 0 [(0, .ref (wad (cxw g) 17)), (1, .ref (wad (cxw g) (40 + j1))), (2, .int x2)] [] (c, m, z) 0 0 := by
  unfold f_X7_isWord at h
  refine aw_iload_n hG 2 rfl dX7_isWord_0 rfl ?_
  refine aw_istore_n (L' := [(3, .int x2), (0, .ref (wad (cxw g) 17)), (1, .ref (wad (cxw g) (40 + j1))), (2, .int x2)]) hG dX7_isWord_1 rfl (by decide) rfl ?_
  obtain ⟨e_7, he, h⟩ := bd_o h
  refine aw_sub (L' := [(0, .ref (wad (cxw g) 17)), (1, .ref (wad (cxw g) (40 + j1))), (3, .int x2)]) [1, 2, 0] rfl ?_
  refine Lp_w (F := (fun a => f_X7_isWord_L2 j1 a.1 a.2)) (S := (fun a => AW g 2 [(0, .ref (wad (cxw g) 17)), (1, .ref (wad (cxw g) (40 + j1))), (3, .int a.1)] [] (c, a.2, z) 0 0)) (E := (Sum.elim (fun e => AW g 25 [(0, .ref (wad (cxw g) 17))] [] (c, e, z) 0 0) (fun e => AW g 51 [] [] (c, e, z) 0 0))) (a := (x2, m)) he (fun a s h hK => w_X7_isWord_L2 (j1 := j1) (x3 := a.1) (m := a.2) hj1 hG h hK) ?_
  rcases e_7 with e_8 | e_9
  · replace h := el_l h
    show AW g 25 _ _ _ 0 0
    refine aw_aload_n hG 0 rfl dX7_isWord_25 rfl ?_
    refine aw_aload_n hG 0 rfl dX7_isWord_26 rfl ?_
    refine gt_m_at hG l_728 dX7_isWord_27 ?_
    refine pt_m_fault hG l_740 dX7_isWord_30 ?_
    refine aw_stm (fun m_10 hm_10 => ?_)
    replace h := lt_r hm_10 h
    refine aw_iconst (v := 0) hG dX7_isWord_33 rfl ?_
    obtain rfl := Option.some.inj h
    exact FinZ.z hK (Or.inl rfl) dX7_isWord_34
  · replace h := el_r h
    show AW g 51 _ _ _ 0 0
    refine aw_iconst (v := 1) hG dX7_isWord_51 rfl ?_
    obtain rfl := Option.some.inj h
    exact FinZ.z hK (Or.inr rfl) dX7_isWord_52
theorem c_X7_isWord {c : CS} {m : MS} {z : Nat → Int64} {j1 : Nat} {x2 : Int32} {s : Int32 × MS} (hj1 : j1 < 27) (h : f_X7_isWord j1 x2 m = some s) : Ct yX7_isWord cX7_isWord 4 (some .boolean) 5 (fun w => [.ref (wad w 17), .ref (wad w (40 + j1)), .int x2]) (c, m, z) (fun _ => some (.int s.1)) (c, s.2, z) := Ct_ofZ (by decide +kernel) (fun _ => Nat.le_of_ble_eq_true rfl) (fun g hG hK => w_X7_isWord hj1 hG h hK)
def f_X7_takeSign_J27 (x1 : Int32) (s0 : Int32) (s1 : Int32) (m : MS) : Option (Int32 × MS) :=
  lt (smI m 12 (s1 + s0)) fun m_2 =>
  if x1 = 45 then
    some (1, m_2)
  else
    some (0, m_2)
set_option maxRecDepth 20000 in
theorem w_X7_takeSign_J27 {g : Cx} {mc ms : Nat} {c : CS} {m : MS} {z : Nat → Int64} {x1 : Int32} {s0 : Int32} {s1 : Int32} {s : (Int32 × MS)}  (hG : Gd g RX7 cX7_takeSign 2 2 mc ms) (h : f_X7_takeSign_J27 x1 s0 s1 m = some s) (hK : FinZ g cX7_takeSign mc ms s.1 (c, s.2, z)) : AW g 27 [(1, .int x1)] [.int s0, .int s1, .ref (wad (cxw g) 17)] (c, m, z) 0 0 := by
  unfold f_X7_takeSign_J27 at h
  refine aw_iadd hG dX7_takeSign_27 ?_
  refine pt_m_at hG l_728 dX7_takeSign_28 ?_
  refine aw_stm (fun m_2 hm_2 => ?_)
  replace h := lt_r hm_2 h
  refine aw_iload_n hG 0 rfl dX7_takeSign_31 rfl ?_
  refine aw_bipush (v := 45) hG dX7_takeSign_32 rfl ?_
  refine aw_icmp_ne (t := 41) hG dX7_takeSign_34 rfl (fun hc => ?_) (fun hc => ?_)
  · replace h := it_n hc h
    refine aw_iconst (v := 0) hG dX7_takeSign_41 rfl ?_
    obtain rfl := Option.some.inj h
    exact FinZ.z hK (Or.inl rfl) dX7_takeSign_42
  · replace h := it_p hc h
    refine aw_iconst (v := 1) hG dX7_takeSign_37 rfl ?_
    refine aw_goto (t := 42) hG dX7_takeSign_38 rfl ?_
    obtain rfl := Option.some.inj h
    exact FinZ.z hK (Or.inr rfl) dX7_takeSign_42
def f_X7_takeSign (m : MS) : Option (Int32 × MS) :=
  Option.bind (f_X7_peek m) fun v_1 =>
  if v_1 = 43 then
    f_X7_takeSign_J27 v_1 1 (mI m 12) m
  else
    if v_1 = 45 then
      f_X7_takeSign_J27 v_1 1 (mI m 12) m
    else
      f_X7_takeSign_J27 v_1 0 (mI m 12) m
set_option maxRecDepth 20000 in
theorem w_X7_takeSign {g : Cx} {mc ms : Nat} {c : CS} {m : MS} {z : Nat → Int64}  {s : (Int32 × MS)}  (hG : Gd g RX7 cX7_takeSign 2 2 mc ms) (h : f_X7_takeSign m = some s) (hK : FinZ g cX7_takeSign mc ms s.1 (c, s.2, z)) : AW g 0 [(0, .ref (wad (cxw g) 17))] [] (c, m, z) 0 0 := by
  unfold f_X7_takeSign at h
  refine aw_aload_n hG 0 rfl dX7_takeSign_0 rfl ?_
  obtain ⟨v_1, hv_1, h⟩ := bd_o h
  refine aw_callVi (As := []) (rest := []) hG (c_X7_peek (m := m)  hv_1) l_734 wv_X7_peek (rv_X7 hG) rfl rfl rfl (by decide) (Nat.zero_le _) (Nat.zero_le _) (Nat.le_of_ble_eq_true rfl) dX7_takeSign_1 ?_
  refine aw_istore_n (L' := [(1, .int v_1), (0, .ref (wad (cxw g) 17))]) hG dX7_takeSign_4 rfl (by decide) rfl ?_
  refine aw_aload_n hG 1 rfl dX7_takeSign_5 rfl ?_
  refine aw_dup hG dX7_takeSign_6 rfl ?_
  refine gt_m_at hG l_728 dX7_takeSign_7 ?_
  refine aw_iload_n hG 0 rfl dX7_takeSign_10 rfl ?_
  refine aw_bipush (v := 43) hG dX7_takeSign_11 rfl ?_
  refine aw_icmp_eq (t := 22) hG dX7_takeSign_13 rfl (fun hc => ?_) (fun hc => ?_)
  · replace h := it_p hc h
    refine aw_iconst (v := 1) hG dX7_takeSign_22 rfl ?_
    refine aw_goto (t := 27) hG dX7_takeSign_23 rfl ?_
    refine aw_sub (L' := [(1, .int v_1)]) [0] rfl ?_
    exact w_X7_takeSign_J27 (x1 := v_1) (s0 := 1) (s1 := mI m 12) (m := m) hG h hK
  · replace h := it_n hc h
    refine aw_iload_n hG 0 rfl dX7_takeSign_16 rfl ?_
    refine aw_bipush (v := 45) hG dX7_takeSign_17 rfl ?_
    refine aw_icmp_ne (t := 26) hG dX7_takeSign_19 rfl (fun hc => ?_) (fun hc => ?_)
    · replace h := it_n hc h
      refine aw_iconst (v := 0) hG dX7_takeSign_26 rfl ?_
      refine aw_sub (L' := [(1, .int v_1)]) [0] rfl ?_
      exact w_X7_takeSign_J27 (x1 := v_1) (s0 := 0) (s1 := mI m 12) (m := m) hG h hK
    · replace h := it_p hc h
      refine aw_iconst (v := 1) hG dX7_takeSign_22 rfl ?_
      refine aw_goto (t := 27) hG dX7_takeSign_23 rfl ?_
      refine aw_sub (L' := [(1, .int v_1)]) [0] rfl ?_
      exact w_X7_takeSign_J27 (x1 := v_1) (s0 := 1) (s1 := mI m 12) (m := m) hG h hK
theorem c_X7_takeSign {c : CS} {m : MS} {z : Nat → Int64}  {s : Int32 × MS}  (h : f_X7_takeSign m = some s) : Ct yX7_takeSign cX7_takeSign 2 (some .boolean) 2 (fun w => [.ref (wad w 17)]) (c, m, z) (fun _ => some (.int s.1)) (c, s.2, z) := Ct_ofZ (by decide +kernel) (fun _ => Nat.le_of_ble_eq_true rfl) (fun g hG hK => w_X7_takeSign hG h hK)
def f_X7_takeFigures_J85 (x1 : Int32) (x2 : Int32) (x3 : Int32) (m : MS) : Option ((Int32 × Int32 × MS) ⊕ ((Int32 × MS))) :=
  lt (smI m 12 ((mI m 12) + 1)) fun m_9 =>
  some (.inl (x2, x3, m_9))
set_option maxRecDepth 20000 in
theorem w_X7_takeFigures_J85 {g : Cx} {mc ms : Nat} {c : CS} {m : MS} {z : Nat → Int64} {x1 : Int32} {x2 : Int32} {x3 : Int32} {s : ((Int32 × Int32 × MS) ⊕ ((Int32 × MS)))}  (hG : Gd g RX7 cX7_takeFigures 4 3 mc ms) (h : f_X7_takeFigures_J85 x1 x2 x3 m = some s) (hK : Sum.elim (fun a => AW g 9 [(0, .ref (wad (cxw g) 17)), (1, .int x1), (2, .int a.1), (3, .int a.2.1)] [] (c, a.2.2, z) 0 0) (fun e => AW g 98 [(0, .ref (wad (cxw g) 17)), (3, .int e.1)] [] (c, e.2, z) 0 0) s) : AW g 85 [(0, .ref (wad (cxw g) 17)), (1, .int x1), (2, .int x2), (3, .int x3)] [] (c, m, z) 0 0 := by
  unfold f_X7_takeFigures_J85 at h
  refine aw_aload_n hG 0 rfl dX7_takeFigures_85 rfl ?_
  refine aw_dup hG dX7_takeFigures_86 rfl ?_
  refine gt_m_at hG l_728 dX7_takeFigures_87 ?_
  refine aw_iconst (v := 1) hG dX7_takeFigures_90 rfl ?_
  refine aw_iadd hG dX7_takeFigures_91 ?_
  refine pt_m_at hG l_728 dX7_takeFigures_92 ?_
  refine aw_stm (fun m_9 hm_9 => ?_)
  replace h := lt_r hm_9 h
  refine aw_goto (t := 9) hG dX7_takeFigures_95 rfl ?_
  obtain rfl := Option.some.inj h
  exact hK
def f_X7_takeFigures_J33 (x1 : Int32) (x2 : Int32) (x3 : Int32) (m : MS) : Option ((Int32 × Int32 × MS) ⊕ ((Int32 × MS))) :=
  Option.bind (f_X7_peek m) fun v_3 =>
  if v_3 = 46 then
    f_X7_takeFigures_J85 x1 1 x3 m
  else
    Option.bind (f_X7_peek m) fun v_4 =>
    if vI (mI m 10) (mLen 7) then
      lt (smA m 7 (upd (mA m 7) (mI m 10).toNatClampNeg (f_X7_figure v_4))) fun m_6 =>
      lt (smI m_6 10 ((mI m_6 10) + 1)) fun m_7 =>
      if x2 = 0 then
        lt (x3 + 0) fun x3_8 =>
        f_X7_takeFigures_J85 x1 x2 x3_8 m_7
      else
        lt (x3 + 1) fun x3_10 =>
        f_X7_takeFigures_J85 x1 x2 x3_10 m_7
    else none
set_option maxRecDepth 20000 in
theorem w_X7_takeFigures_J33 {g : Cx} {mc ms : Nat} {c : CS} {m : MS} {z : Nat → Int64} {x1 : Int32} {x2 : Int32} {x3 : Int32} {s : ((Int32 × Int32 × MS) ⊕ ((Int32 × MS)))}  (hG : Gd g RX7 cX7_takeFigures 4 3 mc ms) (h : f_X7_takeFigures_J33 x1 x2 x3 m = some s) (hK : Sum.elim (fun a => AW g 9 [(0, .ref (wad (cxw g) 17)), (1, .int x1), (2, .int a.1), (3, .int a.2.1)] [] (c, a.2.2, z) 0 0) (fun e => AW g 98 [(0, .ref (wad (cxw g) 17)), (3, .int e.1)] [] (c, e.2, z) 0 0) s) : AW g 33 [(0, .ref (wad (cxw g) 17)), (1, .int x1), (2, .int x2), (3, .int x3)] [] (c, m, z) 0 0 := by
  unfold f_X7_takeFigures_J33 at h
  refine aw_aload_n hG 0 rfl dX7_takeFigures_33 rfl ?_
  obtain ⟨v_3, hv_3, h⟩ := bd_o h
  refine aw_callVi (As := []) (rest := []) hG (c_X7_peek (m := m)  hv_3) l_734 wv_X7_peek (rv_X7 hG) rfl rfl rfl (by decide) (Nat.zero_le _) (Nat.zero_le _) (Nat.le_of_ble_eq_true rfl) dX7_takeFigures_34 ?_
  refine aw_bipush (v := 46) hG dX7_takeFigures_37 rfl ?_
  refine aw_icmp_ne (t := 47) hG dX7_takeFigures_39 rfl (fun hc => ?_) (fun hc => ?_)
  · replace h := it_n hc h
    refine aw_aload_n hG 0 rfl dX7_takeFigures_47 rfl ?_
    refine gt_m_row hG l_699 dX7_takeFigures_48 ?_
    refine aw_aload_n hG 0 rfl dX7_takeFigures_51 rfl ?_
    refine gt_m_rowMany hG l_698 dX7_takeFigures_52 ?_
    refine aw_aload_n hG 0 rfl dX7_takeFigures_55 rfl ?_
    obtain ⟨v_4, hv_4, h⟩ := bd_o h
    refine aw_callVi (As := []) (rest := [.int (mI m 10), .ref (wad (cxw g) (18 + 7))]) hG (c_X7_peek (m := m)  hv_4) l_734 wv_X7_peek (rv_X7 hG) rfl rfl rfl (by decide) (Nat.zero_le _) (Nat.zero_le _) (Nat.le_of_ble_eq_true rfl) dX7_takeFigures_56 ?_
    refine aw_callSi (As := [.int v_4]) (rest := [.int (mI m 10), .ref (wad (cxw g) (18 + 7))]) hG (c_X7_figure (x0 := v_4) (m := m) ) l_741 ws_X7_figure rfl rfl rfl (by decide) (Nat.zero_le _) (Nat.zero_le _) (Nat.le_of_ble_eq_true rfl) dX7_takeFigures_59 ?_
    obtain ⟨hi_5, h⟩ := it_o h
    refine as_mA hG (by decide) hi_5 dX7_takeFigures_62 ?_
    refine aw_stm (fun m_6 hm_6 => ?_)
    replace h := lt_r hm_6 h
    refine aw_aload_n hG 0 rfl dX7_takeFigures_63 rfl ?_
    refine aw_dup hG dX7_takeFigures_64 rfl ?_
    refine gt_m_rowMany hG l_698 dX7_takeFigures_65 ?_
    refine aw_iconst (v := 1) hG dX7_takeFigures_68 rfl ?_
    refine aw_iadd hG dX7_takeFigures_69 ?_
    refine pt_m_rowMany hG l_698 dX7_takeFigures_70 ?_
    refine aw_stm (fun m_7 hm_7 => ?_)
    replace h := lt_r hm_7 h
    refine aw_iload_n hG 3 rfl dX7_takeFigures_73 rfl ?_
    refine aw_iload_n hG 2 rfl dX7_takeFigures_74 rfl ?_
    refine aw_if_eq (t := 82) hG dX7_takeFigures_75 rfl (fun hc => ?_) (fun hc => ?_)
    · replace h := it_p hc h
      refine aw_iconst (v := 0) hG dX7_takeFigures_82 rfl ?_
      refine aw_iadd hG dX7_takeFigures_83 ?_
      refine aw_topi (fun x3_8 hx3_8 => ?_)
      replace h := lt_r hx3_8 h
      refine aw_istore_n (L' := [(3, .int x3_8), (0, .ref (wad (cxw g) 17)), (1, .int x1), (2, .int x2)]) hG dX7_takeFigures_84 rfl (by decide) rfl ?_
      refine aw_sub (L' := [(0, .ref (wad (cxw g) 17)), (1, .int x1), (2, .int x2), (3, .int x3_8)]) [1, 2, 3, 0] rfl ?_
      exact w_X7_takeFigures_J85 (x1 := x1) (x2 := x2) (x3 := x3_8) (m := m_7) hG h hK
    · replace h := it_n hc h
      refine aw_iconst (v := 1) hG dX7_takeFigures_78 rfl ?_
      refine aw_goto (t := 83) hG dX7_takeFigures_79 rfl ?_
      refine aw_iadd hG dX7_takeFigures_83 ?_
      refine aw_topi (fun x3_10 hx3_10 => ?_)
      replace h := lt_r hx3_10 h
      refine aw_istore_n (L' := [(3, .int x3_10), (0, .ref (wad (cxw g) 17)), (1, .int x1), (2, .int x2)]) hG dX7_takeFigures_84 rfl (by decide) rfl ?_
      refine aw_sub (L' := [(0, .ref (wad (cxw g) 17)), (1, .int x1), (2, .int x2), (3, .int x3_10)]) [1, 2, 3, 0] rfl ?_
      exact w_X7_takeFigures_J85 (x1 := x1) (x2 := x2) (x3 := x3_10) (m := m_7) hG h hK
  · replace h := it_p hc h
    refine aw_iconst (v := 1) hG dX7_takeFigures_42 rfl ?_
    refine aw_istore_n (L' := [(2, .int 1), (0, .ref (wad (cxw g) 17)), (1, .int x1), (3, .int x3)]) hG dX7_takeFigures_43 rfl (by decide) rfl ?_
    refine aw_goto (t := 85) hG dX7_takeFigures_44 rfl ?_
    refine aw_sub (L' := [(0, .ref (wad (cxw g) 17)), (1, .int x1), (2, .int 1), (3, .int x3)]) [1, 2, 0, 3] rfl ?_
    exact w_X7_takeFigures_J85 (x1 := x1) (x2 := 1) (x3 := x3) (m := m) hG h hK
def f_X7_takeFigures_L9 (x1 : Int32) (x2 : Int32) (x3 : Int32) (m : MS) : Option ((Int32 × Int32 × MS) ⊕ ((Int32 × MS))) :=
  Option.bind (f_X7_peek m) fun v_2 =>
  if (f_X7_figure v_2) < x1 then
    f_X7_takeFigures_J33 x1 x2 x3 m
  else
    Option.bind (f_X7_peek m) fun v_13 =>
    if v_13 = 46 then
      if x2 = 0 then
        f_X7_takeFigures_J33 x1 x2 x3 m
      else
        some (.inr (x3, m))
    else
      some (.inr (x3, m))
set_option maxRecDepth 20000 in
theorem w_X7_takeFigures_L9 {g : Cx} {mc ms : Nat} {c : CS} {m : MS} {z : Nat → Int64} {x1 : Int32} {x2 : Int32} {x3 : Int32} {s : ((Int32 × Int32 × MS) ⊕ ((Int32 × MS)))}  (hG : Gd g RX7 cX7_takeFigures 4 3 mc ms) (h : f_X7_takeFigures_L9 x1 x2 x3 m = some s) (hK : Sum.elim (fun a => AW g 9 [(0, .ref (wad (cxw g) 17)), (1, .int x1), (2, .int a.1), (3, .int a.2.1)] [] (c, a.2.2, z) 0 0) (fun e => AW g 98 [(0, .ref (wad (cxw g) 17)), (3, .int e.1)] [] (c, e.2, z) 0 0) s) : AW g 9 [(0, .ref (wad (cxw g) 17)), (1, .int x1), (2, .int x2), (3, .int x3)] [] (c, m, z) 0 0 := by
  unfold f_X7_takeFigures_L9 at h
  refine aw_aload_n hG 0 rfl dX7_takeFigures_9 rfl ?_
  obtain ⟨v_2, hv_2, h⟩ := bd_o h
  refine aw_callVi (As := []) (rest := []) hG (c_X7_peek (m := m)  hv_2) l_734 wv_X7_peek (rv_X7 hG) rfl rfl rfl (by decide) (Nat.zero_le _) (Nat.zero_le _) (Nat.le_of_ble_eq_true rfl) dX7_takeFigures_10 ?_
  refine aw_callSi (As := [.int v_2]) (rest := []) hG (c_X7_figure (x0 := v_2) (m := m) ) l_741 ws_X7_figure rfl rfl rfl (by decide) (Nat.zero_le _) (Nat.zero_le _) (Nat.le_of_ble_eq_true rfl) dX7_takeFigures_13 ?_
  refine aw_iload_n hG 1 rfl dX7_takeFigures_16 rfl ?_
  refine aw_icmp_lt (t := 33) hG dX7_takeFigures_17 rfl (fun hc => ?_) (fun hc => ?_)
  · replace h := it_p hc h
    exact w_X7_takeFigures_J33 (x1 := x1) (x2 := x2) (x3 := x3) (m := m) hG h hK
  · replace h := it_n hc h
    refine aw_aload_n hG 0 rfl dX7_takeFigures_20 rfl ?_
    obtain ⟨v_13, hv_13, h⟩ := bd_o h
    refine aw_callVi (As := []) (rest := []) hG (c_X7_peek (m := m)  hv_13) l_734 wv_X7_peek (rv_X7 hG) rfl rfl rfl (by decide) (Nat.zero_le _) (Nat.zero_le _) (Nat.le_of_ble_eq_true rfl) dX7_takeFigures_21 ?_
    refine aw_bipush (v := 46) hG dX7_takeFigures_24 rfl ?_
    refine aw_icmp_ne (t := 98) hG dX7_takeFigures_26 rfl (fun hc => ?_) (fun hc => ?_)
    · replace h := it_n hc h
      obtain rfl := Option.some.inj h
      refine aw_sub (L' := [(0, .ref (wad (cxw g) 17)), (3, .int x3)]) [0, 3] rfl ?_
      exact hK
    · replace h := it_p hc h
      refine aw_iload_n hG 2 rfl dX7_takeFigures_29 rfl ?_
      refine aw_if_ne (t := 98) hG dX7_takeFigures_30 rfl (fun hc => ?_) (fun hc => ?_)
      · replace h := it_n hc h
        obtain rfl := Option.some.inj h
        refine aw_sub (L' := [(0, .ref (wad (cxw g) 17)), (3, .int x3)]) [0, 3] rfl ?_
        exact hK
      · replace h := it_p hc h
        exact w_X7_takeFigures_J33 (x1 := x1) (x2 := x2) (x3 := x3) (m := m) hG h hK
noncomputable def f_X7_takeFigures (x1 : Int32) (m : MS) : Option (Int32 × MS) :=
  lt (smI m 10 0) fun m_1 =>
  Option.bind (Lp (fun a => f_X7_takeFigures_L9 x1 a.1 a.2.1 a.2.2) (0, 0, m_1)) fun e_17 =>
  if (mI e_17.2 10) = 0 then
    lt (smI e_17.2 13 (mI e_17.2 12)) fun m_18 =>
    some ((-1), m_18)
  else
    some (e_17.1, e_17.2)
set_option maxRecDepth 20000 in
theorem w_X7_takeFigures {g : Cx} {mc ms : Nat} {c : CS} {m : MS} {z : Nat → Int64} {x1 : Int32} {s : (Int32 × MS)}  (hG : Gd g RX7 cX7_takeFigures 4 3 mc ms) (h : f_X7_takeFigures x1 m = some s) (hK : FinI g cX7_takeFigures mc ms s.1 (c, s.2, z)) : AW g 0 [(0, .ref (wad (cxw g) 17)), (1, .int x1)] [] (c, m, z) 0 0 := by
  unfold f_X7_takeFigures at h
  refine aw_iconst (v := 0) hG dX7_takeFigures_0 rfl ?_
  refine aw_istore_n (L' := [(2, .int 0), (0, .ref (wad (cxw g) 17)), (1, .int x1)]) hG dX7_takeFigures_1 rfl (by decide) rfl ?_
  refine aw_iconst (v := 0) hG dX7_takeFigures_2 rfl ?_
  refine aw_istore_n (L' := [(3, .int 0), (2, .int 0), (0, .ref (wad (cxw g) 17)), (1, .int x1)]) hG dX7_takeFigures_3 rfl (by decide) rfl ?_
  refine aw_aload_n hG 2 rfl dX7_takeFigures_4 rfl ?_
  refine aw_iconst (v := 0) hG dX7_takeFigures_5 rfl ?_
  refine pt_m_rowMany hG l_698 dX7_takeFigures_6 ?_
  refine aw_stm (fun m_1 hm_1 => ?_)
  replace h := lt_r hm_1 h
  obtain ⟨e_17, he, h⟩ := bd_o h
  refine aw_sub (L' := [(0, .ref (wad (cxw g) 17)), (1, .int x1), (2, .int 0), (3, .int 0)]) [2, 3, 1, 0] rfl ?_
  refine Lp_w (F := (fun a => f_X7_takeFigures_L9 x1 a.1 a.2.1 a.2.2)) (S := (fun a => AW g 9 [(0, .ref (wad (cxw g) 17)), (1, .int x1), (2, .int a.1), (3, .int a.2.1)] [] (c, a.2.2, z) 0 0)) (E := (fun e => AW g 98 [(0, .ref (wad (cxw g) 17)), (3, .int e.1)] [] (c, e.2, z) 0 0)) (a := (0, 0, m_1)) he (fun a s h hK => w_X7_takeFigures_L9 (x1 := x1) (x2 := a.1) (x3 := a.2.1) (m := a.2.2) hG h hK) ?_
  show AW g 98 _ _ _ 0 0
  refine aw_aload_n hG 0 rfl dX7_takeFigures_98 rfl ?_
  refine gt_m_rowMany hG l_698 dX7_takeFigures_99 ?_
  refine aw_if_ne (t := 115) hG dX7_takeFigures_102 rfl (fun hc => ?_) (fun hc => ?_)
  · replace h := it_n hc h
    refine aw_iload_n hG 1 rfl dX7_takeFigures_115 rfl ?_
    obtain rfl := Option.some.inj h
    exact FinI.z hK dX7_takeFigures_116
  · replace h := it_p hc h
    refine aw_aload_n hG 0 rfl dX7_takeFigures_105 rfl ?_
    refine aw_aload_n hG 0 rfl dX7_takeFigures_106 rfl ?_
    refine gt_m_at hG l_728 dX7_takeFigures_107 ?_
    refine pt_m_fault hG l_740 dX7_takeFigures_110 ?_
    refine aw_stm (fun m_18 hm_18 => ?_)
    replace h := lt_r hm_18 h
    refine aw_iconst (v := (-1)) hG dX7_takeFigures_113 rfl ?_
    obtain rfl := Option.some.inj h
    exact FinI.z hK dX7_takeFigures_114
theorem c_X7_takeFigures {c : CS} {m : MS} {z : Nat → Int64} {x1 : Int32} {s : Int32 × MS}  (h : f_X7_takeFigures x1 m = some s) : Ct yX7_takeFigures cX7_takeFigures 4 (some .int) 3 (fun w => [.ref (wad w 17), .int x1]) (c, m, z) (fun _ => some (.int s.1)) (c, s.2, z) := Ct_ofI (by decide +kernel) (fun _ => Nat.le_of_ble_eq_true rfl) (fun g hG hK => w_X7_takeFigures hG h hK)
def f_X7_takeExponent_J123 (x2 : Int32) (m : MS) : Option (Int32 × MS) :=
  if (mI m 13) = (-1) then
    if (mI m 1) ≤ (mI m 12) then
      lt (smI m 13 (mI m 13)) fun m_3 =>
      some (x2, m_3)
    else
      lt (smI m 13 (mI m 12)) fun m_4 =>
      some (x2, m_4)
  else
    lt (smI m 13 (mI m 13)) fun m_2 =>
    some (x2, m_2)
set_option maxRecDepth 20000 in
theorem w_X7_takeExponent_J123 {g : Cx} {mc ms : Nat} {c : CS} {m : MS} {z : Nat → Int64} {x2 : Int32} {s : (Int32 × MS)}  (hG : Gd g RX7 cX7_takeExponent 5 3 mc ms) (h : f_X7_takeExponent_J123 x2 m = some s) (hK : FinI g cX7_takeExponent mc ms s.1 (c, s.2, z)) : AW g 123 [(0, .ref (wad (cxw g) 17)), (2, .int x2)] [] (c, m, z) 0 0 := by
  unfold f_X7_takeExponent_J123 at h
  refine aw_aload_n hG 0 rfl dX7_takeExponent_123 rfl ?_
  refine aw_aload_n hG 0 rfl dX7_takeExponent_124 rfl ?_
  refine gt_m_fault hG l_740 dX7_takeExponent_125 ?_
  refine aw_iconst (v := (-1)) hG dX7_takeExponent_128 rfl ?_
  refine aw_icmp_ne (t := 150) hG dX7_takeExponent_129 rfl (fun hc => ?_) (fun hc => ?_)
  · replace h := it_n hc h
    refine aw_aload_n hG 0 rfl dX7_takeExponent_150 rfl ?_
    refine gt_m_fault hG l_740 dX7_takeExponent_151 ?_
    refine pt_m_fault hG l_740 dX7_takeExponent_154 ?_
    refine aw_stm (fun m_2 hm_2 => ?_)
    replace h := lt_r hm_2 h
    refine aw_iload_n hG 1 rfl dX7_takeExponent_157 rfl ?_
    obtain rfl := Option.some.inj h
    exact FinI.z hK dX7_takeExponent_158
  · replace h := it_p hc h
    refine aw_aload_n hG 0 rfl dX7_takeExponent_132 rfl ?_
    refine gt_m_at hG l_728 dX7_takeExponent_133 ?_
    refine aw_aload_n hG 0 rfl dX7_takeExponent_136 rfl ?_
    refine gt_m_size hG l_723 dX7_takeExponent_137 ?_
    refine aw_icmp_ge (t := 150) hG dX7_takeExponent_140 rfl (fun hc => ?_) (fun hc => ?_)
    · replace h := it_p hc h
      refine aw_aload_n hG 0 rfl dX7_takeExponent_150 rfl ?_
      refine gt_m_fault hG l_740 dX7_takeExponent_151 ?_
      refine pt_m_fault hG l_740 dX7_takeExponent_154 ?_
      refine aw_stm (fun m_3 hm_3 => ?_)
      replace h := lt_r hm_3 h
      refine aw_iload_n hG 1 rfl dX7_takeExponent_157 rfl ?_
      obtain rfl := Option.some.inj h
      exact FinI.z hK dX7_takeExponent_158
    · replace h := it_n hc h
      refine aw_aload_n hG 0 rfl dX7_takeExponent_143 rfl ?_
      refine gt_m_at hG l_728 dX7_takeExponent_144 ?_
      refine aw_goto (t := 154) hG dX7_takeExponent_147 rfl ?_
      refine pt_m_fault hG l_740 dX7_takeExponent_154 ?_
      refine aw_stm (fun m_4 hm_4 => ?_)
      replace h := lt_r hm_4 h
      refine aw_iload_n hG 1 rfl dX7_takeExponent_157 rfl ?_
      obtain rfl := Option.some.inj h
      exact FinI.z hK dX7_takeExponent_158
def f_X7_takeExponent_J74 (x3 : Int32) (x4 : Int32) (s0 : Int32) (m : MS) : Option ((Int32 × MS) ⊕ ((Int32 × MS))) :=
  lt (smI m 12 ((mI m 12) + 1)) fun m_12 =>
  some (.inl (s0, m_12))
set_option maxRecDepth 20000 in
theorem w_X7_takeExponent_J74 {g : Cx} {mc ms : Nat} {c : CS} {m : MS} {z : Nat → Int64} {x3 : Int32} {x4 : Int32} {s0 : Int32} {s : ((Int32 × MS) ⊕ ((Int32 × MS)))}  (hG : Gd g RX7 cX7_takeExponent 5 3 mc ms) (h : f_X7_takeExponent_J74 x3 x4 s0 m = some s) (hK : Sum.elim (fun a => AW g 34 [(0, .ref (wad (cxw g) 17)), (2, .int a.1), (3, .int x3), (4, .int x4)] [] (c, a.2, z) 0 0) (fun e => AW g 88 [(0, .ref (wad (cxw g) 17)), (2, .int e.1), (3, .int x3), (4, .int x4)] [] (c, e.2, z) 0 0) s) : AW g 74 [(0, .ref (wad (cxw g) 17)), (3, .int x3), (4, .int x4)] [.int s0] (c, m, z) 0 0 := by
  unfold f_X7_takeExponent_J74 at h
  refine aw_istore_n (L' := [(2, .int s0), (0, .ref (wad (cxw g) 17)), (3, .int x3), (4, .int x4)]) hG dX7_takeExponent_74 rfl (by decide) rfl ?_
  refine aw_aload_n hG 1 rfl dX7_takeExponent_75 rfl ?_
  refine aw_dup hG dX7_takeExponent_76 rfl ?_
  refine gt_m_at hG l_728 dX7_takeExponent_77 ?_
  refine aw_iconst (v := 1) hG dX7_takeExponent_80 rfl ?_
  refine aw_iadd hG dX7_takeExponent_81 ?_
  refine pt_m_at hG l_728 dX7_takeExponent_82 ?_
  refine aw_stm (fun m_12 hm_12 => ?_)
  replace h := lt_r hm_12 h
  refine aw_goto (t := 34) hG dX7_takeExponent_85 rfl ?_
  obtain rfl := Option.some.inj h
  refine aw_sub (L' := [(0, .ref (wad (cxw g) 17)), (2, .int s0), (3, .int x3), (4, .int x4)]) [1, 0, 2, 3] rfl ?_
  exact hK
def f_X7_takeExponent_L34 (x2 : Int32) (x3 : Int32) (x4 : Int32) (m : MS) : Option ((Int32 × MS) ⊕ ((Int32 × MS))) :=
  Option.bind (f_X7_peek m) fun v_10 =>
  if v_10 < 48 then
    some (.inr (x2, m))
  else
    Option.bind (f_X7_peek m) fun v_11 =>
    if 57 < v_11 then
      some (.inr (x2, m))
    else
      if 10000000 ≤ x2 then
        f_X7_takeExponent_J74 x3 x4 x2 m
      else
        Option.bind (f_X7_peek m) fun v_13 =>
        f_X7_takeExponent_J74 x3 x4 (((10 * x2) + v_13) - 48) m
set_option maxRecDepth 20000 in
theorem w_X7_takeExponent_L34 {g : Cx} {mc ms : Nat} {c : CS} {m : MS} {z : Nat → Int64} {x2 : Int32} {x3 : Int32} {x4 : Int32} {s : ((Int32 × MS) ⊕ ((Int32 × MS)))}  (hG : Gd g RX7 cX7_takeExponent 5 3 mc ms) (h : f_X7_takeExponent_L34 x2 x3 x4 m = some s) (hK : Sum.elim (fun a => AW g 34 [(0, .ref (wad (cxw g) 17)), (2, .int a.1), (3, .int x3), (4, .int x4)] [] (c, a.2, z) 0 0) (fun e => AW g 88 [(0, .ref (wad (cxw g) 17)), (2, .int e.1), (3, .int x3), (4, .int x4)] [] (c, e.2, z) 0 0) s) : AW g 34 [(0, .ref (wad (cxw g) 17)), (2, .int x2), (3, .int x3), (4, .int x4)] [] (c, m, z) 0 0 := by
  unfold f_X7_takeExponent_L34 at h
  refine aw_aload_n hG 0 rfl dX7_takeExponent_34 rfl ?_
  obtain ⟨v_10, hv_10, h⟩ := bd_o h
  refine aw_callVi (As := []) (rest := []) hG (c_X7_peek (m := m)  hv_10) l_734 wv_X7_peek (rv_X7 hG) rfl rfl rfl (by decide) (Nat.zero_le _) (Nat.zero_le _) (Nat.le_of_ble_eq_true rfl) dX7_takeExponent_35 ?_
  refine aw_bipush (v := 48) hG dX7_takeExponent_38 rfl ?_
  refine aw_icmp_lt (t := 88) hG dX7_takeExponent_40 rfl (fun hc => ?_) (fun hc => ?_)
  · replace h := it_p hc h
    obtain rfl := Option.some.inj h
    exact hK
  · replace h := it_n hc h
    refine aw_aload_n hG 0 rfl dX7_takeExponent_43 rfl ?_
    obtain ⟨v_11, hv_11, h⟩ := bd_o h
    refine aw_callVi (As := []) (rest := []) hG (c_X7_peek (m := m)  hv_11) l_734 wv_X7_peek (rv_X7 hG) rfl rfl rfl (by decide) (Nat.zero_le _) (Nat.zero_le _) (Nat.le_of_ble_eq_true rfl) dX7_takeExponent_44 ?_
    refine aw_bipush (v := 57) hG dX7_takeExponent_47 rfl ?_
    refine aw_icmp_gt (t := 88) hG dX7_takeExponent_49 rfl (fun hc => ?_) (fun hc => ?_)
    · replace h := it_p hc h
      obtain rfl := Option.some.inj h
      exact hK
    · replace h := it_n hc h
      refine aw_iload_n hG 1 rfl dX7_takeExponent_52 rfl ?_
      refine aw_ldc hG l_750 dX7_takeExponent_53 ?_
      refine aw_icmp_ge (t := 73) hG dX7_takeExponent_55 rfl (fun hc => ?_) (fun hc => ?_)
      · replace h := it_p hc h
        refine aw_iload_n hG 1 rfl dX7_takeExponent_73 rfl ?_
        refine aw_sub (L' := [(0, .ref (wad (cxw g) 17)), (3, .int x3), (4, .int x4)]) [0, 2, 3] rfl ?_
        exact w_X7_takeExponent_J74 (x3 := x3) (x4 := x4) (s0 := x2) (m := m) hG h hK
      · replace h := it_n hc h
        refine aw_bipush (v := 10) hG dX7_takeExponent_58 rfl ?_
        refine aw_iload_n hG 1 rfl dX7_takeExponent_60 rfl ?_
        refine aw_imul hG dX7_takeExponent_61 ?_
        refine aw_aload_n hG 0 rfl dX7_takeExponent_62 rfl ?_
        obtain ⟨v_13, hv_13, h⟩ := bd_o h
        refine aw_callVi (As := []) (rest := [.int (10 * x2)]) hG (c_X7_peek (m := m)  hv_13) l_734 wv_X7_peek (rv_X7 hG) rfl rfl rfl (by decide) (Nat.zero_le _) (Nat.zero_le _) (Nat.le_of_ble_eq_true rfl) dX7_takeExponent_63 ?_
        refine aw_iadd hG dX7_takeExponent_66 ?_
        refine aw_bipush (v := 48) hG dX7_takeExponent_67 rfl ?_
        refine aw_isub hG dX7_takeExponent_69 ?_
        refine aw_goto (t := 74) hG dX7_takeExponent_70 rfl ?_
        refine aw_sub (L' := [(0, .ref (wad (cxw g) 17)), (3, .int x3), (4, .int x4)]) [0, 2, 3] rfl ?_
        exact w_X7_takeExponent_J74 (x3 := x3) (x4 := x4) (s0 := ((10 * x2) + v_13) - 48) (m := m) hG h hK
def f_X7_takeExponent_J109 (x2 : Int32) (x3 : Int32) (s0 : Int32) (m : MS) : Option (Int32 × MS) :=
  lt (smI m 13 s0) fun m_18 =>
  if x3 = 0 then
    f_X7_takeExponent_J123 x2 m_18
  else
    lt (-x2) fun x2_19 =>
    f_X7_takeExponent_J123 x2_19 m_18
set_option maxRecDepth 20000 in
theorem w_X7_takeExponent_J109 {g : Cx} {mc ms : Nat} {c : CS} {m : MS} {z : Nat → Int64} {x2 : Int32} {x3 : Int32} {s0 : Int32} {s : (Int32 × MS)}  (hG : Gd g RX7 cX7_takeExponent 5 3 mc ms) (h : f_X7_takeExponent_J109 x2 x3 s0 m = some s) (hK : FinI g cX7_takeExponent mc ms s.1 (c, s.2, z)) : AW g 109 [(0, .ref (wad (cxw g) 17)), (2, .int x2), (3, .int x3)] [.int s0, .ref (wad (cxw g) 17)] (c, m, z) 0 0 := by
  unfold f_X7_takeExponent_J109 at h
  refine pt_m_fault hG l_740 dX7_takeExponent_109 ?_
  refine aw_stm (fun m_18 hm_18 => ?_)
  replace h := lt_r hm_18 h
  refine aw_iload_n hG 2 rfl dX7_takeExponent_112 rfl ?_
  refine aw_if_eq (t := 121) hG dX7_takeExponent_113 rfl (fun hc => ?_) (fun hc => ?_)
  · replace h := it_p hc h
    refine aw_iload_n hG 1 rfl dX7_takeExponent_121 rfl ?_
    refine aw_istore_n (L' := [(2, .int x2), (0, .ref (wad (cxw g) 17)), (3, .int x3)]) hG dX7_takeExponent_122 rfl (by decide) rfl ?_
    refine aw_sub (L' := [(0, .ref (wad (cxw g) 17)), (2, .int x2)]) [1, 0] rfl ?_
    exact w_X7_takeExponent_J123 (x2 := x2) (m := m_18) hG h hK
  · replace h := it_n hc h
    refine aw_iload_n hG 1 rfl dX7_takeExponent_116 rfl ?_
    refine aw_ineg hG dX7_takeExponent_117 ?_
    refine aw_goto (t := 122) hG dX7_takeExponent_118 rfl ?_
    refine aw_topi (fun x2_19 hx2_19 => ?_)
    replace h := lt_r hx2_19 h
    refine aw_istore_n (L' := [(2, .int x2_19), (0, .ref (wad (cxw g) 17)), (3, .int x3)]) hG dX7_takeExponent_122 rfl (by decide) rfl ?_
    refine aw_sub (L' := [(0, .ref (wad (cxw g) 17)), (2, .int x2_19)]) [1, 0] rfl ?_
    exact w_X7_takeExponent_J123 (x2 := x2_19) (m := m_18) hG h hK
noncomputable def f_X7_takeExponent (x1 : Int32) (m : MS) : Option (Int32 × MS) :=
  Option.bind (f_X7_peek m) fun v_1 =>
  if (f_X7_small v_1) = x1 then
    lt (smI m 12 ((mI m 12) + 1)) fun m_7 =>
    Option.bind (f_X7_takeSign m_7) fun v_8 =>
    lt (mI v_8.2 12) fun x4_9 =>
    Option.bind (Lp (fun a => f_X7_takeExponent_L34 a.1 v_8.1 x4_9 a.2) (0, v_8.2)) fun e_17 =>
    if (mI e_17.2 12) = x4_9 then
      f_X7_takeExponent_J109 e_17.1 v_8.1 (mI e_17.2 12) e_17.2
    else
      f_X7_takeExponent_J109 e_17.1 v_8.1 (mI e_17.2 13) e_17.2
  else
    f_X7_takeExponent_J123 0 m
set_option maxRecDepth 20000 in
theorem w_X7_takeExponent {g : Cx} {mc ms : Nat} {c : CS} {m : MS} {z : Nat → Int64} {x1 : Int32} {s : (Int32 × MS)}  (hG : Gd g RX7 cX7_takeExponent 5 3 mc ms) (h : f_X7_takeExponent x1 m = some s) (hK : FinI g cX7_takeExponent mc ms s.1 (c, s.2, z)) : AW g 0 [(0, .ref (wad (cxw g) 17)), (1, .int x1)] [] (c, m, z) 0 0 := by
  unfold f_X7_takeExponent at h
  refine aw_iconst (v := 0) hG dX7_takeExponent_0 rfl ?_
  refine aw_istore_n (L' := [(2, .int 0), (0, .ref (wad (cxw g) 17)), (1, .int x1)]) hG dX7_takeExponent_1 rfl (by decide) rfl ?_
  refine aw_aload_n hG 1 rfl dX7_takeExponent_2 rfl ?_
  obtain ⟨v_1, hv_1, h⟩ := bd_o h
  refine aw_callVi (As := []) (rest := []) hG (c_X7_peek (m := m)  hv_1) l_734 wv_X7_peek (rv_X7 hG) rfl rfl rfl (by decide) (Nat.zero_le _) (Nat.zero_le _) (Nat.le_of_ble_eq_true rfl) dX7_takeExponent_3 ?_
  refine aw_callSi (As := [.int v_1]) (rest := []) hG (c_X7_small (x0 := v_1) (m := m) ) l_729 ws_X7_small rfl rfl rfl (by decide) (Nat.zero_le _) (Nat.zero_le _) (Nat.le_of_ble_eq_true rfl) dX7_takeExponent_6 ?_
  refine aw_iload_n hG 2 rfl dX7_takeExponent_9 rfl ?_
  refine aw_icmp_ne (t := 123) hG dX7_takeExponent_10 rfl (fun hc => ?_) (fun hc => ?_)
  · replace h := it_n hc h
    refine aw_sub (L' := [(0, .ref (wad (cxw g) 17)), (2, .int 0)]) [1, 0] rfl ?_
    exact w_X7_takeExponent_J123 (x2 := 0) (m := m) hG h hK
  · replace h := it_p hc h
    refine aw_aload_n hG 1 rfl dX7_takeExponent_13 rfl ?_
    refine aw_dup hG dX7_takeExponent_14 rfl ?_
    refine gt_m_at hG l_728 dX7_takeExponent_15 ?_
    refine aw_iconst (v := 1) hG dX7_takeExponent_18 rfl ?_
    refine aw_iadd hG dX7_takeExponent_19 ?_
    refine pt_m_at hG l_728 dX7_takeExponent_20 ?_
    refine aw_stm (fun m_7 hm_7 => ?_)
    replace h := lt_r hm_7 h
    refine aw_aload_n hG 1 rfl dX7_takeExponent_23 rfl ?_
    obtain ⟨v_8, hv_8, h⟩ := bd_o h
    refine aw_callVi (As := []) (rest := []) hG (c_X7_takeSign (m := m_7)  hv_8) l_745 wv_X7_takeSign (rv_X7 hG) rfl rfl rfl (by decide) (Nat.zero_le _) (Nat.zero_le _) (Nat.le_of_ble_eq_true rfl) dX7_takeExponent_24 ?_
    refine aw_istore_n (L' := [(3, .int v_8.1), (2, .int 0), (0, .ref (wad (cxw g) 17)), (1, .int x1)]) hG dX7_takeExponent_27 rfl (by decide) rfl ?_
    refine aw_aload_n hG 2 rfl dX7_takeExponent_28 rfl ?_
    refine gt_m_at hG l_728 dX7_takeExponent_29 ?_
    refine aw_topi (fun x4_9 hx4_9 => ?_)
    replace h := lt_r hx4_9 h
    refine aw_istore (L' := [(4, .int x4_9), (3, .int v_8.1), (2, .int 0), (0, .ref (wad (cxw g) 17)), (1, .int x1)]) hG dX7_takeExponent_32 (by decide) rfl ?_
    obtain ⟨e_17, he, h⟩ := bd_o h
    refine aw_sub (L' := [(0, .ref (wad (cxw g) 17)), (2, .int 0), (3, .int v_8.1), (4, .int x4_9)]) [3, 2, 1, 0] rfl ?_
    refine Lp_w (F := (fun a => f_X7_takeExponent_L34 a.1 v_8.1 x4_9 a.2)) (S := (fun a => AW g 34 [(0, .ref (wad (cxw g) 17)), (2, .int a.1), (3, .int v_8.1), (4, .int x4_9)] [] (c, a.2, z) 0 0)) (E := (fun e => AW g 88 [(0, .ref (wad (cxw g) 17)), (2, .int e.1), (3, .int v_8.1), (4, .int x4_9)] [] (c, e.2, z) 0 0)) (a := (0, v_8.2)) he (fun a s h hK => w_X7_takeExponent_L34 (x2 := a.1) (x3 := v_8.1) (x4 := x4_9) (m := a.2) hG h hK) ?_
    show AW g 88 _ _ _ 0 0
    refine aw_aload_n hG 0 rfl dX7_takeExponent_88 rfl ?_
    refine aw_aload_n hG 0 rfl dX7_takeExponent_89 rfl ?_
    refine gt_m_at hG l_728 dX7_takeExponent_90 ?_
    refine aw_iload hG 3 rfl dX7_takeExponent_93 ?_
    refine aw_icmp_ne (t := 105) hG dX7_takeExponent_95 rfl (fun hc => ?_) (fun hc => ?_)
    · replace h := it_n hc h
      refine aw_aload_n hG 0 rfl dX7_takeExponent_105 rfl ?_
      refine gt_m_fault hG l_740 dX7_takeExponent_106 ?_
      refine aw_sub (L' := [(0, .ref (wad (cxw g) 17)), (2, .int e_17.1), (3, .int v_8.1)]) [0, 1, 2] rfl ?_
      exact w_X7_takeExponent_J109 (x2 := e_17.1) (x3 := v_8.1) (s0 := mI e_17.2 13) (m := e_17.2) hG h hK
    · replace h := it_p hc h
      refine aw_aload_n hG 0 rfl dX7_takeExponent_98 rfl ?_
      refine gt_m_at hG l_728 dX7_takeExponent_99 ?_
      refine aw_goto (t := 109) hG dX7_takeExponent_102 rfl ?_
      refine aw_sub (L' := [(0, .ref (wad (cxw g) 17)), (2, .int e_17.1), (3, .int v_8.1)]) [0, 1, 2] rfl ?_
      exact w_X7_takeExponent_J109 (x2 := e_17.1) (x3 := v_8.1) (s0 := mI e_17.2 12) (m := e_17.2) hG h hK
theorem c_X7_takeExponent {c : CS} {m : MS} {z : Nat → Int64} {x1 : Int32} {s : Int32 × MS}  (h : f_X7_takeExponent x1 m = some s) : Ct yX7_takeExponent cX7_takeExponent 5 (some .int) 3 (fun w => [.ref (wad w 17), .int x1]) (c, m, z) (fun _ => some (.int s.1)) (c, s.2, z) := Ct_ofI (by decide +kernel) (fun _ => Nat.le_of_ble_eq_true rfl) (fun g hG hK => w_X7_takeExponent hG h hK)
def f_X7_readWord_J109 (m : MS) : Option MS :=
  if (mI m 13) = (-1) then
    if (mI m 1) ≤ (mI m 12) then
      lt (smI m 13 (mI m 13)) fun m_5 =>
      some m_5
    else
      lt (smI m 13 (mI m 12)) fun m_6 =>
      some m_6
  else
    lt (smI m 13 (mI m 13)) fun m_4 =>
    some m_4
set_option maxRecDepth 20000 in
theorem w_X7_readWord_J109 {g : Cx} {mc ms : Nat} {c : CS} {m : MS} {z : Nat → Int64}  {s : MS}  (hG : Gd g RX7 cX7_readWord 6 6 mc ms) (h : f_X7_readWord_J109 m = some s) (hK : FinV g cX7_readWord mc ms (c, s, z)) : AW g 109 [(0, .ref (wad (cxw g) 17))] [] (c, m, z) 0 0 := by
  unfold f_X7_readWord_J109 at h
  refine aw_aload_n hG 0 rfl dX7_readWord_109 rfl ?_
  refine aw_aload_n hG 0 rfl dX7_readWord_110 rfl ?_
  refine gt_m_fault hG l_740 dX7_readWord_111 ?_
  refine aw_iconst (v := (-1)) hG dX7_readWord_114 rfl ?_
  refine aw_icmp_ne (t := 136) hG dX7_readWord_115 rfl (fun hc => ?_) (fun hc => ?_)
  · replace h := it_n hc h
    refine aw_aload_n hG 0 rfl dX7_readWord_136 rfl ?_
    refine gt_m_fault hG l_740 dX7_readWord_137 ?_
    refine pt_m_fault hG l_740 dX7_readWord_140 ?_
    refine aw_stm (fun m_4 hm_4 => ?_)
    replace h := lt_r hm_4 h
    obtain rfl := Option.some.inj h
    exact FinV.z hK dX7_readWord_143
  · replace h := it_p hc h
    refine aw_aload_n hG 0 rfl dX7_readWord_118 rfl ?_
    refine gt_m_at hG l_728 dX7_readWord_119 ?_
    refine aw_aload_n hG 0 rfl dX7_readWord_122 rfl ?_
    refine gt_m_size hG l_723 dX7_readWord_123 ?_
    refine aw_icmp_ge (t := 136) hG dX7_readWord_126 rfl (fun hc => ?_) (fun hc => ?_)
    · replace h := it_p hc h
      refine aw_aload_n hG 0 rfl dX7_readWord_136 rfl ?_
      refine gt_m_fault hG l_740 dX7_readWord_137 ?_
      refine pt_m_fault hG l_740 dX7_readWord_140 ?_
      refine aw_stm (fun m_5 hm_5 => ?_)
      replace h := lt_r hm_5 h
      obtain rfl := Option.some.inj h
      exact FinV.z hK dX7_readWord_143
    · replace h := it_n hc h
      refine aw_aload_n hG 0 rfl dX7_readWord_129 rfl ?_
      refine gt_m_at hG l_728 dX7_readWord_130 ?_
      refine aw_goto (t := 140) hG dX7_readWord_133 rfl ?_
      refine pt_m_fault hG l_740 dX7_readWord_140 ?_
      refine aw_stm (fun m_6 hm_6 => ?_)
      replace h := lt_r hm_6 h
      obtain rfl := Option.some.inj h
      exact FinV.z hK dX7_readWord_143
noncomputable def f_X7_readWord_J12 (x1 : Int32) (s0 : Int64) (m : MS) : Option MS :=
  lt (smI m 11 0) fun m_1 =>
  Option.bind (f_X7_peek m_1) fun v_2 =>
  if (f_X7_small v_2) = 110 then
    Option.bind (f_X7_isWord 21 0 m_1) fun v_14 =>
    lt (smJ v_14.2 2 ((s0 ||| (f_X7_infinite x1)) ||| (jshl 1 ((f_X7_precision x1) - 2)))) fun m_15 =>
    f_X7_readWord_J109 m_15
  else
    Option.bind (f_X7_isWord 22 0 m_1) fun v_3 =>
    if v_3.1 = 0 then
      f_X7_readWord_J109 v_3.2
    else
      lt (smJ v_3.2 2 (s0 ||| (f_X7_infinite x1))) fun m_9 =>
      if (mI m_9 12) = (mI m_9 1) then
        f_X7_readWord_J109 m_9
      else
        Option.bind (f_X7_isWord 23 3 m_9) fun v_10 =>
        if v_10.1 = 0 then
          f_X7_readWord_J109 v_10.2
        else
          f_X7_readWord_J109 v_10.2
set_option maxRecDepth 20000 in
theorem w_X7_readWord_J12 {g : Cx} {mc ms : Nat} {c : CS} {m : MS} {z : Nat → Int64} {x1 : Int32} {s0 : Int64} {s : MS}  (hG : Gd g RX7 cX7_readWord 6 6 mc ms) (h : f_X7_readWord_J12 x1 s0 m = some s) (hK : FinV g cX7_readWord mc ms (c, s, z)) : AW g 12 [(0, .ref (wad (cxw g) 17)), (1, .int x1)] [.long s0] (c, m, z) 0 0 := by
  unfold f_X7_readWord_J12 at h
  refine aw_lstore_n (L' := [(3, .long s0), (0, .ref (wad (cxw g) 17)), (1, .int x1)]) hG dX7_readWord_12 rfl (by decide) rfl ?_
  refine aw_aload_n hG 1 rfl dX7_readWord_13 rfl ?_
  refine aw_iconst (v := 0) hG dX7_readWord_14 rfl ?_
  refine pt_m_noted hG l_679 dX7_readWord_15 ?_
  refine aw_stm (fun m_1 hm_1 => ?_)
  replace h := lt_r hm_1 h
  refine aw_aload_n hG 1 rfl dX7_readWord_18 rfl ?_
  obtain ⟨v_2, hv_2, h⟩ := bd_o h
  refine aw_callVi (As := []) (rest := []) hG (c_X7_peek (m := m_1)  hv_2) l_734 wv_X7_peek (rv_X7 hG) rfl rfl rfl (by decide) (Nat.zero_le _) (Nat.zero_le _) (Nat.le_of_ble_eq_true rfl) dX7_readWord_19 ?_
  refine aw_callSi (As := [.int v_2]) (rest := []) hG (c_X7_small (x0 := v_2) (m := m_1) ) l_729 ws_X7_small rfl rfl rfl (by decide) (Nat.zero_le _) (Nat.zero_le _) (Nat.le_of_ble_eq_true rfl) dX7_readWord_22 ?_
  refine aw_bipush (v := 110) hG dX7_readWord_25 rfl ?_
  refine aw_icmp_ne (t := 61) hG dX7_readWord_27 rfl (fun hc => ?_) (fun hc => ?_)
  · replace h := it_n hc h
    refine aw_aload_n hG 1 rfl dX7_readWord_61 rfl ?_
    refine aw_ldcS (j := 22) hG rfl dX7_readWord_62 ?_
    refine aw_iconst (v := 0) hG dX7_readWord_64 rfl ?_
    obtain ⟨v_3, hv_3, h⟩ := bd_o h
    refine aw_callVi (As := [.ref (wad (cxw g) (40 + 22)), .int 0]) (rest := []) hG (c_X7_isWord (j1 := 22) (x2 := 0) (m := m_1) (by decide) hv_3) l_751 wv_X7_isWord (rv_X7 hG) rfl rfl rfl (by decide) (Nat.zero_le _) (Nat.zero_le _) (Nat.le_of_ble_eq_true rfl) dX7_readWord_65 ?_
    refine aw_if_eq (t := 109) hG dX7_readWord_68 rfl (fun hc => ?_) (fun hc => ?_)
    · replace h := it_p hc h
      refine aw_sub (L' := [(0, .ref (wad (cxw g) 17))]) [1] rfl ?_
      exact w_X7_readWord_J109 (m := v_3.2) hG h hK
    · replace h := it_n hc h
      refine aw_aload_n hG 1 rfl dX7_readWord_71 rfl ?_
      refine aw_lload_n hG 0 rfl dX7_readWord_72 rfl ?_
      refine aw_iload_n hG 2 rfl dX7_readWord_73 rfl ?_
      refine aw_callSl (As := [.int x1]) (rest := [.long s0, .ref (wad (cxw g) 17)]) hG (c_X7_infinite (x0 := x1) (m := v_3.2) ) l_638 ws_X7_infinite rfl rfl rfl (by decide) (Nat.zero_le _) (Nat.zero_le _) (Nat.le_of_ble_eq_true rfl) dX7_readWord_74 ?_
      refine aw_lor hG dX7_readWord_77 ?_
      refine pt_m_rounded hG l_678 dX7_readWord_78 ?_
      refine aw_stm (fun m_9 hm_9 => ?_)
      replace h := lt_r hm_9 h
      refine aw_aload_n hG 1 rfl dX7_readWord_81 rfl ?_
      refine gt_m_at hG l_728 dX7_readWord_82 ?_
      refine aw_aload_n hG 1 rfl dX7_readWord_85 rfl ?_
      refine gt_m_size hG l_723 dX7_readWord_86 ?_
      refine aw_icmp_eq (t := 102) hG dX7_readWord_89 rfl (fun hc => ?_) (fun hc => ?_)
      · replace h := it_p hc h
        refine aw_iconst (v := 1) hG dX7_readWord_102 rfl ?_
        refine aw_goto (t := 107) hG dX7_readWord_103 rfl ?_
        refine aw_istore (L' := [(5, .int 1), (3, .long s0), (0, .ref (wad (cxw g) 17)), (1, .int x1)]) hG dX7_readWord_107 (by decide) rfl ?_
        refine aw_sub (L' := [(0, .ref (wad (cxw g) 17))]) [2] rfl ?_
        exact w_X7_readWord_J109 (m := m_9) hG h hK
      · replace h := it_n hc h
        refine aw_aload_n hG 1 rfl dX7_readWord_92 rfl ?_
        refine aw_ldcS (j := 23) hG rfl dX7_readWord_93 ?_
        refine aw_iconst (v := 3) hG dX7_readWord_95 rfl ?_
        obtain ⟨v_10, hv_10, h⟩ := bd_o h
        refine aw_callVi (As := [.ref (wad (cxw g) (40 + 23)), .int 3]) (rest := []) hG (c_X7_isWord (j1 := 23) (x2 := 3) (m := m_9) (by decide) hv_10) l_751 wv_X7_isWord (rv_X7 hG) rfl rfl rfl (by decide) (Nat.zero_le _) (Nat.zero_le _) (Nat.le_of_ble_eq_true rfl) dX7_readWord_96 ?_
        refine aw_if_eq (t := 106) hG dX7_readWord_99 rfl (fun hc => ?_) (fun hc => ?_)
        · replace h := it_p hc h
          refine aw_iconst (v := 0) hG dX7_readWord_106 rfl ?_
          refine aw_istore (L' := [(5, .int 0), (3, .long s0), (0, .ref (wad (cxw g) 17)), (1, .int x1)]) hG dX7_readWord_107 (by decide) rfl ?_
          refine aw_sub (L' := [(0, .ref (wad (cxw g) 17))]) [2] rfl ?_
          exact w_X7_readWord_J109 (m := v_10.2) hG h hK
        · replace h := it_n hc h
          refine aw_iconst (v := 1) hG dX7_readWord_102 rfl ?_
          refine aw_goto (t := 107) hG dX7_readWord_103 rfl ?_
          refine aw_istore (L' := [(5, .int 1), (3, .long s0), (0, .ref (wad (cxw g) 17)), (1, .int x1)]) hG dX7_readWord_107 (by decide) rfl ?_
          refine aw_sub (L' := [(0, .ref (wad (cxw g) 17))]) [2] rfl ?_
          exact w_X7_readWord_J109 (m := v_10.2) hG h hK
  · replace h := it_p hc h
    refine aw_aload_n hG 1 rfl dX7_readWord_30 rfl ?_
    refine aw_ldcS (j := 21) hG rfl dX7_readWord_31 ?_
    refine aw_iconst (v := 0) hG dX7_readWord_33 rfl ?_
    obtain ⟨v_14, hv_14, h⟩ := bd_o h
    refine aw_callVi (As := [.ref (wad (cxw g) (40 + 21)), .int 0]) (rest := []) hG (c_X7_isWord (j1 := 21) (x2 := 0) (m := m_1) (by decide) hv_14) l_751 wv_X7_isWord (rv_X7 hG) rfl rfl rfl (by decide) (Nat.zero_le _) (Nat.zero_le _) (Nat.le_of_ble_eq_true rfl) dX7_readWord_34 ?_
    refine aw_istore (L' := [(5, .int v_14.1), (3, .long s0), (0, .ref (wad (cxw g) 17)), (1, .int x1)]) hG dX7_readWord_37 (by decide) rfl ?_
    refine aw_aload_n hG 2 rfl dX7_readWord_39 rfl ?_
    refine aw_lload_n hG 1 rfl dX7_readWord_40 rfl ?_
    refine aw_iload_n hG 3 rfl dX7_readWord_41 rfl ?_
    refine aw_callSl (As := [.int x1]) (rest := [.long s0, .ref (wad (cxw g) 17)]) hG (c_X7_infinite (x0 := x1) (m := v_14.2) ) l_638 ws_X7_infinite rfl rfl rfl (by decide) (Nat.zero_le _) (Nat.zero_le _) (Nat.le_of_ble_eq_true rfl) dX7_readWord_42 ?_
    refine aw_lor hG dX7_readWord_45 ?_
    refine aw_lconst (v := 1) hG dX7_readWord_46 rfl ?_
    refine aw_iload_n hG 3 rfl dX7_readWord_47 rfl ?_
    refine aw_callSi (As := [.int x1]) (rest := [.long 1, .long (s0 ||| (f_X7_infinite x1)), .ref (wad (cxw g) 17)]) hG (c_X7_precision (x0 := x1) (m := v_14.2) ) l_616 ws_X7_precision rfl rfl rfl (by decide) (Nat.zero_le _) (Nat.zero_le _) (Nat.le_of_ble_eq_true rfl) dX7_readWord_48 ?_
    refine aw_iconst (v := 2) hG dX7_readWord_51 rfl ?_
    refine aw_isub hG dX7_readWord_52 ?_
    refine aw_lshlJ hG dX7_readWord_53 ?_
    refine aw_lor hG dX7_readWord_54 ?_
    refine pt_m_rounded hG l_678 dX7_readWord_55 ?_
    refine aw_stm (fun m_15 hm_15 => ?_)
    replace h := lt_r hm_15 h
    refine aw_goto (t := 109) hG dX7_readWord_58 rfl ?_
    refine aw_sub (L' := [(0, .ref (wad (cxw g) 17))]) [2] rfl ?_
    exact w_X7_readWord_J109 (m := m_15) hG h hK
noncomputable def f_X7_readWord (x1 : Int32) (x2 : Int32) (m : MS) : Option MS :=
  if x2 = 0 then
    f_X7_readWord_J12 x1 0 m
  else
    f_X7_readWord_J12 x1 (f_X7_signBit x1) m
set_option maxRecDepth 20000 in
theorem w_X7_readWord {g : Cx} {mc ms : Nat} {c : CS} {m : MS} {z : Nat → Int64} {x1 : Int32} {x2 : Int32} {s : MS}  (hG : Gd g RX7 cX7_readWord 6 6 mc ms) (h : f_X7_readWord x1 x2 m = some s) (hK : FinV g cX7_readWord mc ms (c, s, z)) : AW g 0 [(0, .ref (wad (cxw g) 17)), (1, .int x1), (2, .int x2)] [] (c, m, z) 0 0 := by
  unfold f_X7_readWord at h
  refine aw_iload_n hG 2 rfl dX7_readWord_0 rfl ?_
  refine aw_if_eq (t := 11) hG dX7_readWord_1 rfl (fun hc => ?_) (fun hc => ?_)
  · replace h := it_p hc h
    refine aw_lconst (v := 0) hG dX7_readWord_11 rfl ?_
    refine aw_sub (L' := [(0, .ref (wad (cxw g) 17)), (1, .int x1)]) [0, 1] rfl ?_
    exact w_X7_readWord_J12 (x1 := x1) (s0 := 0) (m := m) hG h hK
  · replace h := it_n hc h
    refine aw_iload_n hG 1 rfl dX7_readWord_4 rfl ?_
    refine aw_callSl (As := [.int x1]) (rest := []) hG (c_X7_signBit (x0 := x1) (m := m) ) l_630 ws_X7_signBit rfl rfl rfl (by decide) (Nat.zero_le _) (Nat.zero_le _) (Nat.le_of_ble_eq_true rfl) dX7_readWord_5 ?_
    refine aw_goto (t := 12) hG dX7_readWord_8 rfl ?_
    refine aw_sub (L' := [(0, .ref (wad (cxw g) 17)), (1, .int x1)]) [0, 1] rfl ?_
    exact w_X7_readWord_J12 (x1 := x1) (s0 := f_X7_signBit x1) (m := m) hG h hK
theorem c_X7_readWord {c : CS} {m : MS} {z : Nat → Int64} {x1 : Int32} {x2 : Int32} {s : MS}  (h : f_X7_readWord x1 x2 m = some s) : Ct yX7_readWord cX7_readWord 6 none 6 (fun w => [.ref (wad w 17), .int x1, .int x2]) (c, m, z) (fun _ => none) (c, s, z) := Ct_ofV (by decide +kernel) (fun _ => Nat.le_of_ble_eq_true rfl) (fun g hG hK => w_X7_readWord hG h hK)
def f_X7_read_J276 (m : MS) : Option (Int32 × MS) :=
  if (mI m 13) = (-1) then
    lt (f_X7_keep m) fun v_8 =>
    some (0, v_8)
  else
    some ((-1) - (mI m 13), m)
set_option maxRecDepth 20000 in
theorem w_X7_read_J276 {g : Cx} {mc ms : Nat} {c : CS} {m : MS} {z : Nat → Int64}  {s : (Int32 × MS)}  (hG : Gd g RX7 cX7_read 8 7 mc ms) (h : f_X7_read_J276 m = some s) (hK : FinI g cX7_read mc ms s.1 (c, s.2, z)) : AW g 276 [(0, .ref (wad (cxw g) 17))] [] (c, m, z) 0 0 := by
  unfold f_X7_read_J276 at h
  refine aw_aload_n hG 0 rfl dX7_read_276 rfl ?_
  refine gt_m_fault hG l_740 dX7_read_277 ?_
  refine aw_iconst (v := (-1)) hG dX7_read_280 rfl ?_
  refine aw_icmp_eq (t := 291) hG dX7_read_281 rfl (fun hc => ?_) (fun hc => ?_)
  · replace h := it_p hc h
    refine aw_aload_n hG 0 rfl dX7_read_291 rfl ?_
    obtain ⟨v_8, hv_8⟩ : ∃ y, y = f_X7_keep m := ⟨_, rfl⟩
    replace h := lt_r hv_8 h
    refine aw_callVv (As := []) (rest := []) hG (c_X7_keep (m := m)  hv_8.symm) l_761 wv_X7_keep (rv_X7 hG) rfl rfl rfl (by decide) (Nat.zero_le _) (Nat.zero_le _) (Nat.le_of_ble_eq_true rfl) dX7_read_292 ?_
    refine aw_iconst (v := 0) hG dX7_read_295 rfl ?_
    obtain rfl := Option.some.inj h
    exact FinI.z hK dX7_read_296
  · replace h := it_n hc h
    refine aw_iconst (v := (-1)) hG dX7_read_284 rfl ?_
    refine aw_aload_n hG 0 rfl dX7_read_285 rfl ?_
    refine gt_m_fault hG l_740 dX7_read_286 ?_
    refine aw_isub hG dX7_read_289 ?_
    obtain rfl := Option.some.inj h
    exact FinI.z hK dX7_read_290
noncomputable def f_X7_read_J76 (x1 : Int32) (x3 : Int32) (m : MS) : Option (Int32 × MS) :=
  Option.bind (f_X7_readWord x1 x3 m) fun v_7 =>
  f_X7_read_J276 v_7
set_option maxRecDepth 20000 in
theorem w_X7_read_J76 {g : Cx} {mc ms : Nat} {c : CS} {m : MS} {z : Nat → Int64} {x1 : Int32} {x3 : Int32} {s : (Int32 × MS)}  (hG : Gd g RX7 cX7_read 8 7 mc ms) (h : f_X7_read_J76 x1 x3 m = some s) (hK : FinI g cX7_read mc ms s.1 (c, s.2, z)) : AW g 76 [(0, .ref (wad (cxw g) 17)), (1, .int x1), (3, .int x3)] [] (c, m, z) 0 0 := by
  unfold f_X7_read_J76 at h
  refine aw_aload_n hG 0 rfl dX7_read_76 rfl ?_
  refine aw_iload_n hG 1 rfl dX7_read_77 rfl ?_
  refine aw_iload_n hG 2 rfl dX7_read_78 rfl ?_
  obtain ⟨v_7, hv_7, h⟩ := bd_o h
  refine aw_callVv (As := [.int x1, .int x3]) (rest := []) hG (c_X7_readWord (x1 := x1) (x2 := x3) (m := m)  hv_7) l_756 wv_X7_readWord (rv_X7 hG) rfl rfl rfl (by decide) (Nat.zero_le _) (Nat.zero_le _) (Nat.le_of_ble_eq_true rfl) dX7_read_79 ?_
  refine aw_goto (t := 276) hG dX7_read_82 rfl ?_
  refine aw_sub (L' := [(0, .ref (wad (cxw g) 17))]) [0] rfl ?_
  exact w_X7_read_J276 (m := v_7) hG h hK
noncomputable def f_X7_read_J254 (x1 : Int32) (x2 : Int32) (x3 : Int32) (x5 : Int32) (s0 : Int32) (m : MS) : Option (Int32 × MS) :=
  if (mI m 13) = (-1) then
    Option.bind (f_X7_roundDecimal x1 x3 (s0 - x5) x2 m) fun v_12 =>
    f_X7_read_J276 v_12
  else
    f_X7_read_J276 m
set_option maxRecDepth 20000 in
theorem w_X7_read_J254 {g : Cx} {mc ms : Nat} {c : CS} {m : MS} {z : Nat → Int64} {x1 : Int32} {x2 : Int32} {x3 : Int32} {x5 : Int32} {s0 : Int32} {s : (Int32 × MS)}  (hG : Gd g RX7 cX7_read 8 7 mc ms) (h : f_X7_read_J254 x1 x2 x3 x5 s0 m = some s) (hK : FinI g cX7_read mc ms s.1 (c, s.2, z)) : AW g 254 [(0, .ref (wad (cxw g) 17)), (1, .int x1), (2, .int x2), (3, .int x3), (5, .int x5)] [.int s0] (c, m, z) 0 0 := by
  unfold f_X7_read_J254 at h
  refine aw_istore (L' := [(6, .int s0), (0, .ref (wad (cxw g) 17)), (1, .int x1), (2, .int x2), (3, .int x3), (5, .int x5)]) hG dX7_read_254 (by decide) rfl ?_
  refine aw_aload_n hG 1 rfl dX7_read_256 rfl ?_
  refine gt_m_fault hG l_740 dX7_read_257 ?_
  refine aw_iconst (v := (-1)) hG dX7_read_260 rfl ?_
  refine aw_icmp_ne (t := 276) hG dX7_read_261 rfl (fun hc => ?_) (fun hc => ?_)
  · replace h := it_n hc h
    refine aw_sub (L' := [(0, .ref (wad (cxw g) 17))]) [1] rfl ?_
    exact w_X7_read_J276 (m := m) hG h hK
  · replace h := it_p hc h
    refine aw_aload_n hG 1 rfl dX7_read_264 rfl ?_
    refine aw_iload_n hG 2 rfl dX7_read_265 rfl ?_
    refine aw_iload_n hG 4 rfl dX7_read_266 rfl ?_
    refine aw_iload hG 0 rfl dX7_read_267 ?_
    refine aw_iload hG 5 rfl dX7_read_269 ?_
    refine aw_isub hG dX7_read_271 ?_
    refine aw_iload_n hG 3 rfl dX7_read_272 rfl ?_
    obtain ⟨v_12, hv_12, h⟩ := bd_o h
    refine aw_callVv (As := [.int x1, .int x3, .int (s0 - x5), .int x2]) (rest := []) hG (c_X7_roundDecimal (x1 := x1) (x2 := x3) (x3 := s0 - x5) (x4 := x2) (m := m)  hv_12) l_776 wv_X7_roundDecimal (rv_X7 hG) rfl rfl rfl (by decide) (Nat.zero_le _) (Nat.zero_le _) (Nat.le_of_ble_eq_true rfl) dX7_read_273 ?_
    refine aw_sub (L' := [(0, .ref (wad (cxw g) 17))]) [1] rfl ?_
    exact w_X7_read_J276 (m := v_12) hG h hK
noncomputable def f_X7_read_J230 (x1 : Int32) (x2 : Int32) (x3 : Int32) (m : MS) : Option (Int32 × MS) :=
  Option.bind (f_X7_takeFigures 10 m) fun v_10 =>
  if v_10.1 = (-1) then
    f_X7_read_J254 x1 x2 x3 v_10.1 0 v_10.2
  else
    Option.bind (f_X7_takeExponent 101 v_10.2) fun v_11 =>
    f_X7_read_J254 x1 x2 x3 v_10.1 v_11.1 v_11.2
set_option maxRecDepth 20000 in
theorem w_X7_read_J230 {g : Cx} {mc ms : Nat} {c : CS} {m : MS} {z : Nat → Int64} {x1 : Int32} {x2 : Int32} {x3 : Int32} {s : (Int32 × MS)}  (hG : Gd g RX7 cX7_read 8 7 mc ms) (h : f_X7_read_J230 x1 x2 x3 m = some s) (hK : FinI g cX7_read mc ms s.1 (c, s.2, z)) : AW g 230 [(0, .ref (wad (cxw g) 17)), (1, .int x1), (2, .int x2), (3, .int x3)] [] (c, m, z) 0 0 := by
  unfold f_X7_read_J230 at h
  refine aw_aload_n hG 0 rfl dX7_read_230 rfl ?_
  refine aw_bipush (v := 10) hG dX7_read_231 rfl ?_
  obtain ⟨v_10, hv_10, h⟩ := bd_o h
  refine aw_callVi (As := [.int 10]) (rest := []) hG (c_X7_takeFigures (x1 := 10) (m := m)  hv_10) l_766 wv_X7_takeFigures (rv_X7 hG) rfl rfl rfl (by decide) (Nat.zero_le _) (Nat.zero_le _) (Nat.le_of_ble_eq_true rfl) dX7_read_233 ?_
  refine aw_istore (L' := [(5, .int v_10.1), (0, .ref (wad (cxw g) 17)), (1, .int x1), (2, .int x2), (3, .int x3)]) hG dX7_read_236 (by decide) rfl ?_
  refine aw_iload hG 0 rfl dX7_read_238 ?_
  refine aw_iconst (v := (-1)) hG dX7_read_240 rfl ?_
  refine aw_icmp_ne (t := 248) hG dX7_read_241 rfl (fun hc => ?_) (fun hc => ?_)
  · replace h := it_n hc h
    refine aw_aload_n hG 1 rfl dX7_read_248 rfl ?_
    refine aw_bipush (v := 101) hG dX7_read_249 rfl ?_
    obtain ⟨v_11, hv_11, h⟩ := bd_o h
    refine aw_callVi (As := [.int 101]) (rest := []) hG (c_X7_takeExponent (x1 := 101) (m := v_10.2)  hv_11) l_771 wv_X7_takeExponent (rv_X7 hG) rfl rfl rfl (by decide) (Nat.zero_le _) (Nat.zero_le _) (Nat.le_of_ble_eq_true rfl) dX7_read_251 ?_
    refine aw_sub (L' := [(0, .ref (wad (cxw g) 17)), (1, .int x1), (2, .int x2), (3, .int x3), (5, .int v_10.1)]) [1, 2, 3, 4, 0] rfl ?_
    exact w_X7_read_J254 (x1 := x1) (x2 := x2) (x3 := x3) (x5 := v_10.1) (s0 := v_11.1) (m := v_11.2) hG h hK
  · replace h := it_p hc h
    refine aw_iconst (v := 0) hG dX7_read_244 rfl ?_
    refine aw_goto (t := 254) hG dX7_read_245 rfl ?_
    refine aw_sub (L' := [(0, .ref (wad (cxw g) 17)), (1, .int x1), (2, .int x2), (3, .int x3), (5, .int v_10.1)]) [1, 2, 3, 4, 0] rfl ?_
    exact w_X7_read_J254 (x1 := x1) (x2 := x2) (x3 := x3) (x5 := v_10.1) (s0 := 0) (m := v_10.2) hG h hK
noncomputable def f_X7_read_L178 (x1 : Int32) (x2 : Int32) (x3 : Int32) (x5 : Int32) (x6 : Int32) (x7 : Int32) (m : MS) : Option ((Int32 × MS) ⊕ (MS)) :=
  if (mI m 10) ≤ x7 then
    some (.inr m)
  else
    if vI x7 (mLen 7) then
      Option.bind (f_X7_grow 3 16 (mA m 7 x7.toNatClampNeg) m) fun v_21 =>
      lt (x7 + 1) fun x7_22 =>
      some (.inl (x7_22, v_21))
    else none
set_option maxRecDepth 20000 in
theorem w_X7_read_L178 {g : Cx} {mc ms : Nat} {c : CS} {m : MS} {z : Nat → Int64} {x1 : Int32} {x2 : Int32} {x3 : Int32} {x5 : Int32} {x6 : Int32} {x7 : Int32} {s : ((Int32 × MS) ⊕ (MS))}  (hG : Gd g RX7 cX7_read 8 7 mc ms) (h : f_X7_read_L178 x1 x2 x3 x5 x6 x7 m = some s) (hK : Sum.elim (fun a => AW g 178 [(0, .ref (wad (cxw g) 17)), (1, .int x1), (2, .int x2), (3, .int x3), (5, .int x5), (6, .int x6), (7, .int a.1)] [] (c, a.2, z) 0 0) (fun e => AW g 209 [(0, .ref (wad (cxw g) 17)), (1, .int x1), (2, .int x2), (3, .int x3), (5, .int x5), (6, .int x6)] [] (c, e, z) 0 0) s) : AW g 178 [(0, .ref (wad (cxw g) 17)), (1, .int x1), (2, .int x2), (3, .int x3), (5, .int x5), (6, .int x6), (7, .int x7)] [] (c, m, z) 0 0 := by
  unfold f_X7_read_L178 at h
  refine aw_iload hG 6 rfl dX7_read_178 ?_
  refine aw_aload_n hG 0 rfl dX7_read_180 rfl ?_
  refine gt_m_rowMany hG l_698 dX7_read_181 ?_
  refine aw_icmp_ge (t := 209) hG dX7_read_184 rfl (fun hc => ?_) (fun hc => ?_)
  · replace h := it_p hc h
    obtain rfl := Option.some.inj h
    refine aw_sub (L' := [(0, .ref (wad (cxw g) 17)), (1, .int x1), (2, .int x2), (3, .int x3), (5, .int x5), (6, .int x6)]) [0, 1, 2, 3, 4, 5] rfl ?_
    exact hK
  · replace h := it_n hc h
    refine aw_aload_n hG 0 rfl dX7_read_187 rfl ?_
    refine gt_m_a hG l_659 dX7_read_188 ?_
    refine aw_bipush (v := 16) hG dX7_read_191 rfl ?_
    refine aw_aload_n hG 0 rfl dX7_read_193 rfl ?_
    refine gt_m_row hG l_699 dX7_read_194 ?_
    refine aw_iload hG 6 rfl dX7_read_197 ?_
    obtain ⟨hi_20, h⟩ := it_o h
    refine al_mA (x := 0) hG (by decide) hi_20 dX7_read_199 ?_
    obtain ⟨v_21, hv_21, h⟩ := bd_o h
    refine aw_callSv (As := [.ref (wad (cxw g) (18 + 3)), .int 16, .int (mA m 7 x7.toNatClampNeg)]) (rest := []) hG (c_X7_grow (j0 := 3) (x1 := 16) (x2 := mA m 7 x7.toNatClampNeg) (m := m) (by decide) hv_21) l_654 ws_X7_grow rfl rfl rfl (by decide) (Nat.zero_le _) (Nat.zero_le _) (Nat.le_of_ble_eq_true rfl) dX7_read_200 ?_
    obtain ⟨x7_22, hx7_22⟩ : ∃ y : Int32, y = x7 + 1 := ⟨_, rfl⟩
    replace h := lt_r hx7_22 h
    refine aw_iinc (v := x7_22) (L' := [(7, .int x7_22), (0, .ref (wad (cxw g) 17)), (1, .int x1), (2, .int x2), (3, .int x3), (5, .int x5), (6, .int x6)]) hG 6 rfl dX7_read_203 (by rw [hx7_22]; rfl) (by decide) rfl ?_
    refine aw_goto (t := 178) hG dX7_read_206 rfl ?_
    obtain rfl := Option.some.inj h
    refine aw_sub (L' := [(0, .ref (wad (cxw g) 17)), (1, .int x1), (2, .int x2), (3, .int x3), (5, .int x5), (6, .int x6), (7, .int x7_22)]) [1, 2, 3, 4, 5, 6, 0] rfl ?_
    exact hK
noncomputable def f_X7_read_J158 (x1 : Int32) (x2 : Int32) (x3 : Int32) (x5 : Int32) (s0 : Int32) (m : MS) : Option (Int32 × MS) :=
  if (mI m 13) = (-1) then
    Option.bind (f_X7_zero 3 m) fun v_19 =>
    Option.bind (Lp (fun a => f_X7_read_L178 x1 x2 x3 x5 s0 a.1 a.2) (0, v_19)) fun e_24 =>
    Option.bind (f_X7_roundBinary x1 x3 (s0.toInt64 - (4 * x5.toInt64)) x2 e_24) fun v_25 =>
    f_X7_read_J276 v_25
  else
    f_X7_read_J276 m
set_option maxRecDepth 20000 in
theorem w_X7_read_J158 {g : Cx} {mc ms : Nat} {c : CS} {m : MS} {z : Nat → Int64} {x1 : Int32} {x2 : Int32} {x3 : Int32} {x5 : Int32} {s0 : Int32} {s : (Int32 × MS)}  (hG : Gd g RX7 cX7_read 8 7 mc ms) (h : f_X7_read_J158 x1 x2 x3 x5 s0 m = some s) (hK : FinI g cX7_read mc ms s.1 (c, s.2, z)) : AW g 158 [(0, .ref (wad (cxw g) 17)), (1, .int x1), (2, .int x2), (3, .int x3), (5, .int x5)] [.int s0] (c, m, z) 0 0 := by
  unfold f_X7_read_J158 at h
  refine aw_istore (L' := [(6, .int s0), (0, .ref (wad (cxw g) 17)), (1, .int x1), (2, .int x2), (3, .int x3), (5, .int x5)]) hG dX7_read_158 (by decide) rfl ?_
  refine aw_aload_n hG 1 rfl dX7_read_160 rfl ?_
  refine gt_m_fault hG l_740 dX7_read_161 ?_
  refine aw_iconst (v := (-1)) hG dX7_read_164 rfl ?_
  refine aw_icmp_ne (t := 227) hG dX7_read_165 rfl (fun hc => ?_) (fun hc => ?_)
  · replace h := it_n hc h
    refine aw_goto (t := 276) hG dX7_read_227 rfl ?_
    refine aw_sub (L' := [(0, .ref (wad (cxw g) 17))]) [1] rfl ?_
    exact w_X7_read_J276 (m := m) hG h hK
  · replace h := it_p hc h
    refine aw_aload_n hG 1 rfl dX7_read_168 rfl ?_
    refine gt_m_a hG l_659 dX7_read_169 ?_
    obtain ⟨v_19, hv_19, h⟩ := bd_o h
    refine aw_callSv (As := [.ref (wad (cxw g) (18 + 3))]) (rest := []) hG (c_X7_zero (j0 := 3) (m := m) (by decide) hv_19) l_648 ws_X7_zero rfl rfl rfl (by decide) (Nat.zero_le _) (Nat.zero_le _) (Nat.le_of_ble_eq_true rfl) dX7_read_172 ?_
    refine aw_iconst (v := 0) hG dX7_read_175 rfl ?_
    refine aw_istore (L' := [(7, .int 0), (6, .int s0), (0, .ref (wad (cxw g) 17)), (1, .int x1), (2, .int x2), (3, .int x3), (5, .int x5)]) hG dX7_read_176 (by decide) rfl ?_
    obtain ⟨e_24, he, h⟩ := bd_o h
    refine aw_sub (L' := [(0, .ref (wad (cxw g) 17)), (1, .int x1), (2, .int x2), (3, .int x3), (5, .int x5), (6, .int s0), (7, .int 0)]) [2, 3, 4, 5, 6, 1, 0] rfl ?_
    refine Lp_w (F := (fun a => f_X7_read_L178 x1 x2 x3 x5 s0 a.1 a.2)) (S := (fun a => AW g 178 [(0, .ref (wad (cxw g) 17)), (1, .int x1), (2, .int x2), (3, .int x3), (5, .int x5), (6, .int s0), (7, .int a.1)] [] (c, a.2, z) 0 0)) (E := (fun e => AW g 209 [(0, .ref (wad (cxw g) 17)), (1, .int x1), (2, .int x2), (3, .int x3), (5, .int x5), (6, .int s0)] [] (c, e, z) 0 0)) (a := (0, v_19)) he (fun a s h hK => w_X7_read_L178 (x1 := x1) (x2 := x2) (x3 := x3) (x5 := x5) (x6 := s0) (x7 := a.1) (m := a.2) hG h hK) ?_
    show AW g 209 _ _ _ 0 0
    refine aw_aload_n hG 0 rfl dX7_read_209 rfl ?_
    refine aw_iload_n hG 1 rfl dX7_read_210 rfl ?_
    refine aw_iload_n hG 3 rfl dX7_read_211 rfl ?_
    refine aw_iload hG 5 rfl dX7_read_212 ?_
    refine aw_i2l hG dX7_read_214 ?_
    refine aw_ldc2 hG l_781 dX7_read_215 ?_
    refine aw_iload hG 4 rfl dX7_read_218 ?_
    refine aw_i2l hG dX7_read_220 ?_
    refine aw_lmul hG dX7_read_221 ?_
    refine aw_lsub hG dX7_read_222 ?_
    refine aw_iload_n hG 2 rfl dX7_read_223 rfl ?_
    obtain ⟨v_25, hv_25, h⟩ := bd_o h
    refine aw_callVv (As := [.int x1, .int x3, .long (s0.toInt64 - (4 * x5.toInt64)), .int x2]) (rest := []) hG (c_X7_roundBinary (x1 := x1) (x2 := x3) (x3 := s0.toInt64 - (4 * x5.toInt64)) (x5 := x2) (m := e_24)  hv_25) l_782 wv_X7_roundBinary (rv_X7 hG) rfl rfl rfl (by decide) (Nat.zero_le _) (Nat.zero_le _) (Nat.le_of_ble_eq_true rfl) dX7_read_224 ?_
    refine aw_goto (t := 276) hG dX7_read_227 rfl ?_
    refine aw_sub (L' := [(0, .ref (wad (cxw g) 17))]) [0] rfl ?_
    exact w_X7_read_J276 (m := v_25) hG h hK
noncomputable def f_X7_read_J30 (x1 : Int32) (x2 : Int32) (s0 : Int32) (m : MS) : Option (Int32 × MS) :=
  lt (f_X7_refuses s0 m) fun v_1 =>
  if v_1.1 = 0 then
    lt (smI v_1.2 12 0) fun m_2 =>
    lt (smI m_2 13 (-1)) fun m_3 =>
    Option.bind (f_X7_takeSign m_3) fun v_4 =>
    Option.bind (f_X7_peek v_4.2) fun v_5 =>
    lt (f_X7_small v_5) fun x4_6 =>
    if x4_6 = 105 then
      f_X7_read_J76 x1 v_4.1 v_4.2
    else
      if x4_6 = 110 then
        f_X7_read_J76 x1 v_4.1 v_4.2
      else
        if x4_6 = 48 then
          if (mI v_4.2 1) ≤ ((mI v_4.2 12) + 1) then
            f_X7_read_J230 x1 x2 v_4.1 v_4.2
          else
            if vI ((mI v_4.2 12) + 1) (mLen 0) then
              if (f_X7_small (mA v_4.2 0 ((mI v_4.2 12) + 1).toNatClampNeg)) = 120 then
                lt (smI v_4.2 12 ((mI v_4.2 12) + 2)) fun m_16 =>
                Option.bind (f_X7_takeFigures 16 m_16) fun v_17 =>
                if v_17.1 = (-1) then
                  f_X7_read_J158 x1 x2 v_4.1 v_17.1 0 v_17.2
                else
                  Option.bind (f_X7_takeExponent 112 v_17.2) fun v_18 =>
                  f_X7_read_J158 x1 x2 v_4.1 v_17.1 v_18.1 v_18.2
              else
                f_X7_read_J230 x1 x2 v_4.1 v_4.2
            else none
        else
          f_X7_read_J230 x1 x2 v_4.1 v_4.2
  else
    some (0, v_1.2)
set_option maxRecDepth 20000 in
theorem w_X7_read_J30 {g : Cx} {mc ms : Nat} {c : CS} {m : MS} {z : Nat → Int64} {x1 : Int32} {x2 : Int32} {s0 : Int32} {s : (Int32 × MS)}  (hG : Gd g RX7 cX7_read 8 7 mc ms) (h : f_X7_read_J30 x1 x2 s0 m = some s) (hK : FinI g cX7_read mc ms s.1 (c, s.2, z)) : AW g 30 [(0, .ref (wad (cxw g) 17)), (1, .int x1), (2, .int x2)] [.int s0, .ref (wad (cxw g) 17)] (c, m, z) 0 0 := by
  unfold f_X7_read_J30 at h
  obtain ⟨v_1, hv_1⟩ : ∃ y, y = f_X7_refuses s0 m := ⟨_, rfl⟩
  replace h := lt_r hv_1 h
  refine aw_callVi (As := [.int s0]) (rest := []) hG (c_X7_refuses (x1 := s0) (m := m)  hv_1.symm) l_718 wv_X7_refuses (rv_X7 hG) rfl rfl rfl (by decide) (Nat.zero_le _) (Nat.zero_le _) (Nat.le_of_ble_eq_true rfl) dX7_read_30 ?_
  refine aw_if_eq (t := 38) hG dX7_read_33 rfl (fun hc => ?_) (fun hc => ?_)
  · replace h := it_p hc h
    refine aw_aload_n hG 0 rfl dX7_read_38 rfl ?_
    refine aw_iconst (v := 0) hG dX7_read_39 rfl ?_
    refine pt_m_at hG l_728 dX7_read_40 ?_
    refine aw_stm (fun m_2 hm_2 => ?_)
    replace h := lt_r hm_2 h
    refine aw_aload_n hG 0 rfl dX7_read_43 rfl ?_
    refine aw_iconst (v := (-1)) hG dX7_read_44 rfl ?_
    refine pt_m_fault hG l_740 dX7_read_45 ?_
    refine aw_stm (fun m_3 hm_3 => ?_)
    replace h := lt_r hm_3 h
    refine aw_aload_n hG 0 rfl dX7_read_48 rfl ?_
    obtain ⟨v_4, hv_4, h⟩ := bd_o h
    refine aw_callVi (As := []) (rest := []) hG (c_X7_takeSign (m := m_3)  hv_4) l_745 wv_X7_takeSign (rv_X7 hG) rfl rfl rfl (by decide) (Nat.zero_le _) (Nat.zero_le _) (Nat.le_of_ble_eq_true rfl) dX7_read_49 ?_
    refine aw_istore_n (L' := [(3, .int v_4.1), (0, .ref (wad (cxw g) 17)), (1, .int x1), (2, .int x2)]) hG dX7_read_52 rfl (by decide) rfl ?_
    refine aw_aload_n hG 1 rfl dX7_read_53 rfl ?_
    obtain ⟨v_5, hv_5, h⟩ := bd_o h
    refine aw_callVi (As := []) (rest := []) hG (c_X7_peek (m := v_4.2)  hv_5) l_734 wv_X7_peek (rv_X7 hG) rfl rfl rfl (by decide) (Nat.zero_le _) (Nat.zero_le _) (Nat.le_of_ble_eq_true rfl) dX7_read_54 ?_
    refine aw_callSi (As := [.int v_5]) (rest := []) hG (c_X7_small (x0 := v_5) (m := v_4.2) ) l_729 ws_X7_small rfl rfl rfl (by decide) (Nat.zero_le _) (Nat.zero_le _) (Nat.le_of_ble_eq_true rfl) dX7_read_57 ?_
    refine aw_topi (fun x4_6 hx4_6 => ?_)
    replace h := lt_r hx4_6 h
    refine aw_istore (L' := [(4, .int x4_6), (3, .int v_4.1), (0, .ref (wad (cxw g) 17)), (1, .int x1), (2, .int x2)]) hG dX7_read_60 (by decide) rfl ?_
    refine aw_iload hG 0 rfl dX7_read_62 ?_
    refine aw_bipush (v := 105) hG dX7_read_64 rfl ?_
    refine aw_icmp_eq (t := 76) hG dX7_read_66 rfl (fun hc => ?_) (fun hc => ?_)
    · replace h := it_p hc h
      refine aw_sub (L' := [(0, .ref (wad (cxw g) 17)), (1, .int x1), (3, .int v_4.1)]) [2, 3, 1] rfl ?_
      exact w_X7_read_J76 (x1 := x1) (x3 := v_4.1) (m := v_4.2) hG h hK
    · replace h := it_n hc h
      refine aw_iload hG 0 rfl dX7_read_69 ?_
      refine aw_bipush (v := 110) hG dX7_read_71 rfl ?_
      refine aw_icmp_ne (t := 85) hG dX7_read_73 rfl (fun hc => ?_) (fun hc => ?_)
      · replace h := it_n hc h
        refine aw_iload hG 0 rfl dX7_read_85 ?_
        refine aw_bipush (v := 48) hG dX7_read_87 rfl ?_
        refine aw_icmp_ne (t := 230) hG dX7_read_89 rfl (fun hc => ?_) (fun hc => ?_)
        · replace h := it_n hc h
          refine aw_sub (L' := [(0, .ref (wad (cxw g) 17)), (1, .int x1), (2, .int x2), (3, .int v_4.1)]) [2, 3, 4, 1] rfl ?_
          exact w_X7_read_J230 (x1 := x1) (x2 := x2) (x3 := v_4.1) (m := v_4.2) hG h hK
        · replace h := it_p hc h
          refine aw_aload_n hG 2 rfl dX7_read_92 rfl ?_
          refine gt_m_at hG l_728 dX7_read_93 ?_
          refine aw_iconst (v := 1) hG dX7_read_96 rfl ?_
          refine aw_iadd hG dX7_read_97 ?_
          refine aw_aload_n hG 2 rfl dX7_read_98 rfl ?_
          refine gt_m_size hG l_723 dX7_read_99 ?_
          refine aw_icmp_ge (t := 230) hG dX7_read_102 rfl (fun hc => ?_) (fun hc => ?_)
          · replace h := it_p hc h
            refine aw_sub (L' := [(0, .ref (wad (cxw g) 17)), (1, .int x1), (2, .int x2), (3, .int v_4.1)]) [2, 3, 4, 1] rfl ?_
            exact w_X7_read_J230 (x1 := x1) (x2 := x2) (x3 := v_4.1) (m := v_4.2) hG h hK
          · replace h := it_n hc h
            refine aw_aload_n hG 2 rfl dX7_read_105 rfl ?_
            refine gt_m_text hG l_724 dX7_read_106 ?_
            refine aw_aload_n hG 2 rfl dX7_read_109 rfl ?_
            refine gt_m_at hG l_728 dX7_read_110 ?_
            refine aw_iconst (v := 1) hG dX7_read_113 rfl ?_
            refine aw_iadd hG dX7_read_114 ?_
            obtain ⟨hi_15, h⟩ := it_o h
            refine al_mA (x := 0) hG (by decide) hi_15 dX7_read_115 ?_
            refine aw_callSi (As := [.int (mA v_4.2 0 ((mI v_4.2 12) + 1).toNatClampNeg)]) (rest := []) hG (c_X7_small (x0 := mA v_4.2 0 ((mI v_4.2 12) + 1).toNatClampNeg) (m := v_4.2) ) l_729 ws_X7_small rfl rfl rfl (by decide) (Nat.zero_le _) (Nat.zero_le _) (Nat.le_of_ble_eq_true rfl) dX7_read_116 ?_
            refine aw_bipush (v := 120) hG dX7_read_119 rfl ?_
            refine aw_icmp_ne (t := 230) hG dX7_read_121 rfl (fun hc => ?_) (fun hc => ?_)
            · replace h := it_n hc h
              refine aw_sub (L' := [(0, .ref (wad (cxw g) 17)), (1, .int x1), (2, .int x2), (3, .int v_4.1)]) [2, 3, 4, 1] rfl ?_
              exact w_X7_read_J230 (x1 := x1) (x2 := x2) (x3 := v_4.1) (m := v_4.2) hG h hK
            · replace h := it_p hc h
              refine aw_aload_n hG 2 rfl dX7_read_124 rfl ?_
              refine aw_dup hG dX7_read_125 rfl ?_
              refine gt_m_at hG l_728 dX7_read_126 ?_
              refine aw_iconst (v := 2) hG dX7_read_129 rfl ?_
              refine aw_iadd hG dX7_read_130 ?_
              refine pt_m_at hG l_728 dX7_read_131 ?_
              refine aw_stm (fun m_16 hm_16 => ?_)
              replace h := lt_r hm_16 h
              refine aw_aload_n hG 2 rfl dX7_read_134 rfl ?_
              refine aw_bipush (v := 16) hG dX7_read_135 rfl ?_
              obtain ⟨v_17, hv_17, h⟩ := bd_o h
              refine aw_callVi (As := [.int 16]) (rest := []) hG (c_X7_takeFigures (x1 := 16) (m := m_16)  hv_17) l_766 wv_X7_takeFigures (rv_X7 hG) rfl rfl rfl (by decide) (Nat.zero_le _) (Nat.zero_le _) (Nat.le_of_ble_eq_true rfl) dX7_read_137 ?_
              refine aw_istore (L' := [(5, .int v_17.1), (4, .int x4_6), (3, .int v_4.1), (0, .ref (wad (cxw g) 17)), (1, .int x1), (2, .int x2)]) hG dX7_read_140 (by decide) rfl ?_
              refine aw_iload hG 0 rfl dX7_read_142 ?_
              refine aw_iconst (v := (-1)) hG dX7_read_144 rfl ?_
              refine aw_icmp_ne (t := 152) hG dX7_read_145 rfl (fun hc => ?_) (fun hc => ?_)
              · replace h := it_n hc h
                refine aw_aload_n hG 3 rfl dX7_read_152 rfl ?_
                refine aw_bipush (v := 112) hG dX7_read_153 rfl ?_
                obtain ⟨v_18, hv_18, h⟩ := bd_o h
                refine aw_callVi (As := [.int 112]) (rest := []) hG (c_X7_takeExponent (x1 := 112) (m := v_17.2)  hv_18) l_771 wv_X7_takeExponent (rv_X7 hG) rfl rfl rfl (by decide) (Nat.zero_le _) (Nat.zero_le _) (Nat.le_of_ble_eq_true rfl) dX7_read_155 ?_
                refine aw_sub (L' := [(0, .ref (wad (cxw g) 17)), (1, .int x1), (2, .int x2), (3, .int v_4.1), (5, .int v_17.1)]) [3, 4, 5, 2, 0] rfl ?_
                exact w_X7_read_J158 (x1 := x1) (x2 := x2) (x3 := v_4.1) (x5 := v_17.1) (s0 := v_18.1) (m := v_18.2) hG h hK
              · replace h := it_p hc h
                refine aw_iconst (v := 0) hG dX7_read_148 rfl ?_
                refine aw_goto (t := 158) hG dX7_read_149 rfl ?_
                refine aw_sub (L' := [(0, .ref (wad (cxw g) 17)), (1, .int x1), (2, .int x2), (3, .int v_4.1), (5, .int v_17.1)]) [3, 4, 5, 2, 0] rfl ?_
                exact w_X7_read_J158 (x1 := x1) (x2 := x2) (x3 := v_4.1) (x5 := v_17.1) (s0 := 0) (m := v_17.2) hG h hK
      · replace h := it_p hc h
        refine aw_sub (L' := [(0, .ref (wad (cxw g) 17)), (1, .int x1), (3, .int v_4.1)]) [2, 3, 1] rfl ?_
        exact w_X7_read_J76 (x1 := x1) (x3 := v_4.1) (m := v_4.2) hG h hK
  · replace h := it_n hc h
    refine aw_iconst (v := 0) hG dX7_read_36 rfl ?_
    obtain rfl := Option.some.inj h
    exact FinI.z hK dX7_read_37
noncomputable def f_X7_read (x1 : Int32) (x2 : Int32) (m : MS) : Option (Int32 × MS) :=
  if (f_X7_in x1.toInt64 0 3) = 0 then
    f_X7_read_J30 x1 x2 0 m
  else
    if (f_X7_in x2.toInt64 0 4) = 0 then
      f_X7_read_J30 x1 x2 0 m
    else
      f_X7_read_J30 x1 x2 1 m
set_option maxRecDepth 20000 in
theorem w_X7_read {g : Cx} {mc ms : Nat} {c : CS} {m : MS} {z : Nat → Int64} {x1 : Int32} {x2 : Int32} {s : (Int32 × MS)}  (hG : Gd g RX7 cX7_read 8 7 mc ms) (h : f_X7_read x1 x2 m = some s) (hK : FinI g cX7_read mc ms s.1 (c, s.2, z)) : AW g 0 [(0, .ref (wad (cxw g) 17)), (1, .int x1), (2, .int x2)] [] (c, m, z) 0 0 := by
  unfold f_X7_read at h
  refine aw_aload_n hG 0 rfl dX7_read_0 rfl ?_
  refine aw_iload_n hG 1 rfl dX7_read_1 rfl ?_
  refine aw_i2l hG dX7_read_2 ?_
  refine aw_lconst (v := 0) hG dX7_read_3 rfl ?_
  refine aw_ldc2 hG l_625 dX7_read_4 ?_
  refine aw_callSi (As := [.long x1.toInt64, .long 0, .long 3]) (rest := [.ref (wad (cxw g) 17)]) hG (c_X7_in (x0 := x1.toInt64) (x2 := 0) (x4 := 3) (m := m) ) l_626 ws_X7_in rfl rfl rfl (by decide) (Nat.zero_le _) (Nat.zero_le _) (Nat.le_of_ble_eq_true rfl) dX7_read_7 ?_
  refine aw_if_eq (t := 29) hG dX7_read_10 rfl (fun hc => ?_) (fun hc => ?_)
  · replace h := it_p hc h
    refine aw_iconst (v := 0) hG dX7_read_29 rfl ?_
    exact w_X7_read_J30 (x1 := x1) (x2 := x2) (s0 := 0) (m := m) hG h hK
  · replace h := it_n hc h
    refine aw_iload_n hG 2 rfl dX7_read_13 rfl ?_
    refine aw_i2l hG dX7_read_14 ?_
    refine aw_lconst (v := 0) hG dX7_read_15 rfl ?_
    refine aw_ldc2 hG l_781 dX7_read_16 ?_
    refine aw_callSi (As := [.long x2.toInt64, .long 0, .long 4]) (rest := [.ref (wad (cxw g) 17)]) hG (c_X7_in (x0 := x2.toInt64) (x2 := 0) (x4 := 4) (m := m) ) l_626 ws_X7_in rfl rfl rfl (by decide) (Nat.zero_le _) (Nat.zero_le _) (Nat.le_of_ble_eq_true rfl) dX7_read_19 ?_
    refine aw_if_eq (t := 29) hG dX7_read_22 rfl (fun hc => ?_) (fun hc => ?_)
    · replace h := it_p hc h
      refine aw_iconst (v := 0) hG dX7_read_29 rfl ?_
      exact w_X7_read_J30 (x1 := x1) (x2 := x2) (s0 := 0) (m := m) hG h hK
    · replace h := it_n hc h
      refine aw_iconst (v := 1) hG dX7_read_25 rfl ?_
      refine aw_goto (t := 30) hG dX7_read_26 rfl ?_
      exact w_X7_read_J30 (x1 := x1) (x2 := x2) (s0 := 1) (m := m) hG h hK
theorem c_X7_read {c : CS} {m : MS} {z : Nat → Int64} {x1 : Int32} {x2 : Int32} {s : Int32 × MS}  (h : f_X7_read x1 x2 m = some s) : Ct yX7_read cX7_read 8 (some .int) 7 (fun w => [.ref (wad w 17), .int x1, .int x2]) (c, m, z) (fun _ => some (.int s.1)) (c, s.2, z) := Ct_ofI (by decide +kernel) (fun _ => Nat.le_of_ble_eq_true rfl) (fun g hG hK => w_X7_read hG h hK)
def f_X7_result (m : MS) : Int64 × MS :=
  lt (smI m 0 0) fun m_1 =>
  (mJ m_1 0, m_1)
set_option maxRecDepth 20000 in
theorem w_X7_result {g : Cx} {mc ms : Nat} {c : CS} {m : MS} {z : Nat → Int64}  {s : Int64 × MS}  (hG : Gd g RX7 cX7_result 1 1 mc ms) (h : f_X7_result m = s) (hK : FinJ g cX7_result mc ms s.1 (c, s.2, z)) : AW g 0 [(0, .ref (wad (cxw g) 17))] [] (c, m, z) 0 0 := by
  unfold f_X7_result at h
  refine aw_aload_n hG 0 rfl dX7_result_0 rfl ?_
  refine aw_iconst (v := 0) hG dX7_result_1 rfl ?_
  refine pt_m_thrown hG l_611 dX7_result_2 ?_
  refine aw_stm (fun m_1 hm_1 => ?_)
  replace h := lt_r hm_1 h
  refine aw_aload_n hG 0 rfl dX7_result_5 rfl ?_
  refine gt_m_result hG l_715 dX7_result_6 ?_
  subst h
  exact FinJ.z hK dX7_result_9
theorem c_X7_result {c : CS} {m : MS} {z : Nat → Int64}  {s : Int64 × MS}  (h : f_X7_result m = s) : Ct yX7_result cX7_result 1 (some .long) 1 (fun w => [.ref (wad w 17)]) (c, m, z) (fun _ => some (.long s.1)) (c, s.2, z) := Ct_ofJ (by decide +kernel) (fun _ => Nat.le_of_ble_eq_true rfl) (fun g hG hK => w_X7_result hG h hK)
def f_X7_flags (m : MS) : Int32 × MS :=
  lt (smI m 0 0) fun m_1 =>
  (mI m_1 6, m_1)
set_option maxRecDepth 20000 in
theorem w_X7_flags {g : Cx} {mc ms : Nat} {c : CS} {m : MS} {z : Nat → Int64}  {s : Int32 × MS}  (hG : Gd g RX7 cX7_flags 1 1 mc ms) (h : f_X7_flags m = s) (hK : FinI g cX7_flags mc ms s.1 (c, s.2, z)) : AW g 0 [(0, .ref (wad (cxw g) 17))] [] (c, m, z) 0 0 := by
  unfold f_X7_flags at h
  refine aw_aload_n hG 0 rfl dX7_flags_0 rfl ?_
  refine aw_iconst (v := 0) hG dX7_flags_1 rfl ?_
  refine pt_m_thrown hG l_611 dX7_flags_2 ?_
  refine aw_stm (fun m_1 hm_1 => ?_)
  replace h := lt_r hm_1 h
  refine aw_aload_n hG 0 rfl dX7_flags_5 rfl ?_
  refine gt_m_flags hG l_716 dX7_flags_6 ?_
  subst h
  exact FinI.z hK dX7_flags_9
theorem c_X7_flags {c : CS} {m : MS} {z : Nat → Int64}  {s : Int32 × MS}  (h : f_X7_flags m = s) : Ct yX7_flags cX7_flags 1 (some .int) 1 (fun w => [.ref (wad w 17)]) (c, m, z) (fun _ => some (.int s.1)) (c, s.2, z) := Ct_ofI (by decide +kernel) (fun _ => Nat.le_of_ble_eq_true rfl) (fun g hG hK => w_X7_flags hG h hK)
noncomputable def f_X7_spell_L42 (x1 : Int32) (x2 : Int32) (m : MS) : Option ((Int32 × MS) ⊕ (MS)) :=
  if x1 ≤ x2 then
    some (.inr m)
  else
    Option.bind (f_X7_grow 3 5 0 m) fun v_3 =>
    lt (x2 + 1) fun x2_4 =>
    some (.inl (x2_4, v_3))
set_option maxRecDepth 20000 in
theorem w_X7_spell_L42 {g : Cx} {mc ms : Nat} {c : CS} {m : MS} {z : Nat → Int64} {x1 : Int32} {x2 : Int32} {s : ((Int32 × MS) ⊕ (MS))}  (hG : Gd g RX7 cX7_spell 8 3 mc ms) (h : f_X7_spell_L42 x1 x2 m = some s) (hK : Sum.elim (fun a => AW g 42 [(0, .ref (wad (cxw g) 17)), (1, .int x1), (2, .int a.1)] [] (c, a.2, z) 0 0) (fun e => AW g 62 [(0, .ref (wad (cxw g) 17)), (1, .int x1)] [] (c, e, z) 0 0) s) : AW g 42 [(0, .ref (wad (cxw g) 17)), (1, .int x1), (2, .int x2)] [] (c, m, z) 0 0 := by
  unfold f_X7_spell_L42 at h
  refine aw_iload_n hG 2 rfl dX7_spell_42 rfl ?_
  refine aw_iload_n hG 1 rfl dX7_spell_43 rfl ?_
  refine aw_icmp_ge (t := 62) hG dX7_spell_44 rfl (fun hc => ?_) (fun hc => ?_)
  · replace h := it_p hc h
    obtain rfl := Option.some.inj h
    refine aw_sub (L' := [(0, .ref (wad (cxw g) 17)), (1, .int x1)]) [0, 1] rfl ?_
    exact hK
  · replace h := it_n hc h
    refine aw_aload_n hG 0 rfl dX7_spell_47 rfl ?_
    refine gt_m_a hG l_659 dX7_spell_48 ?_
    refine aw_iconst (v := 5) hG dX7_spell_51 rfl ?_
    refine aw_iconst (v := 0) hG dX7_spell_52 rfl ?_
    obtain ⟨v_3, hv_3, h⟩ := bd_o h
    refine aw_callSv (As := [.ref (wad (cxw g) (18 + 3)), .int 5, .int 0]) (rest := []) hG (c_X7_grow (j0 := 3) (x1 := 5) (x2 := 0) (m := m) (by decide) hv_3) l_654 ws_X7_grow rfl rfl rfl (by decide) (Nat.zero_le _) (Nat.zero_le _) (Nat.le_of_ble_eq_true rfl) dX7_spell_53 ?_
    obtain ⟨x2_4, hx2_4⟩ : ∃ y : Int32, y = x2 + 1 := ⟨_, rfl⟩
    replace h := lt_r hx2_4 h
    refine aw_iinc (v := x2_4) (L' := [(2, .int x2_4), (0, .ref (wad (cxw g) 17)), (1, .int x1)]) hG 2 rfl dX7_spell_56 (by rw [hx2_4]; rfl) (by decide) rfl ?_
    refine aw_goto (t := 42) hG dX7_spell_59 rfl ?_
    obtain rfl := Option.some.inj h
    refine aw_sub (L' := [(0, .ref (wad (cxw g) 17)), (1, .int x1), (2, .int x2_4)]) [1, 2, 0] rfl ?_
    exact hK
def f_X7_spell_L81 (x1 : Int32) (x2 : Int32) (x3 : Int64) (x5 : Int32) (m : MS) : Option ((Int64 × Int32 × MS) ⊕ ((Int64 × MS))) :=
  if x5 < 0 then
    some (.inr (x3, m))
  else
    if vI x5 (mLen 3) then
      lt ((jshl x3 30) ||| ((mA m 3 x5.toNatClampNeg).toInt64)) fun x6_9 =>
      if vI x5 (mLen 3) then
        lt (smA m 3 (upd (mA m 3) x5.toNatClampNeg ((x6_9 / 1000000000).toInt32))) fun m_11 =>
        lt (lrm x6_9 1000000000) fun x3_12 =>
        lt (x5 + (-1)) fun x5_13 =>
        some (.inl (x3_12, x5_13, m_11))
      else none
    else none
set_option maxRecDepth 20000 in
theorem w_X7_spell_L81 {g : Cx} {mc ms : Nat} {c : CS} {m : MS} {z : Nat → Int64} {x1 : Int32} {x2 : Int32} {x3 : Int64} {x5 : Int32} {s : ((Int64 × Int32 × MS) ⊕ ((Int64 × MS)))}  (hG : Gd g RX7 cX7_spell 8 3 mc ms) (h : f_X7_spell_L81 x1 x2 x3 x5 m = some s) (hK : Sum.elim (fun a => AW g 81 [(0, .ref (wad (cxw g) 17)), (1, .int x1), (2, .int x2), (3, .long a.1), (5, .int a.2.1)] [] (c, a.2.2, z) 0 0) (fun e => AW g 128 [(0, .ref (wad (cxw g) 17)), (1, .int x1), (2, .int x2), (3, .long e.1)] [] (c, e.2, z) 0 0) s) : AW g 81 [(0, .ref (wad (cxw g) 17)), (1, .int x1), (2, .int x2), (3, .long x3), (5, .int x5)] [] (c, m, z) 0 0 := by
  unfold f_X7_spell_L81 at h
  refine aw_iload hG 4 rfl dX7_spell_81 ?_
  refine aw_if_lt (t := 128) hG dX7_spell_83 rfl (fun hc => ?_) (fun hc => ?_)
  · replace h := it_p hc h
    obtain rfl := Option.some.inj h
    refine aw_sub (L' := [(0, .ref (wad (cxw g) 17)), (1, .int x1), (2, .int x2), (3, .long x3)]) [0, 1, 2, 3] rfl ?_
    exact hK
  · replace h := it_n hc h
    refine aw_lload_n hG 3 rfl dX7_spell_86 rfl ?_
    refine aw_bipush (v := 30) hG dX7_spell_87 rfl ?_
    refine aw_lshlJ hG dX7_spell_89 ?_
    refine aw_aload_n hG 0 rfl dX7_spell_90 rfl ?_
    refine gt_m_a hG l_659 dX7_spell_91 ?_
    refine aw_iload hG 4 rfl dX7_spell_94 ?_
    obtain ⟨hi_8, h⟩ := it_o h
    refine al_mA (x := 0) hG (by decide) hi_8 dX7_spell_96 ?_
    refine aw_i2l hG dX7_spell_97 ?_
    refine aw_lor hG dX7_spell_98 ?_
    refine aw_topl (fun x6_9 hx6_9 => ?_)
    replace h := lt_r hx6_9 h
    refine aw_lstore (L' := [(6, .long x6_9), (0, .ref (wad (cxw g) 17)), (1, .int x1), (2, .int x2), (3, .long x3), (5, .int x5)]) hG dX7_spell_99 (by decide) rfl ?_
    refine aw_aload_n hG 1 rfl dX7_spell_101 rfl ?_
    refine gt_m_a hG l_659 dX7_spell_102 ?_
    refine aw_iload hG 5 rfl dX7_spell_105 ?_
    refine aw_lload hG 0 rfl dX7_spell_107 ?_
    refine aw_ldc2 hG l_787 dX7_spell_109 ?_
    refine aw_ldiv hG dX7_spell_112 (by decide) ?_
    refine aw_l2i hG dX7_spell_113 ?_
    obtain ⟨hi_10, h⟩ := it_o h
    refine as_mA hG (by decide) hi_10 dX7_spell_114 ?_
    refine aw_stm (fun m_11 hm_11 => ?_)
    replace h := lt_r hm_11 h
    refine aw_lload hG 0 rfl dX7_spell_115 ?_
    refine aw_ldc2 hG l_787 dX7_spell_117 ?_
    refine aw_lremJ hG dX7_spell_120 (by decide) ?_
    refine aw_topl (fun x3_12 hx3_12 => ?_)
    replace h := lt_r hx3_12 h
    refine aw_lstore_n (L' := [(3, .long x3_12), (6, .long x6_9), (0, .ref (wad (cxw g) 17)), (1, .int x1), (2, .int x2), (5, .int x5)]) hG dX7_spell_121 rfl (by decide) rfl ?_
    obtain ⟨x5_13, hx5_13⟩ : ∃ y : Int32, y = x5 + (-1) := ⟨_, rfl⟩
    replace h := lt_r hx5_13 h
    refine aw_iinc (v := x5_13) (L' := [(5, .int x5_13), (3, .long x3_12), (6, .long x6_9), (0, .ref (wad (cxw g) 17)), (1, .int x1), (2, .int x2)]) hG 5 rfl dX7_spell_122 (by rw [hx5_13]; rfl) (by decide) rfl ?_
    refine aw_goto (t := 81) hG dX7_spell_125 rfl ?_
    obtain rfl := Option.some.inj h
    refine aw_sub (L' := [(0, .ref (wad (cxw g) 17)), (1, .int x1), (2, .int x2), (3, .long x3_12), (5, .int x5_13)]) [3, 4, 5, 1, 0] rfl ?_
    exact hK
def f_X7_spell_L131 (x1 : Int32) (x2 : Int32) (x3 : Int64) (x5 : Int32) (m : MS) : Option ((Int32 × Int64 × Int32 × MS) ⊕ ((Int32 × MS))) :=
  if 9 ≤ x5 then
    some (.inr (x2, m))
  else
    if vI x2 (mLen 6) then
      lt (smA m 6 (upd (mA m 6) x2.toNatClampNeg ((lrm x3 10).toInt32))) fun m_17 =>
      lt (x3 / 10) fun x3_18 =>
      lt (x2 + 1) fun x2_19 =>
      lt (x5 + 1) fun x5_20 =>
      some (.inl (x2_19, x3_18, x5_20, m_17))
    else none
set_option maxRecDepth 20000 in
theorem w_X7_spell_L131 {g : Cx} {mc ms : Nat} {c : CS} {m : MS} {z : Nat → Int64} {x1 : Int32} {x2 : Int32} {x3 : Int64} {x5 : Int32} {s : ((Int32 × Int64 × Int32 × MS) ⊕ ((Int32 × MS)))}  (hG : Gd g RX7 cX7_spell 8 3 mc ms) (h : f_X7_spell_L131 x1 x2 x3 x5 m = some s) (hK : Sum.elim (fun a => AW g 131 [(0, .ref (wad (cxw g) 17)), (1, .int x1), (2, .int a.1), (3, .long a.2.1), (5, .int a.2.2.1)] [] (c, a.2.2.2, z) 0 0) (fun e => AW g 165 [(0, .ref (wad (cxw g) 17)), (1, .int x1), (2, .int e.1)] [] (c, e.2, z) 0 0) s) : AW g 131 [(0, .ref (wad (cxw g) 17)), (1, .int x1), (2, .int x2), (3, .long x3), (5, .int x5)] [] (c, m, z) 0 0 := by
  unfold f_X7_spell_L131 at h
  refine aw_iload hG 4 rfl dX7_spell_131 ?_
  refine aw_bipush (v := 9) hG dX7_spell_133 rfl ?_
  refine aw_icmp_ge (t := 165) hG dX7_spell_135 rfl (fun hc => ?_) (fun hc => ?_)
  · replace h := it_p hc h
    obtain rfl := Option.some.inj h
    refine aw_sub (L' := [(0, .ref (wad (cxw g) 17)), (1, .int x1), (2, .int x2)]) [0, 1, 2] rfl ?_
    exact hK
  · replace h := it_n hc h
    refine aw_aload_n hG 0 rfl dX7_spell_138 rfl ?_
    refine gt_m_exact hG l_788 dX7_spell_139 ?_
    refine aw_iload_n hG 2 rfl dX7_spell_142 rfl ?_
    refine aw_lload_n hG 3 rfl dX7_spell_143 rfl ?_
    refine aw_ldc2 hG l_789 dX7_spell_144 ?_
    refine aw_lremJ hG dX7_spell_147 (by decide) ?_
    refine aw_l2i hG dX7_spell_148 ?_
    obtain ⟨hi_16, h⟩ := it_o h
    refine as_mA hG (by decide) hi_16 dX7_spell_149 ?_
    refine aw_stm (fun m_17 hm_17 => ?_)
    replace h := lt_r hm_17 h
    refine aw_lload_n hG 3 rfl dX7_spell_150 rfl ?_
    refine aw_ldc2 hG l_789 dX7_spell_151 ?_
    refine aw_ldiv hG dX7_spell_154 (by decide) ?_
    refine aw_topl (fun x3_18 hx3_18 => ?_)
    replace h := lt_r hx3_18 h
    refine aw_lstore_n (L' := [(3, .long x3_18), (0, .ref (wad (cxw g) 17)), (1, .int x1), (2, .int x2), (5, .int x5)]) hG dX7_spell_155 rfl (by decide) rfl ?_
    obtain ⟨x2_19, hx2_19⟩ : ∃ y : Int32, y = x2 + 1 := ⟨_, rfl⟩
    replace h := lt_r hx2_19 h
    refine aw_iinc (v := x2_19) (L' := [(2, .int x2_19), (3, .long x3_18), (0, .ref (wad (cxw g) 17)), (1, .int x1), (5, .int x5)]) hG 3 rfl dX7_spell_156 (by rw [hx2_19]; rfl) (by decide) rfl ?_
    obtain ⟨x5_20, hx5_20⟩ : ∃ y : Int32, y = x5 + 1 := ⟨_, rfl⟩
    replace h := lt_r hx5_20 h
    refine aw_iinc (v := x5_20) (L' := [(5, .int x5_20), (2, .int x2_19), (3, .long x3_18), (0, .ref (wad (cxw g) 17)), (1, .int x1)]) hG 4 rfl dX7_spell_159 (by rw [hx5_20]; rfl) (by decide) rfl ?_
    refine aw_goto (t := 131) hG dX7_spell_162 rfl ?_
    obtain rfl := Option.some.inj h
    refine aw_sub (L' := [(0, .ref (wad (cxw g) 17)), (1, .int x1), (2, .int x2_19), (3, .long x3_18), (5, .int x5_20)]) [3, 4, 1, 2, 0] rfl ?_
    exact hK
noncomputable def f_X7_spell_L64 (x1 : Int32) (x2 : Int32) (m : MS) : Option ((Int32 × MS) ⊕ ((Int32 × MS))) :=
  Option.bind (f_X7_length 3 m) fun v_7 =>
  if v_7 ≤ 0 then
    some (.inr (x2, m))
  else
    Option.bind (Lp (fun a => f_X7_spell_L81 x1 x2 a.1 a.2.1 a.2.2) (0, 319, m)) fun e_15 =>
    Option.bind (Lp (fun a => f_X7_spell_L131 x1 a.1 a.2.1 a.2.2.1 a.2.2.2) (x2, e_15.1, 0, e_15.2)) fun e_22 =>
    some (.inl (e_22.1, e_22.2))
set_option maxRecDepth 20000 in
theorem w_X7_spell_L64 {g : Cx} {mc ms : Nat} {c : CS} {m : MS} {z : Nat → Int64} {x1 : Int32} {x2 : Int32} {s : ((Int32 × MS) ⊕ ((Int32 × MS)))}  (hG : Gd g RX7 cX7_spell 8 3 mc ms) (h : f_X7_spell_L64 x1 x2 m = some s) (hK : Sum.elim (fun a => AW g 64 [(0, .ref (wad (cxw g) 17)), (1, .int x1), (2, .int a.1)] [] (c, a.2, z) 0 0) (fun e => AW g 168 [(0, .ref (wad (cxw g) 17)), (1, .int x1), (2, .int e.1)] [] (c, e.2, z) 0 0) s) : AW g 64 [(0, .ref (wad (cxw g) 17)), (1, .int x1), (2, .int x2)] [] (c, m, z) 0 0 := by
  unfold f_X7_spell_L64 at h
  refine aw_aload_n hG 0 rfl dX7_spell_64 rfl ?_
  refine gt_m_a hG l_659 dX7_spell_65 ?_
  obtain ⟨v_7, hv_7, h⟩ := bd_o h
  refine aw_callSi (As := [.ref (wad (cxw g) (18 + 3))]) (rest := []) hG (c_X7_length (j0 := 3) (m := m) (by decide) hv_7) l_660 ws_X7_length rfl rfl rfl (by decide) (Nat.zero_le _) (Nat.zero_le _) (Nat.le_of_ble_eq_true rfl) dX7_spell_68 ?_
  refine aw_if_le (t := 168) hG dX7_spell_71 rfl (fun hc => ?_) (fun hc => ?_)
  · replace h := it_p hc h
    obtain rfl := Option.some.inj h
    exact hK
  · replace h := it_n hc h
    refine aw_lconst (v := 0) hG dX7_spell_74 rfl ?_
    refine aw_lstore_n (L' := [(3, .long 0), (0, .ref (wad (cxw g) 17)), (1, .int x1), (2, .int x2)]) hG dX7_spell_75 rfl (by decide) rfl ?_
    refine aw_sipush (v := 319) hG dX7_spell_76 rfl ?_
    refine aw_istore (L' := [(5, .int 319), (3, .long 0), (0, .ref (wad (cxw g) 17)), (1, .int x1), (2, .int x2)]) hG dX7_spell_79 (by decide) rfl ?_
    obtain ⟨e_15, he, h⟩ := bd_o h
    refine aw_sub (L' := [(0, .ref (wad (cxw g) 17)), (1, .int x1), (2, .int x2), (3, .long 0), (5, .int 319)]) [2, 3, 4, 1, 0] rfl ?_
    refine Lp_w (F := (fun a => f_X7_spell_L81 x1 x2 a.1 a.2.1 a.2.2)) (S := (fun a => AW g 81 [(0, .ref (wad (cxw g) 17)), (1, .int x1), (2, .int x2), (3, .long a.1), (5, .int a.2.1)] [] (c, a.2.2, z) 0 0)) (E := (fun e => AW g 128 [(0, .ref (wad (cxw g) 17)), (1, .int x1), (2, .int x2), (3, .long e.1)] [] (c, e.2, z) 0 0)) (a := (0, 319, m)) he (fun a s h hK => w_X7_spell_L81 (x1 := x1) (x2 := x2) (x3 := a.1) (x5 := a.2.1) (m := a.2.2) hG h hK) ?_
    show AW g 128 _ _ _ 0 0
    refine aw_iconst (v := 0) hG dX7_spell_128 rfl ?_
    refine aw_istore (L' := [(5, .int 0), (0, .ref (wad (cxw g) 17)), (1, .int x1), (2, .int x2), (3, .long e_15.1)]) hG dX7_spell_129 (by decide) rfl ?_
    obtain ⟨e_22, he, h⟩ := bd_o h
    refine aw_sub (L' := [(0, .ref (wad (cxw g) 17)), (1, .int x1), (2, .int x2), (3, .long e_15.1), (5, .int 0)]) [1, 2, 3, 4, 0] rfl ?_
    refine Lp_w (F := (fun a => f_X7_spell_L131 x1 a.1 a.2.1 a.2.2.1 a.2.2.2)) (S := (fun a => AW g 131 [(0, .ref (wad (cxw g) 17)), (1, .int x1), (2, .int a.1), (3, .long a.2.1), (5, .int a.2.2.1)] [] (c, a.2.2.2, z) 0 0)) (E := (fun e => AW g 165 [(0, .ref (wad (cxw g) 17)), (1, .int x1), (2, .int e.1)] [] (c, e.2, z) 0 0)) (a := (x2, e_15.1, 0, e_15.2)) he (fun a s h hK => w_X7_spell_L131 (x1 := x1) (x2 := a.1) (x3 := a.2.1) (x5 := a.2.2.1) (m := a.2.2.2) hG h hK) ?_
    show AW g 165 _ _ _ 0 0
    refine aw_goto (t := 64) hG dX7_spell_165 rfl ?_
    obtain rfl := Option.some.inj h
    exact hK
def f_X7_spell_L168 (x1 : Int32) (x2 : Int32) (m : MS) : Option ((Int32) ⊕ (Int32)) :=
  if vI (x2 - 1) (mLen 6) then
    if (mA m 6 (x2 - 1).toNatClampNeg) = 0 then
      lt (x2 + (-1)) fun x2_26 =>
      some (.inl x2_26)
    else
      some (.inr x2)
  else none
set_option maxRecDepth 20000 in
theorem w_X7_spell_L168 {g : Cx} {mc ms : Nat} {c : CS} {m : MS} {z : Nat → Int64} {x1 : Int32} {x2 : Int32} {s : ((Int32) ⊕ (Int32))}  (hG : Gd g RX7 cX7_spell 8 3 mc ms) (h : f_X7_spell_L168 x1 x2 m = some s) (hK : Sum.elim (fun a => AW g 168 [(0, .ref (wad (cxw g) 17)), (1, .int x1), (2, .int a)] [] (c, m, z) 0 0) (fun e => AW g 185 [(0, .ref (wad (cxw g) 17)), (1, .int x1), (2, .int e)] [] (c, m, z) 0 0) s) : AW g 168 [(0, .ref (wad (cxw g) 17)), (1, .int x1), (2, .int x2)] [] (c, m, z) 0 0 := by
  unfold f_X7_spell_L168 at h
  refine aw_aload_n hG 0 rfl dX7_spell_168 rfl ?_
  refine gt_m_exact hG l_788 dX7_spell_169 ?_
  refine aw_iload_n hG 2 rfl dX7_spell_172 rfl ?_
  refine aw_iconst (v := 1) hG dX7_spell_173 rfl ?_
  refine aw_isub hG dX7_spell_174 ?_
  obtain ⟨hi_25, h⟩ := it_o h
  refine al_mA (x := 0) hG (by decide) hi_25 dX7_spell_175 ?_
  refine aw_if_ne (t := 185) hG dX7_spell_176 rfl (fun hc => ?_) (fun hc => ?_)
  · replace h := it_n hc h
    obtain rfl := Option.some.inj h
    exact hK
  · replace h := it_p hc h
    obtain ⟨x2_26, hx2_26⟩ : ∃ y : Int32, y = x2 + (-1) := ⟨_, rfl⟩
    replace h := lt_r hx2_26 h
    refine aw_iinc (v := x2_26) (L' := [(2, .int x2_26), (0, .ref (wad (cxw g) 17)), (1, .int x1)]) hG 2 rfl dX7_spell_179 (by rw [hx2_26]; rfl) (by decide) rfl ?_
    refine aw_goto (t := 168) hG dX7_spell_182 rfl ?_
    obtain rfl := Option.some.inj h
    refine aw_sub (L' := [(0, .ref (wad (cxw g) 17)), (1, .int x1), (2, .int x2_26)]) [1, 2, 0] rfl ?_
    exact hK
def f_X7_spell_L187 (x1 : Int32) (x2 : Int32) (x3 : Int32) (m : MS) : Option ((Int32 × MS) ⊕ (MS)) :=
  if ((x2 - 1) - x3) ≤ x3 then
    some (.inr m)
  else
    if vI x3 (mLen 6) then
      lt (mA m 6 x3.toNatClampNeg) fun x4_30 =>
      if vI ((x2 - 1) - x3) (mLen 6) then
        if vI x3 (mLen 6) then
          lt (smA m 6 (upd (mA m 6) x3.toNatClampNeg (mA m 6 ((x2 - 1) - x3).toNatClampNeg))) fun m_33 =>
          if vI ((x2 - 1) - x3) (mLen 6) then
            lt (smA m_33 6 (upd (mA m_33 6) ((x2 - 1) - x3).toNatClampNeg x4_30)) fun m_35 =>
            lt (x3 + 1) fun x3_36 =>
            some (.inl (x3_36, m_35))
          else none
        else none
      else none
    else none
set_option maxRecDepth 20000 in
theorem w_X7_spell_L187 {g : Cx} {mc ms : Nat} {c : CS} {m : MS} {z : Nat → Int64} {x1 : Int32} {x2 : Int32} {x3 : Int32} {s : ((Int32 × MS) ⊕ (MS))}  (hG : Gd g RX7 cX7_spell 8 3 mc ms) (h : f_X7_spell_L187 x1 x2 x3 m = some s) (hK : Sum.elim (fun a => AW g 187 [(0, .ref (wad (cxw g) 17)), (1, .int x1), (2, .int x2), (3, .int a.1)] [] (c, a.2, z) 0 0) (fun e => AW g 238 [(0, .ref (wad (cxw g) 17)), (1, .int x1), (2, .int x2)] [] (c, e, z) 0 0) s) : AW g 187 [(0, .ref (wad (cxw g) 17)), (1, .int x1), (2, .int x2), (3, .int x3)] [] (c, m, z) 0 0 := by
  unfold f_X7_spell_L187 at h
  refine aw_iload_n hG 3 rfl dX7_spell_187 rfl ?_
  refine aw_iload_n hG 2 rfl dX7_spell_188 rfl ?_
  refine aw_iconst (v := 1) hG dX7_spell_189 rfl ?_
  refine aw_isub hG dX7_spell_190 ?_
  refine aw_iload_n hG 3 rfl dX7_spell_191 rfl ?_
  refine aw_isub hG dX7_spell_192 ?_
  refine aw_icmp_ge (t := 238) hG dX7_spell_193 rfl (fun hc => ?_) (fun hc => ?_)
  · replace h := it_p hc h
    obtain rfl := Option.some.inj h
    refine aw_sub (L' := [(0, .ref (wad (cxw g) 17)), (1, .int x1), (2, .int x2)]) [0, 1, 2] rfl ?_
    exact hK
  · replace h := it_n hc h
    refine aw_aload_n hG 0 rfl dX7_spell_196 rfl ?_
    refine gt_m_exact hG l_788 dX7_spell_197 ?_
    refine aw_iload_n hG 3 rfl dX7_spell_200 rfl ?_
    obtain ⟨hi_29, h⟩ := it_o h
    refine al_mA (x := 0) hG (by decide) hi_29 dX7_spell_201 ?_
    refine aw_topi (fun x4_30 hx4_30 => ?_)
    replace h := lt_r hx4_30 h
    refine aw_istore (L' := [(4, .int x4_30), (0, .ref (wad (cxw g) 17)), (1, .int x1), (2, .int x2), (3, .int x3)]) hG dX7_spell_202 (by decide) rfl ?_
    refine aw_aload_n hG 1 rfl dX7_spell_204 rfl ?_
    refine gt_m_exact hG l_788 dX7_spell_205 ?_
    refine aw_iload_n hG 4 rfl dX7_spell_208 rfl ?_
    refine aw_aload_n hG 1 rfl dX7_spell_209 rfl ?_
    refine gt_m_exact hG l_788 dX7_spell_210 ?_
    refine aw_iload_n hG 3 rfl dX7_spell_213 rfl ?_
    refine aw_iconst (v := 1) hG dX7_spell_214 rfl ?_
    refine aw_isub hG dX7_spell_215 ?_
    refine aw_iload_n hG 4 rfl dX7_spell_216 rfl ?_
    refine aw_isub hG dX7_spell_217 ?_
    obtain ⟨hi_31, h⟩ := it_o h
    refine al_mA (x := 0) hG (by decide) hi_31 dX7_spell_218 ?_
    obtain ⟨hi_32, h⟩ := it_o h
    refine as_mA hG (by decide) hi_32 dX7_spell_219 ?_
    refine aw_stm (fun m_33 hm_33 => ?_)
    replace h := lt_r hm_33 h
    refine aw_aload_n hG 1 rfl dX7_spell_220 rfl ?_
    refine gt_m_exact hG l_788 dX7_spell_221 ?_
    refine aw_iload_n hG 3 rfl dX7_spell_224 rfl ?_
    refine aw_iconst (v := 1) hG dX7_spell_225 rfl ?_
    refine aw_isub hG dX7_spell_226 ?_
    refine aw_iload_n hG 4 rfl dX7_spell_227 rfl ?_
    refine aw_isub hG dX7_spell_228 ?_
    refine aw_iload hG 0 rfl dX7_spell_229 ?_
    obtain ⟨hi_34, h⟩ := it_o h
    refine as_mA hG (by decide) hi_34 dX7_spell_231 ?_
    refine aw_stm (fun m_35 hm_35 => ?_)
    replace h := lt_r hm_35 h
    obtain ⟨x3_36, hx3_36⟩ : ∃ y : Int32, y = x3 + 1 := ⟨_, rfl⟩
    replace h := lt_r hx3_36 h
    refine aw_iinc (v := x3_36) (L' := [(3, .int x3_36), (4, .int x4_30), (0, .ref (wad (cxw g) 17)), (1, .int x1), (2, .int x2)]) hG 4 rfl dX7_spell_232 (by rw [hx3_36]; rfl) (by decide) rfl ?_
    refine aw_goto (t := 187) hG dX7_spell_235 rfl ?_
    obtain rfl := Option.some.inj h
    refine aw_sub (L' := [(0, .ref (wad (cxw g) 17)), (1, .int x1), (2, .int x2), (3, .int x3_36)]) [2, 3, 4, 0] rfl ?_
    exact hK
def f_X7_spell_L245 (x2 : Int32) (m : MS) : Option ((Int32) ⊕ (Int32)) :=
  if vI (x2 - 1) (mLen 6) then
    if (mA m 6 (x2 - 1).toNatClampNeg) = 0 then
      lt (x2 + (-1)) fun x2_41 =>
      some (.inl x2_41)
    else
      some (.inr x2)
  else none
set_option maxRecDepth 20000 in
theorem w_X7_spell_L245 {g : Cx} {mc ms : Nat} {c : CS} {m : MS} {z : Nat → Int64} {x2 : Int32} {s : ((Int32) ⊕ (Int32))}  (hG : Gd g RX7 cX7_spell 8 3 mc ms) (h : f_X7_spell_L245 x2 m = some s) (hK : Sum.elim (fun a => AW g 245 [(0, .ref (wad (cxw g) 17)), (2, .int a)] [] (c, m, z) 0 0) (fun e => AW g 262 [(0, .ref (wad (cxw g) 17)), (2, .int e)] [] (c, m, z) 0 0) s) : AW g 245 [(0, .ref (wad (cxw g) 17)), (2, .int x2)] [] (c, m, z) 0 0 := by
  unfold f_X7_spell_L245 at h
  refine aw_aload_n hG 0 rfl dX7_spell_245 rfl ?_
  refine gt_m_exact hG l_788 dX7_spell_246 ?_
  refine aw_iload_n hG 1 rfl dX7_spell_249 rfl ?_
  refine aw_iconst (v := 1) hG dX7_spell_250 rfl ?_
  refine aw_isub hG dX7_spell_251 ?_
  obtain ⟨hi_40, h⟩ := it_o h
  refine al_mA (x := 0) hG (by decide) hi_40 dX7_spell_252 ?_
  refine aw_if_ne (t := 262) hG dX7_spell_253 rfl (fun hc => ?_) (fun hc => ?_)
  · replace h := it_n hc h
    obtain rfl := Option.some.inj h
    exact hK
  · replace h := it_p hc h
    obtain ⟨x2_41, hx2_41⟩ : ∃ y : Int32, y = x2 + (-1) := ⟨_, rfl⟩
    replace h := lt_r hx2_41 h
    refine aw_iinc (v := x2_41) (L' := [(2, .int x2_41), (0, .ref (wad (cxw g) 17))]) hG 1 rfl dX7_spell_256 (by rw [hx2_41]; rfl) (by decide) rfl ?_
    refine aw_goto (t := 245) hG dX7_spell_259 rfl ?_
    obtain rfl := Option.some.inj h
    refine aw_sub (L' := [(0, .ref (wad (cxw g) 17)), (2, .int x2_41)]) [1, 0] rfl ?_
    exact hK
noncomputable def f_X7_spell (m : MS) : Option MS :=
  Option.bind (f_X7_set 3 (mJ m 1) m) fun v_1 =>
  if (mI v_1 7) < 0 then
    lt (-(mI v_1 7)) fun x1_2 =>
    Option.bind (Lp (fun a => f_X7_spell_L42 x1_2 a.1 a.2) (0, v_1)) fun e_6 =>
    Option.bind (Lp (fun a => f_X7_spell_L64 x1_2 a.1 a.2) (0, e_6)) fun e_24 =>
    Option.bind (Lp (fun a => f_X7_spell_L168 x1_2 a e_24.2) e_24.1) fun e_28 =>
    Option.bind (Lp (fun a => f_X7_spell_L187 x1_2 e_28 a.1 a.2) (0, e_24.2)) fun e_38 =>
    lt (smI e_38 9 (e_28 - x1_2)) fun m_39 =>
    Option.bind (Lp (fun a => f_X7_spell_L245 a m_39) e_28) fun e_43 =>
    lt (smI m_39 8 e_43) fun m_44 =>
    some m_44
  else
    Option.bind (f_X7_left 3 (mI v_1 7) v_1) fun v_45 =>
    Option.bind (Lp (fun a => f_X7_spell_L64 0 a.1 a.2) (0, v_45)) fun e_46 =>
    Option.bind (Lp (fun a => f_X7_spell_L168 0 a e_46.2) e_46.1) fun e_47 =>
    Option.bind (Lp (fun a => f_X7_spell_L187 0 e_47 a.1 a.2) (0, e_46.2)) fun e_48 =>
    lt (smI e_48 9 (e_47 - 0)) fun m_49 =>
    Option.bind (Lp (fun a => f_X7_spell_L245 a m_49) e_47) fun e_50 =>
    lt (smI m_49 8 e_50) fun m_51 =>
    some m_51
set_option maxRecDepth 20000 in
theorem w_X7_spell {g : Cx} {mc ms : Nat} {c : CS} {m : MS} {z : Nat → Int64}  {s : MS}  (hG : Gd g RX7 cX7_spell 8 3 mc ms) (h : f_X7_spell m = some s) (hK : FinV g cX7_spell mc ms (c, s, z)) : AW g 0 [(0, .ref (wad (cxw g) 17))] [] (c, m, z) 0 0 := by
  unfold f_X7_spell at h
  refine aw_aload_n hG 0 rfl dX7_spell_0 rfl ?_
  refine gt_m_a hG l_659 dX7_spell_1 ?_
  refine aw_aload_n hG 0 rfl dX7_spell_4 rfl ?_
  refine gt_m_whole hG l_642 dX7_spell_5 ?_
  obtain ⟨v_1, hv_1, h⟩ := bd_o h
  refine aw_callSv (As := [.ref (wad (cxw g) (18 + 3)), .long (mJ m 1)]) (rest := []) hG (c_X7_set (j0 := 3) (x1 := mJ m 1) (m := m) (by decide) hv_1) l_700 ws_X7_set rfl rfl rfl (by decide) (Nat.zero_le _) (Nat.zero_le _) (Nat.le_of_ble_eq_true rfl) dX7_spell_8 ?_
  refine aw_iconst (v := 0) hG dX7_spell_11 rfl ?_
  refine aw_istore_n (L' := [(1, .int 0), (0, .ref (wad (cxw g) 17))]) hG dX7_spell_12 rfl (by decide) rfl ?_
  refine aw_aload_n hG 1 rfl dX7_spell_13 rfl ?_
  refine gt_m_power hG l_647 dX7_spell_14 ?_
  refine aw_if_lt (t := 34) hG dX7_spell_17 rfl (fun hc => ?_) (fun hc => ?_)
  · replace h := it_p hc h
    refine aw_aload_n hG 1 rfl dX7_spell_34 rfl ?_
    refine gt_m_power hG l_647 dX7_spell_35 ?_
    refine aw_ineg hG dX7_spell_38 ?_
    refine aw_topi (fun x1_2 hx1_2 => ?_)
    replace h := lt_r hx1_2 h
    refine aw_istore_n (L' := [(1, .int x1_2), (0, .ref (wad (cxw g) 17))]) hG dX7_spell_39 rfl (by decide) rfl ?_
    refine aw_iconst (v := 0) hG dX7_spell_40 rfl ?_
    refine aw_istore_n (L' := [(2, .int 0), (1, .int x1_2), (0, .ref (wad (cxw g) 17))]) hG dX7_spell_41 rfl (by decide) rfl ?_
    obtain ⟨e_6, he, h⟩ := bd_o h
    refine aw_sub (L' := [(0, .ref (wad (cxw g) 17)), (1, .int x1_2), (2, .int 0)]) [2, 1, 0] rfl ?_
    refine Lp_w (F := (fun a => f_X7_spell_L42 x1_2 a.1 a.2)) (S := (fun a => AW g 42 [(0, .ref (wad (cxw g) 17)), (1, .int x1_2), (2, .int a.1)] [] (c, a.2, z) 0 0)) (E := (fun e => AW g 62 [(0, .ref (wad (cxw g) 17)), (1, .int x1_2)] [] (c, e, z) 0 0)) (a := (0, v_1)) he (fun a s h hK => w_X7_spell_L42 (x1 := x1_2) (x2 := a.1) (m := a.2) hG h hK) ?_
    show AW g 62 _ _ _ 0 0
    refine aw_iconst (v := 0) hG dX7_spell_62 rfl ?_
    refine aw_istore_n (L' := [(2, .int 0), (0, .ref (wad (cxw g) 17)), (1, .int x1_2)]) hG dX7_spell_63 rfl (by decide) rfl ?_
    obtain ⟨e_24, he, h⟩ := bd_o h
    refine aw_sub (L' := [(0, .ref (wad (cxw g) 17)), (1, .int x1_2), (2, .int 0)]) [1, 2, 0] rfl ?_
    refine Lp_w (F := (fun a => f_X7_spell_L64 x1_2 a.1 a.2)) (S := (fun a => AW g 64 [(0, .ref (wad (cxw g) 17)), (1, .int x1_2), (2, .int a.1)] [] (c, a.2, z) 0 0)) (E := (fun e => AW g 168 [(0, .ref (wad (cxw g) 17)), (1, .int x1_2), (2, .int e.1)] [] (c, e.2, z) 0 0)) (a := (0, e_6)) he (fun a s h hK => w_X7_spell_L64 (x1 := x1_2) (x2 := a.1) (m := a.2) hG h hK) ?_
    show AW g 168 _ _ _ 0 0
    obtain ⟨e_28, he, h⟩ := bd_o h
    refine Lp_w (F := (fun a => f_X7_spell_L168 x1_2 a e_24.2)) (S := (fun a => AW g 168 [(0, .ref (wad (cxw g) 17)), (1, .int x1_2), (2, .int a)] [] (c, e_24.2, z) 0 0)) (E := (fun e => AW g 185 [(0, .ref (wad (cxw g) 17)), (1, .int x1_2), (2, .int e)] [] (c, e_24.2, z) 0 0)) (a := e_24.1) he (fun a s h hK => w_X7_spell_L168 (x1 := x1_2) (x2 := a) (m := e_24.2) hG h hK) ?_
    show AW g 185 _ _ _ 0 0
    refine aw_iconst (v := 0) hG dX7_spell_185 rfl ?_
    refine aw_istore_n (L' := [(3, .int 0), (0, .ref (wad (cxw g) 17)), (1, .int x1_2), (2, .int e_28)]) hG dX7_spell_186 rfl (by decide) rfl ?_
    obtain ⟨e_38, he, h⟩ := bd_o h
    refine aw_sub (L' := [(0, .ref (wad (cxw g) 17)), (1, .int x1_2), (2, .int e_28), (3, .int 0)]) [1, 2, 3, 0] rfl ?_
    refine Lp_w (F := (fun a => f_X7_spell_L187 x1_2 e_28 a.1 a.2)) (S := (fun a => AW g 187 [(0, .ref (wad (cxw g) 17)), (1, .int x1_2), (2, .int e_28), (3, .int a.1)] [] (c, a.2, z) 0 0)) (E := (fun e => AW g 238 [(0, .ref (wad (cxw g) 17)), (1, .int x1_2), (2, .int e_28)] [] (c, e, z) 0 0)) (a := (0, e_24.2)) he (fun a s h hK => w_X7_spell_L187 (x1 := x1_2) (x2 := e_28) (x3 := a.1) (m := a.2) hG h hK) ?_
    show AW g 238 _ _ _ 0 0
    refine aw_aload_n hG 0 rfl dX7_spell_238 rfl ?_
    refine aw_iload_n hG 2 rfl dX7_spell_239 rfl ?_
    refine aw_iload_n hG 1 rfl dX7_spell_240 rfl ?_
    refine aw_isub hG dX7_spell_241 ?_
    refine pt_m_exactPoint hG l_790 dX7_spell_242 ?_
    refine aw_stm (fun m_39 hm_39 => ?_)
    replace h := lt_r hm_39 h
    obtain ⟨e_43, he, h⟩ := bd_o h
    refine aw_sub (L' := [(0, .ref (wad (cxw g) 17)), (2, .int e_28)]) [0, 2] rfl ?_
    refine Lp_w (F := (fun a => f_X7_spell_L245 a m_39)) (S := (fun a => AW g 245 [(0, .ref (wad (cxw g) 17)), (2, .int a)] [] (c, m_39, z) 0 0)) (E := (fun e => AW g 262 [(0, .ref (wad (cxw g) 17)), (2, .int e)] [] (c, m_39, z) 0 0)) (a := e_28) he (fun a s h hK => w_X7_spell_L245 (x2 := a) (m := m_39) hG h hK) ?_
    show AW g 262 _ _ _ 0 0
    refine aw_aload_n hG 0 rfl dX7_spell_262 rfl ?_
    refine aw_iload_n hG 1 rfl dX7_spell_263 rfl ?_
    refine pt_m_exactMany hG l_791 dX7_spell_264 ?_
    refine aw_stm (fun m_44 hm_44 => ?_)
    replace h := lt_r hm_44 h
    obtain rfl := Option.some.inj h
    exact FinV.z hK dX7_spell_267
  · replace h := it_n hc h
    refine aw_aload_n hG 1 rfl dX7_spell_20 rfl ?_
    refine gt_m_a hG l_659 dX7_spell_21 ?_
    refine aw_aload_n hG 1 rfl dX7_spell_24 rfl ?_
    refine gt_m_power hG l_647 dX7_spell_25 ?_
    obtain ⟨v_45, hv_45, h⟩ := bd_o h
    refine aw_callSv (As := [.ref (wad (cxw g) (18 + 3)), .int (mI v_1 7)]) (rest := []) hG (c_X7_left (j0 := 3) (x1 := mI v_1 7) (m := v_1) (by decide) hv_45) l_670 ws_X7_left rfl rfl rfl (by decide) (Nat.zero_le _) (Nat.zero_le _) (Nat.le_of_ble_eq_true rfl) dX7_spell_28 ?_
    refine aw_goto (t := 62) hG dX7_spell_31 rfl ?_
    refine aw_iconst (v := 0) hG dX7_spell_62 rfl ?_
    refine aw_istore_n (L' := [(2, .int 0), (1, .int 0), (0, .ref (wad (cxw g) 17))]) hG dX7_spell_63 rfl (by decide) rfl ?_
    obtain ⟨e_46, he, h⟩ := bd_o h
    refine aw_sub (L' := [(0, .ref (wad (cxw g) 17)), (1, .int 0), (2, .int 0)]) [2, 1, 0] rfl ?_
    refine Lp_w (F := (fun a => f_X7_spell_L64 0 a.1 a.2)) (S := (fun a => AW g 64 [(0, .ref (wad (cxw g) 17)), (1, .int 0), (2, .int a.1)] [] (c, a.2, z) 0 0)) (E := (fun e => AW g 168 [(0, .ref (wad (cxw g) 17)), (1, .int 0), (2, .int e.1)] [] (c, e.2, z) 0 0)) (a := (0, v_45)) he (fun a s h hK => w_X7_spell_L64 (x1 := 0) (x2 := a.1) (m := a.2) hG h hK) ?_
    show AW g 168 _ _ _ 0 0
    obtain ⟨e_47, he, h⟩ := bd_o h
    refine Lp_w (F := (fun a => f_X7_spell_L168 0 a e_46.2)) (S := (fun a => AW g 168 [(0, .ref (wad (cxw g) 17)), (1, .int 0), (2, .int a)] [] (c, e_46.2, z) 0 0)) (E := (fun e => AW g 185 [(0, .ref (wad (cxw g) 17)), (1, .int 0), (2, .int e)] [] (c, e_46.2, z) 0 0)) (a := e_46.1) he (fun a s h hK => w_X7_spell_L168 (x1 := 0) (x2 := a) (m := e_46.2) hG h hK) ?_
    show AW g 185 _ _ _ 0 0
    refine aw_iconst (v := 0) hG dX7_spell_185 rfl ?_
    refine aw_istore_n (L' := [(3, .int 0), (0, .ref (wad (cxw g) 17)), (1, .int 0), (2, .int e_47)]) hG dX7_spell_186 rfl (by decide) rfl ?_
    obtain ⟨e_48, he, h⟩ := bd_o h
    refine aw_sub (L' := [(0, .ref (wad (cxw g) 17)), (1, .int 0), (2, .int e_47), (3, .int 0)]) [1, 2, 3, 0] rfl ?_
    refine Lp_w (F := (fun a => f_X7_spell_L187 0 e_47 a.1 a.2)) (S := (fun a => AW g 187 [(0, .ref (wad (cxw g) 17)), (1, .int 0), (2, .int e_47), (3, .int a.1)] [] (c, a.2, z) 0 0)) (E := (fun e => AW g 238 [(0, .ref (wad (cxw g) 17)), (1, .int 0), (2, .int e_47)] [] (c, e, z) 0 0)) (a := (0, e_46.2)) he (fun a s h hK => w_X7_spell_L187 (x1 := 0) (x2 := e_47) (x3 := a.1) (m := a.2) hG h hK) ?_
    show AW g 238 _ _ _ 0 0
    refine aw_aload_n hG 0 rfl dX7_spell_238 rfl ?_
    refine aw_iload_n hG 2 rfl dX7_spell_239 rfl ?_
    refine aw_iload_n hG 1 rfl dX7_spell_240 rfl ?_
    refine aw_isub hG dX7_spell_241 ?_
    refine pt_m_exactPoint hG l_790 dX7_spell_242 ?_
    refine aw_stm (fun m_49 hm_49 => ?_)
    replace h := lt_r hm_49 h
    obtain ⟨e_50, he, h⟩ := bd_o h
    refine aw_sub (L' := [(0, .ref (wad (cxw g) 17)), (2, .int e_47)]) [0, 2] rfl ?_
    refine Lp_w (F := (fun a => f_X7_spell_L245 a m_49)) (S := (fun a => AW g 245 [(0, .ref (wad (cxw g) 17)), (2, .int a)] [] (c, m_49, z) 0 0)) (E := (fun e => AW g 262 [(0, .ref (wad (cxw g) 17)), (2, .int e)] [] (c, m_49, z) 0 0)) (a := e_47) he (fun a s h hK => w_X7_spell_L245 (x2 := a) (m := m_49) hG h hK) ?_
    show AW g 262 _ _ _ 0 0
    refine aw_aload_n hG 0 rfl dX7_spell_262 rfl ?_
    refine aw_iload_n hG 1 rfl dX7_spell_263 rfl ?_
    refine pt_m_exactMany hG l_791 dX7_spell_264 ?_
    refine aw_stm (fun m_51 hm_51 => ?_)
    replace h := lt_r hm_51 h
    obtain rfl := Option.some.inj h
    exact FinV.z hK dX7_spell_267
theorem c_X7_spell {c : CS} {m : MS} {z : Nat → Int64}  {s : MS}  (h : f_X7_spell m = some s) : Ct yX7_spell cX7_spell 8 none 3 (fun w => [.ref (wad w 17)]) (c, m, z) (fun _ => none) (c, s, z) := Ct_ofV (by decide +kernel) (fun _ => Nat.le_of_ble_eq_true rfl) (fun g hG hK => w_X7_spell hG h hK)
def f_X7_takeDigits_L15 (x1 : Int32) (x2 : Int32) (x3 : Int32) (m : MS) : Option ((Int32 × MS) ⊕ (MS)) :=
  if x1 ≤ x3 then
    some (.inr m)
  else
    if (mI m 8) ≤ x3 then
      if vI x3 (mLen 2) then
        lt (smA m 2 (upd (mA m 2) x3.toNatClampNeg 0)) fun m_4 =>
        lt (x3 + 1) fun x3_5 =>
        some (.inl (x3_5, m_4))
      else none
    else
      if vI x3 (mLen 6) then
        if vI x3 (mLen 2) then
          lt (smA m 2 (upd (mA m 2) x3.toNatClampNeg (mA m 6 x3.toNatClampNeg))) fun m_8 =>
          lt (x3 + 1) fun x3_9 =>
          some (.inl (x3_9, m_8))
        else none
      else none
set_option maxRecDepth 20000 in
theorem w_X7_takeDigits_L15 {g : Cx} {mc ms : Nat} {c : CS} {m : MS} {z : Nat → Int64} {x1 : Int32} {x2 : Int32} {x3 : Int32} {s : ((Int32 × MS) ⊕ (MS))}  (hG : Gd g RX7 cX7_takeDigits 4 1 mc ms) (h : f_X7_takeDigits_L15 x1 x2 x3 m = some s) (hK : Sum.elim (fun a => AW g 15 [(0, .ref (wad (cxw g) 17)), (1, .int x1), (2, .int x2), (3, .int a.1)] [] (c, a.2, z) 0 0) (fun e => AW g 50 [(0, .ref (wad (cxw g) 17)), (1, .int x1), (2, .int x2)] [] (c, e, z) 0 0) s) : AW g 15 [(0, .ref (wad (cxw g) 17)), (1, .int x1), (2, .int x2), (3, .int x3)] [] (c, m, z) 0 0 := by
  unfold f_X7_takeDigits_L15 at h
  refine aw_iload_n hG 3 rfl dX7_takeDigits_15 rfl ?_
  refine aw_iload_n hG 1 rfl dX7_takeDigits_16 rfl ?_
  refine aw_icmp_ge (t := 50) hG dX7_takeDigits_17 rfl (fun hc => ?_) (fun hc => ?_)
  · replace h := it_p hc h
    obtain rfl := Option.some.inj h
    refine aw_sub (L' := [(0, .ref (wad (cxw g) 17)), (1, .int x1), (2, .int x2)]) [0, 1, 2] rfl ?_
    exact hK
  · replace h := it_n hc h
    refine aw_aload_n hG 0 rfl dX7_takeDigits_20 rfl ?_
    refine gt_m_digits hG l_794 dX7_takeDigits_21 ?_
    refine aw_iload_n hG 3 rfl dX7_takeDigits_24 rfl ?_
    refine aw_iload_n hG 3 rfl dX7_takeDigits_25 rfl ?_
    refine aw_aload_n hG 0 rfl dX7_takeDigits_26 rfl ?_
    refine gt_m_exactMany hG l_791 dX7_takeDigits_27 ?_
    refine aw_icmp_ge (t := 42) hG dX7_takeDigits_30 rfl (fun hc => ?_) (fun hc => ?_)
    · replace h := it_p hc h
      refine aw_iconst (v := 0) hG dX7_takeDigits_42 rfl ?_
      obtain ⟨hi_3, h⟩ := it_o h
      refine as_mA hG (by decide) hi_3 dX7_takeDigits_43 ?_
      refine aw_stm (fun m_4 hm_4 => ?_)
      replace h := lt_r hm_4 h
      obtain ⟨x3_5, hx3_5⟩ : ∃ y : Int32, y = x3 + 1 := ⟨_, rfl⟩
      replace h := lt_r hx3_5 h
      refine aw_iinc (v := x3_5) (L' := [(3, .int x3_5), (0, .ref (wad (cxw g) 17)), (1, .int x1), (2, .int x2)]) hG 3 rfl dX7_takeDigits_44 (by rw [hx3_5]; rfl) (by decide) rfl ?_
      refine aw_goto (t := 15) hG dX7_takeDigits_47 rfl ?_
      obtain rfl := Option.some.inj h
      refine aw_sub (L' := [(0, .ref (wad (cxw g) 17)), (1, .int x1), (2, .int x2), (3, .int x3_5)]) [1, 2, 3, 0] rfl ?_
      exact hK
    · replace h := it_n hc h
      refine aw_aload_n hG 0 rfl dX7_takeDigits_33 rfl ?_
      refine gt_m_exact hG l_788 dX7_takeDigits_34 ?_
      refine aw_iload_n hG 3 rfl dX7_takeDigits_37 rfl ?_
      obtain ⟨hi_6, h⟩ := it_o h
      refine al_mA (x := 0) hG (by decide) hi_6 dX7_takeDigits_38 ?_
      refine aw_goto (t := 43) hG dX7_takeDigits_39 rfl ?_
      obtain ⟨hi_7, h⟩ := it_o h
      refine as_mA hG (by decide) hi_7 dX7_takeDigits_43 ?_
      refine aw_stm (fun m_8 hm_8 => ?_)
      replace h := lt_r hm_8 h
      obtain ⟨x3_9, hx3_9⟩ : ∃ y : Int32, y = x3 + 1 := ⟨_, rfl⟩
      replace h := lt_r hx3_9 h
      refine aw_iinc (v := x3_9) (L' := [(3, .int x3_9), (0, .ref (wad (cxw g) 17)), (1, .int x1), (2, .int x2)]) hG 3 rfl dX7_takeDigits_44 (by rw [hx3_9]; rfl) (by decide) rfl ?_
      refine aw_goto (t := 15) hG dX7_takeDigits_47 rfl ?_
      obtain rfl := Option.some.inj h
      refine aw_sub (L' := [(0, .ref (wad (cxw g) 17)), (1, .int x1), (2, .int x2), (3, .int x3_9)]) [1, 2, 3, 0] rfl ?_
      exact hK
def f_X7_takeDigits_L59 (x3 : Int32) (m : MS) : Option ((Int32 × MS) ⊕ ((Int32 × MS))) :=
  if x3 < 0 then
    some (.inr (x3, m))
  else
    if vI x3 (mLen 2) then
      if (mA m 2 x3.toNatClampNeg) = 9 then
        if vI x3 (mLen 2) then
          lt (smA m 2 (upd (mA m 2) x3.toNatClampNeg 0)) fun m_16 =>
          lt (x3 + (-1)) fun x3_17 =>
          some (.inl (x3_17, m_16))
        else none
      else
        some (.inr (x3, m))
    else none
set_option maxRecDepth 20000 in
theorem w_X7_takeDigits_L59 {g : Cx} {mc ms : Nat} {c : CS} {m : MS} {z : Nat → Int64} {x3 : Int32} {s : ((Int32 × MS) ⊕ ((Int32 × MS)))}  (hG : Gd g RX7 cX7_takeDigits 4 1 mc ms) (h : f_X7_takeDigits_L59 x3 m = some s) (hK : Sum.elim (fun a => AW g 59 [(0, .ref (wad (cxw g) 17)), (3, .int a.1)] [] (c, a.2, z) 0 0) (fun e => AW g 87 [(0, .ref (wad (cxw g) 17)), (3, .int e.1)] [] (c, e.2, z) 0 0) s) : AW g 59 [(0, .ref (wad (cxw g) 17)), (3, .int x3)] [] (c, m, z) 0 0 := by
  unfold f_X7_takeDigits_L59 at h
  refine aw_iload_n hG 1 rfl dX7_takeDigits_59 rfl ?_
  refine aw_if_lt (t := 87) hG dX7_takeDigits_60 rfl (fun hc => ?_) (fun hc => ?_)
  · replace h := it_p hc h
    obtain rfl := Option.some.inj h
    exact hK
  · replace h := it_n hc h
    refine aw_aload_n hG 0 rfl dX7_takeDigits_63 rfl ?_
    refine gt_m_digits hG l_794 dX7_takeDigits_64 ?_
    refine aw_iload_n hG 1 rfl dX7_takeDigits_67 rfl ?_
    obtain ⟨hi_14, h⟩ := it_o h
    refine al_mA (x := 0) hG (by decide) hi_14 dX7_takeDigits_68 ?_
    refine aw_bipush (v := 9) hG dX7_takeDigits_69 rfl ?_
    refine aw_icmp_ne (t := 87) hG dX7_takeDigits_71 rfl (fun hc => ?_) (fun hc => ?_)
    · replace h := it_n hc h
      obtain rfl := Option.some.inj h
      exact hK
    · replace h := it_p hc h
      refine aw_aload_n hG 0 rfl dX7_takeDigits_74 rfl ?_
      refine gt_m_digits hG l_794 dX7_takeDigits_75 ?_
      refine aw_iload_n hG 1 rfl dX7_takeDigits_78 rfl ?_
      refine aw_iconst (v := 0) hG dX7_takeDigits_79 rfl ?_
      obtain ⟨hi_15, h⟩ := it_o h
      refine as_mA hG (by decide) hi_15 dX7_takeDigits_80 ?_
      refine aw_stm (fun m_16 hm_16 => ?_)
      replace h := lt_r hm_16 h
      obtain ⟨x3_17, hx3_17⟩ : ∃ y : Int32, y = x3 + (-1) := ⟨_, rfl⟩
      replace h := lt_r hx3_17 h
      refine aw_iinc (v := x3_17) (L' := [(3, .int x3_17), (0, .ref (wad (cxw g) 17))]) hG 1 rfl dX7_takeDigits_81 (by rw [hx3_17]; rfl) (by decide) rfl ?_
      refine aw_goto (t := 59) hG dX7_takeDigits_84 rfl ?_
      obtain rfl := Option.some.inj h
      refine aw_sub (L' := [(0, .ref (wad (cxw g) 17)), (3, .int x3_17)]) [1, 0] rfl ?_
      exact hK
noncomputable def f_X7_takeDigits (x1 : Int32) (x2 : Int32) (m : MS) : Option MS :=
  lt (smI m 3 x1) fun m_1 =>
  lt (smI m_1 4 (mI m_1 9)) fun m_2 =>
  Option.bind (Lp (fun a => f_X7_takeDigits_L15 x1 x2 a.1 a.2) (0, m_2)) fun e_12 =>
  if x2 = 0 then
    some e_12
  else
    lt (x1 - 1) fun x3_13 =>
    Option.bind (Lp (fun a => f_X7_takeDigits_L59 a.1 a.2) (x3_13, e_12)) fun e_20 =>
    if e_20.1 < 0 then
      if vI 0 (mLen 2) then
        lt (smA e_20.2 2 (upd (mA e_20.2 2) (0 : Int32).toNatClampNeg 1)) fun m_22 =>
        lt (smI m_22 4 ((mI m_22 4) + 1)) fun m_23 =>
        some m_23
      else none
    else
      if vI e_20.1 (mLen 2) then
        if vI e_20.1 (mLen 2) then
          lt (smA e_20.2 2 (upd (mA e_20.2 2) e_20.1.toNatClampNeg ((mA e_20.2 2 e_20.1.toNatClampNeg) + 1))) fun m_26 =>
          some m_26
        else none
      else none
set_option maxRecDepth 20000 in
theorem w_X7_takeDigits {g : Cx} {mc ms : Nat} {c : CS} {m : MS} {z : Nat → Int64} {x1 : Int32} {x2 : Int32} {s : MS}  (hG : Gd g RX7 cX7_takeDigits 4 1 mc ms) (h : f_X7_takeDigits x1 x2 m = some s) (hK : FinV g cX7_takeDigits mc ms (c, s, z)) : AW g 0 [(0, .ref (wad (cxw g) 17)), (1, .int x1), (2, .int x2)] [] (c, m, z) 0 0 := by
  unfold f_X7_takeDigits at h
  refine aw_aload_n hG 0 rfl dX7_takeDigits_0 rfl ?_
  refine aw_iload_n hG 1 rfl dX7_takeDigits_1 rfl ?_
  refine pt_m_many hG l_792 dX7_takeDigits_2 ?_
  refine aw_stm (fun m_1 hm_1 => ?_)
  replace h := lt_r hm_1 h
  refine aw_aload_n hG 0 rfl dX7_takeDigits_5 rfl ?_
  refine aw_aload_n hG 0 rfl dX7_takeDigits_6 rfl ?_
  refine gt_m_exactPoint hG l_790 dX7_takeDigits_7 ?_
  refine pt_m_point hG l_793 dX7_takeDigits_10 ?_
  refine aw_stm (fun m_2 hm_2 => ?_)
  replace h := lt_r hm_2 h
  refine aw_iconst (v := 0) hG dX7_takeDigits_13 rfl ?_
  refine aw_istore_n (L' := [(3, .int 0), (0, .ref (wad (cxw g) 17)), (1, .int x1), (2, .int x2)]) hG dX7_takeDigits_14 rfl (by decide) rfl ?_
  obtain ⟨e_12, he, h⟩ := bd_o h
  refine aw_sub (L' := [(0, .ref (wad (cxw g) 17)), (1, .int x1), (2, .int x2), (3, .int 0)]) [1, 2, 3, 0] rfl ?_
  refine Lp_w (F := (fun a => f_X7_takeDigits_L15 x1 x2 a.1 a.2)) (S := (fun a => AW g 15 [(0, .ref (wad (cxw g) 17)), (1, .int x1), (2, .int x2), (3, .int a.1)] [] (c, a.2, z) 0 0)) (E := (fun e => AW g 50 [(0, .ref (wad (cxw g) 17)), (1, .int x1), (2, .int x2)] [] (c, e, z) 0 0)) (a := (0, m_2)) he (fun a s h hK => w_X7_takeDigits_L15 (x1 := x1) (x2 := x2) (x3 := a.1) (m := a.2) hG h hK) ?_
  show AW g 50 _ _ _ 0 0
  refine aw_iload_n hG 2 rfl dX7_takeDigits_50 rfl ?_
  refine aw_if_ne (t := 55) hG dX7_takeDigits_51 rfl (fun hc => ?_) (fun hc => ?_)
  · replace h := it_n hc h
    refine aw_iload_n hG 1 rfl dX7_takeDigits_55 rfl ?_
    refine aw_iconst (v := 1) hG dX7_takeDigits_56 rfl ?_
    refine aw_isub hG dX7_takeDigits_57 ?_
    refine aw_topi (fun x3_13 hx3_13 => ?_)
    replace h := lt_r hx3_13 h
    refine aw_istore_n (L' := [(3, .int x3_13), (0, .ref (wad (cxw g) 17)), (1, .int x1), (2, .int x2)]) hG dX7_takeDigits_58 rfl (by decide) rfl ?_
    obtain ⟨e_20, he, h⟩ := bd_o h
    refine aw_sub (L' := [(0, .ref (wad (cxw g) 17)), (3, .int x3_13)]) [1, 0] rfl ?_
    refine Lp_w (F := (fun a => f_X7_takeDigits_L59 a.1 a.2)) (S := (fun a => AW g 59 [(0, .ref (wad (cxw g) 17)), (3, .int a.1)] [] (c, a.2, z) 0 0)) (E := (fun e => AW g 87 [(0, .ref (wad (cxw g) 17)), (3, .int e.1)] [] (c, e.2, z) 0 0)) (a := (x3_13, e_12)) he (fun a s h hK => w_X7_takeDigits_L59 (x3 := a.1) (m := a.2) hG h hK) ?_
    show AW g 87 _ _ _ 0 0
    refine aw_iload_n hG 1 rfl dX7_takeDigits_87 rfl ?_
    refine aw_if_lt (t := 104) hG dX7_takeDigits_88 rfl (fun hc => ?_) (fun hc => ?_)
    · replace h := it_p hc h
      refine aw_aload_n hG 0 rfl dX7_takeDigits_104 rfl ?_
      refine gt_m_digits hG l_794 dX7_takeDigits_105 ?_
      refine aw_iconst (v := 0) hG dX7_takeDigits_108 rfl ?_
      refine aw_iconst (v := 1) hG dX7_takeDigits_109 rfl ?_
      obtain ⟨hi_21, h⟩ := it_o h
      refine as_mA hG (by decide) hi_21 dX7_takeDigits_110 ?_
      refine aw_stm (fun m_22 hm_22 => ?_)
      replace h := lt_r hm_22 h
      refine aw_aload_n hG 0 rfl dX7_takeDigits_111 rfl ?_
      refine aw_dup hG dX7_takeDigits_112 rfl ?_
      refine gt_m_point hG l_793 dX7_takeDigits_113 ?_
      refine aw_iconst (v := 1) hG dX7_takeDigits_116 rfl ?_
      refine aw_iadd hG dX7_takeDigits_117 ?_
      refine pt_m_point hG l_793 dX7_takeDigits_118 ?_
      refine aw_stm (fun m_23 hm_23 => ?_)
      replace h := lt_r hm_23 h
      obtain rfl := Option.some.inj h
      exact FinV.z hK dX7_takeDigits_121
    · replace h := it_n hc h
      refine aw_aload_n hG 0 rfl dX7_takeDigits_91 rfl ?_
      refine gt_m_digits hG l_794 dX7_takeDigits_92 ?_
      refine aw_iload_n hG 1 rfl dX7_takeDigits_95 rfl ?_
      refine aw_dup2 hG dX7_takeDigits_96 rfl rfl ?_
      obtain ⟨hi_24, h⟩ := it_o h
      refine al_mA (x := 0) hG (by decide) hi_24 dX7_takeDigits_97 ?_
      refine aw_iconst (v := 1) hG dX7_takeDigits_98 rfl ?_
      refine aw_iadd hG dX7_takeDigits_99 ?_
      obtain ⟨hi_25, h⟩ := it_o h
      refine as_mA hG (by decide) hi_25 dX7_takeDigits_100 ?_
      refine aw_stm (fun m_26 hm_26 => ?_)
      replace h := lt_r hm_26 h
      refine aw_goto (t := 121) hG dX7_takeDigits_101 rfl ?_
      obtain rfl := Option.some.inj h
      exact FinV.z hK dX7_takeDigits_121
  · replace h := it_p hc h
    obtain rfl := Option.some.inj h
    exact FinV.z hK dX7_takeDigits_54
theorem c_X7_takeDigits {c : CS} {m : MS} {z : Nat → Int64} {x1 : Int32} {x2 : Int32} {s : MS}  (h : f_X7_takeDigits x1 x2 m = some s) : Ct yX7_takeDigits cX7_takeDigits 4 none 1 (fun w => [.ref (wad w 17), .int x1, .int x2]) (c, m, z) (fun _ => none) (c, s, z) := Ct_ofV (by decide +kernel) (fun _ => Nat.le_of_ble_eq_true rfl) (fun g hG hK => w_X7_takeDigits hG h hK)
def f_X7_behindHalf (x1 : Int32) (m : MS) : Option Int32 :=
  if x1 < (mI m 8) then
    if vI x1 (mLen 6) then
      lt (mA m 6 x1.toNatClampNeg) fun x2_2 =>
      if x2_2 = 5 then
        if (mI m 8) ≤ (x1 + 1) then
          some 0
        else
          some 1
      else
        if 5 ≤ x2_2 then
          some 1
        else
          some (-1)
    else none
  else
    some (-2)
set_option maxRecDepth 20000 in
theorem w_X7_behindHalf {g : Cx} {mc ms : Nat} {c : CS} {m : MS} {z : Nat → Int64} {x1 : Int32} {s : Int32}  (hG : Gd g RX7 cX7_behindHalf 3 1 mc ms) (h : f_X7_behindHalf x1 m = some s) (hK : FinI g cX7_behindHalf mc ms s (c, m, z)) : AW g 0 [(0, .ref (wad (cxw g) 17)), (1, .int x1)] [] (c, m, z) 0 0 := by
  unfold f_X7_behindHalf at h
  refine aw_iload_n hG 1 rfl dX7_behindHalf_0 rfl ?_
  refine aw_aload_n hG 0 rfl dX7_behindHalf_1 rfl ?_
  refine gt_m_exactMany hG l_791 dX7_behindHalf_2 ?_
  refine aw_icmp_lt (t := 11) hG dX7_behindHalf_5 rfl (fun hc => ?_) (fun hc => ?_)
  · replace h := it_p hc h
    refine aw_aload_n hG 0 rfl dX7_behindHalf_11 rfl ?_
    refine gt_m_exact hG l_788 dX7_behindHalf_12 ?_
    refine aw_iload_n hG 1 rfl dX7_behindHalf_15 rfl ?_
    obtain ⟨hi_1, h⟩ := it_o h
    refine al_mA (x := 0) hG (by decide) hi_1 dX7_behindHalf_16 ?_
    refine aw_topi (fun x2_2 hx2_2 => ?_)
    replace h := lt_r hx2_2 h
    refine aw_istore_n (L' := [(2, .int x2_2), (0, .ref (wad (cxw g) 17)), (1, .int x1)]) hG dX7_behindHalf_17 rfl (by decide) rfl ?_
    refine aw_iload_n hG 0 rfl dX7_behindHalf_18 rfl ?_
    refine aw_iconst (v := 5) hG dX7_behindHalf_19 rfl ?_
    refine aw_icmp_eq (t := 36) hG dX7_behindHalf_20 rfl (fun hc => ?_) (fun hc => ?_)
    · replace h := it_p hc h
      refine aw_iload_n hG 2 rfl dX7_behindHalf_36 rfl ?_
      refine aw_iconst (v := 1) hG dX7_behindHalf_37 rfl ?_
      refine aw_iadd hG dX7_behindHalf_38 ?_
      refine aw_aload_n hG 1 rfl dX7_behindHalf_39 rfl ?_
      refine gt_m_exactMany hG l_791 dX7_behindHalf_40 ?_
      refine aw_icmp_ge (t := 50) hG dX7_behindHalf_43 rfl (fun hc => ?_) (fun hc => ?_)
      · replace h := it_p hc h
        refine aw_iconst (v := 0) hG dX7_behindHalf_50 rfl ?_
        obtain rfl := Option.some.inj h
        exact FinI.z hK dX7_behindHalf_51
      · replace h := it_n hc h
        refine aw_iconst (v := 1) hG dX7_behindHalf_46 rfl ?_
        refine aw_goto (t := 51) hG dX7_behindHalf_47 rfl ?_
        obtain rfl := Option.some.inj h
        exact FinI.z hK dX7_behindHalf_51
    · replace h := it_n hc h
      refine aw_iload_n hG 0 rfl dX7_behindHalf_23 rfl ?_
      refine aw_iconst (v := 5) hG dX7_behindHalf_24 rfl ?_
      refine aw_icmp_ge (t := 32) hG dX7_behindHalf_25 rfl (fun hc => ?_) (fun hc => ?_)
      · replace h := it_p hc h
        refine aw_iconst (v := 1) hG dX7_behindHalf_32 rfl ?_
        refine aw_goto (t := 51) hG dX7_behindHalf_33 rfl ?_
        obtain rfl := Option.some.inj h
        exact FinI.z hK dX7_behindHalf_51
      · replace h := it_n hc h
        refine aw_iconst (v := (-1)) hG dX7_behindHalf_28 rfl ?_
        refine aw_goto (t := 51) hG dX7_behindHalf_29 rfl ?_
        obtain rfl := Option.some.inj h
        exact FinI.z hK dX7_behindHalf_51
  · replace h := it_n hc h
    refine aw_bipush (v := (-2)) hG dX7_behindHalf_8 rfl ?_
    obtain rfl := Option.some.inj h
    exact FinI.z hK dX7_behindHalf_10
theorem c_X7_behindHalf {c : CS} {m : MS} {z : Nat → Int64} {x1 : Int32} {s : Int32}  (h : f_X7_behindHalf x1 m = some s) : Ct yX7_behindHalf cX7_behindHalf 3 (some .int) 1 (fun w => [.ref (wad w 17), .int x1]) (c, m, z) (fun _ => some (.int s)) (c, m, z) := Ct_ofI (by decide +kernel) (fun _ => Nat.le_of_ble_eq_true rfl) (fun g hG hK => w_X7_behindHalf hG h hK)
def f_X7_goesUp (x0 : Int32) (x1 : Int32) (x2 : Int32) (x3 : Int32) : Int32 :=
  if x0 = (-2) then
    0
  else
    if x3 = 0 then
      if 0 < x0 then
        1
      else
        if x0 = 0 then
          if x1 = 0 then
            0
          else
            1
        else
          0
    else
      if x3 = 1 then
        if x0 < 0 then
          0
        else
          1
      else
        if x3 = 3 then
          if x2 = 0 then
            1
          else
            0
        else
          if x3 = 4 then
            if x2 = 0 then
              0
            else
              1
          else
            0
set_option maxRecDepth 20000 in
theorem w_X7_goesUp {g : Cx} {mc ms : Nat} {c : CS} {m : MS} {z : Nat → Int64} {x0 : Int32} {x1 : Int32} {x2 : Int32} {x3 : Int32} {s : Int32}  (hG : Gd g RX7 cX7_goesUp 4 1 mc ms) (h : f_X7_goesUp x0 x1 x2 x3 = s) (hK : FinZ g cX7_goesUp mc ms s (c, m, z)) : AW g 0 [(0, .int x0), (1, .int x1), (2, .int x2), (3, .int x3)] [] (c, m, z) 0 0 := by
  unfold f_X7_goesUp at h
  refine aw_iload_n hG 0 rfl dX7_goesUp_0 rfl ?_
  refine aw_bipush (v := (-2)) hG dX7_goesUp_1 rfl ?_
  refine aw_icmp_ne (t := 8) hG dX7_goesUp_3 rfl (fun hc => ?_) (fun hc => ?_)
  · replace h := it_n hc h
    refine aw_iload_n hG 3 rfl dX7_goesUp_8 rfl ?_
    refine aw_if_ne (t := 32) hG dX7_goesUp_9 rfl (fun hc => ?_) (fun hc => ?_)
    · replace h := it_n hc h
      refine aw_iload_n hG 3 rfl dX7_goesUp_32 rfl ?_
      refine aw_iconst (v := 1) hG dX7_goesUp_33 rfl ?_
      refine aw_icmp_ne (t := 49) hG dX7_goesUp_34 rfl (fun hc => ?_) (fun hc => ?_)
      · replace h := it_n hc h
        refine aw_iload_n hG 3 rfl dX7_goesUp_49 rfl ?_
        refine aw_iconst (v := 3) hG dX7_goesUp_50 rfl ?_
        refine aw_icmp_ne (t := 66) hG dX7_goesUp_51 rfl (fun hc => ?_) (fun hc => ?_)
        · replace h := it_n hc h
          refine aw_iload_n hG 3 rfl dX7_goesUp_66 rfl ?_
          refine aw_iconst (v := 4) hG dX7_goesUp_67 rfl ?_
          refine aw_icmp_ne (t := 79) hG dX7_goesUp_68 rfl (fun hc => ?_) (fun hc => ?_)
          · replace h := it_n hc h
            refine aw_iconst (v := 0) hG dX7_goesUp_79 rfl ?_
            subst h
            exact FinZ.z hK (Or.inl rfl) dX7_goesUp_80
          · replace h := it_p hc h
            refine aw_iload_n hG 2 rfl dX7_goesUp_71 rfl ?_
            refine aw_if_eq (t := 79) hG dX7_goesUp_72 rfl (fun hc => ?_) (fun hc => ?_)
            · replace h := it_p hc h
              refine aw_iconst (v := 0) hG dX7_goesUp_79 rfl ?_
              subst h
              exact FinZ.z hK (Or.inl rfl) dX7_goesUp_80
            · replace h := it_n hc h
              refine aw_iconst (v := 1) hG dX7_goesUp_75 rfl ?_
              refine aw_goto (t := 80) hG dX7_goesUp_76 rfl ?_
              subst h
              exact FinZ.z hK (Or.inr rfl) dX7_goesUp_80
        · replace h := it_p hc h
          refine aw_iload_n hG 2 rfl dX7_goesUp_54 rfl ?_
          refine aw_if_ne (t := 62) hG dX7_goesUp_55 rfl (fun hc => ?_) (fun hc => ?_)
          · replace h := it_n hc h
            refine aw_iconst (v := 0) hG dX7_goesUp_62 rfl ?_
            refine aw_goto (t := 80) hG dX7_goesUp_63 rfl ?_
            subst h
            exact FinZ.z hK (Or.inl rfl) dX7_goesUp_80
          · replace h := it_p hc h
            refine aw_iconst (v := 1) hG dX7_goesUp_58 rfl ?_
            refine aw_goto (t := 80) hG dX7_goesUp_59 rfl ?_
            subst h
            exact FinZ.z hK (Or.inr rfl) dX7_goesUp_80
      · replace h := it_p hc h
        refine aw_iload_n hG 0 rfl dX7_goesUp_37 rfl ?_
        refine aw_if_lt (t := 45) hG dX7_goesUp_38 rfl (fun hc => ?_) (fun hc => ?_)
        · replace h := it_p hc h
          refine aw_iconst (v := 0) hG dX7_goesUp_45 rfl ?_
          refine aw_goto (t := 80) hG dX7_goesUp_46 rfl ?_
          subst h
          exact FinZ.z hK (Or.inl rfl) dX7_goesUp_80
        · replace h := it_n hc h
          refine aw_iconst (v := 1) hG dX7_goesUp_41 rfl ?_
          refine aw_goto (t := 80) hG dX7_goesUp_42 rfl ?_
          subst h
          exact FinZ.z hK (Or.inr rfl) dX7_goesUp_80
    · replace h := it_p hc h
      refine aw_iload_n hG 0 rfl dX7_goesUp_12 rfl ?_
      refine aw_if_gt (t := 24) hG dX7_goesUp_13 rfl (fun hc => ?_) (fun hc => ?_)
      · replace h := it_p hc h
        refine aw_iconst (v := 1) hG dX7_goesUp_24 rfl ?_
        refine aw_goto (t := 80) hG dX7_goesUp_25 rfl ?_
        subst h
        exact FinZ.z hK (Or.inr rfl) dX7_goesUp_80
      · replace h := it_n hc h
        refine aw_iload_n hG 0 rfl dX7_goesUp_16 rfl ?_
        refine aw_if_ne (t := 28) hG dX7_goesUp_17 rfl (fun hc => ?_) (fun hc => ?_)
        · replace h := it_n hc h
          refine aw_iconst (v := 0) hG dX7_goesUp_28 rfl ?_
          refine aw_goto (t := 80) hG dX7_goesUp_29 rfl ?_
          subst h
          exact FinZ.z hK (Or.inl rfl) dX7_goesUp_80
        · replace h := it_p hc h
          refine aw_iload_n hG 1 rfl dX7_goesUp_20 rfl ?_
          refine aw_if_eq (t := 28) hG dX7_goesUp_21 rfl (fun hc => ?_) (fun hc => ?_)
          · replace h := it_p hc h
            refine aw_iconst (v := 0) hG dX7_goesUp_28 rfl ?_
            refine aw_goto (t := 80) hG dX7_goesUp_29 rfl ?_
            subst h
            exact FinZ.z hK (Or.inl rfl) dX7_goesUp_80
          · replace h := it_n hc h
            refine aw_iconst (v := 1) hG dX7_goesUp_24 rfl ?_
            refine aw_goto (t := 80) hG dX7_goesUp_25 rfl ?_
            subst h
            exact FinZ.z hK (Or.inr rfl) dX7_goesUp_80
  · replace h := it_p hc h
    refine aw_iconst (v := 0) hG dX7_goesUp_6 rfl ?_
    subst h
    exact FinZ.z hK (Or.inl rfl) dX7_goesUp_7
theorem c_X7_goesUp {c : CS} {m : MS} {z : Nat → Int64} {x0 : Int32} {x1 : Int32} {x2 : Int32} {x3 : Int32}  : Ct yX7_goesUp cX7_goesUp 4 (some .boolean) 1 (fun w => [.int x0, .int x1, .int x2, .int x3]) (c, m, z) (fun _ => some (.int (f_X7_goesUp x0 x1 x2 x3))) (c, m, z) := Ct_ofZ (by decide +kernel) (fun _ => Nat.le_of_ble_eq_true rfl) (fun g hG hK => w_X7_goesUp hG rfl hK)
theorem b_X7_goesUp {x0 : Int32} {x1 : Int32} {x2 : Int32} {x3 : Int32} : f_X7_goesUp x0 x1 x2 x3 = 0 ∨ f_X7_goesUp x0 x1 x2 x3 = 1 := by
  unfold f_X7_goesUp
  repeat' split
  all_goals first | exact Or.inl rfl | exact Or.inr rfl
def f_X7_put (x1 : Int32) (m : MS) : Option MS :=
  if vI (mI m 2) (mLen 1) then
    lt (smA m 1 (upd (mA m 1) (mI m 2).toNatClampNeg x1)) fun m_2 =>
    lt (smI m_2 2 ((mI m_2 2) + 1)) fun m_3 =>
    some m_3
  else none
set_option maxRecDepth 20000 in
theorem w_X7_put {g : Cx} {mc ms : Nat} {c : CS} {m : MS} {z : Nat → Int64} {x1 : Int32} {s : MS}  (hG : Gd g RX7 cX7_put 2 1 mc ms) (h : f_X7_put x1 m = some s) (hK : FinV g cX7_put mc ms (c, s, z)) : AW g 0 [(0, .ref (wad (cxw g) 17)), (1, .int x1)] [] (c, m, z) 0 0 := by
  unfold f_X7_put at h
  refine aw_aload_n hG 0 rfl dX7_put_0 rfl ?_
  refine gt_m_out hG l_727 dX7_put_1 ?_
  refine aw_aload_n hG 0 rfl dX7_put_4 rfl ?_
  refine gt_m_outSize hG l_726 dX7_put_5 ?_
  refine aw_iload_n hG 1 rfl dX7_put_8 rfl ?_
  obtain ⟨hi_1, h⟩ := it_o h
  refine as_mA hG (by decide) hi_1 dX7_put_9 ?_
  refine aw_stm (fun m_2 hm_2 => ?_)
  replace h := lt_r hm_2 h
  refine aw_aload_n hG 0 rfl dX7_put_10 rfl ?_
  refine aw_dup hG dX7_put_11 rfl ?_
  refine gt_m_outSize hG l_726 dX7_put_12 ?_
  refine aw_iconst (v := 1) hG dX7_put_15 rfl ?_
  refine aw_iadd hG dX7_put_16 ?_
  refine pt_m_outSize hG l_726 dX7_put_17 ?_
  refine aw_stm (fun m_3 hm_3 => ?_)
  replace h := lt_r hm_3 h
  obtain rfl := Option.some.inj h
  exact FinV.z hK dX7_put_20
theorem c_X7_put {c : CS} {m : MS} {z : Nat → Int64} {x1 : Int32} {s : MS}  (h : f_X7_put x1 m = some s) : Ct yX7_put cX7_put 2 none 1 (fun w => [.ref (wad w 17), .int x1]) (c, m, z) (fun _ => none) (c, s, z) := Ct_ofV (by decide +kernel) (fun _ => Nat.le_of_ble_eq_true rfl) (fun g hG hK => w_X7_put hG h hK)
def f_X7_putWord_L2 (j1 : Nat) (x2 : Int32) (m : MS) : Option ((Int32 × MS) ⊕ (MS)) :=
  if (f_JS_length j1) ≤ x2 then
    some (.inr m)
  else
    Option.bind (f_JS_charAt j1 x2) fun v_1 =>
    Option.bind (f_X7_put v_1 m) fun v_2 =>
    lt (x2 + 1) fun x2_3 =>
    some (.inl (x2_3, v_2))
set_option maxRecDepth 20000 in
theorem w_X7_putWord_L2 {g : Cx} {mc ms : Nat} {c : CS} {m : MS} {z : Nat → Int64} {j1 : Nat} {x2 : Int32} {s : ((Int32 × MS) ⊕ (MS))} (hj1 : j1 < 27) (hG : Gd g RX7 cX7_putWord 3 5 mc ms) (h : f_X7_putWord_L2 j1 x2 m = some s) (hK : Sum.elim (fun a => AW g 2 [(0, .ref (wad (cxw g) 17)), (1, .ref (wad (cxw g) (40 + j1))), (2, .int a.1)] [] (c, a.2, z) 0 0) (fun e => AW g 25 [] [] (c, e, z) 0 0) s) : AW g 2 [(0, .ref (wad (cxw g) 17)), (1, .ref (wad (cxw g) (40 + j1))), (2, .int x2)] [] (c, m, z) 0 0 := by
  unfold f_X7_putWord_L2 at h
  refine aw_iload_n hG 2 rfl dX7_putWord_2 rfl ?_
  refine aw_aload_n hG 1 rfl dX7_putWord_3 rfl ?_
  refine aw_callVi (As := []) (rest := [.int x2]) hG (c_JS_length (j0 := j1) (m := m) hj1) l_733 wv_JS_length (rv_S hG hj1) rfl rfl rfl (by decide) (Nat.zero_le _) (Nat.zero_le _) (Nat.le_of_ble_eq_true rfl) dX7_putWord_4 ?_
  refine aw_icmp_ge (t := 25) hG dX7_putWord_7 rfl (fun hc => ?_) (fun hc => ?_)
  · replace h := it_p hc h
    obtain rfl := Option.some.inj h
    refine aw_sub (L' := []) [] rfl ?_
    exact hK
  · replace h := it_n hc h
    refine aw_aload_n hG 0 rfl dX7_putWord_10 rfl ?_
    refine aw_aload_n hG 1 rfl dX7_putWord_11 rfl ?_
    refine aw_iload_n hG 2 rfl dX7_putWord_12 rfl ?_
    obtain ⟨v_1, hv_1, h⟩ := bd_o h
    refine aw_callVi (As := [.int x2]) (rest := [.ref (wad (cxw g) 17)]) hG (c_JS_charAt (j0 := j1) (x1 := x2) (m := m) hj1 hv_1) l_739 wv_JS_charAt (rv_S hG hj1) rfl rfl rfl (by decide) (Nat.zero_le _) (Nat.zero_le _) (Nat.le_of_ble_eq_true rfl) dX7_putWord_13 ?_
    obtain ⟨v_2, hv_2, h⟩ := bd_o h
    refine aw_callVv (As := [.int v_1]) (rest := []) hG (c_X7_put (x1 := v_1) (m := m)  hv_2) l_795 wv_X7_put (rv_X7 hG) rfl rfl rfl (by decide) (Nat.zero_le _) (Nat.zero_le _) (Nat.le_of_ble_eq_true rfl) dX7_putWord_16 ?_
    obtain ⟨x2_3, hx2_3⟩ : ∃ y : Int32, y = x2 + 1 := ⟨_, rfl⟩
    replace h := lt_r hx2_3 h
    refine aw_iinc (v := x2_3) (L' := [(2, .int x2_3), (0, .ref (wad (cxw g) 17)), (1, .ref (wad (cxw g) (40 + j1)))]) hG 2 rfl dX7_putWord_19 (by rw [hx2_3]; rfl) (by decide) rfl ?_
    refine aw_goto (t := 2) hG dX7_putWord_22 rfl ?_
    obtain rfl := Option.some.inj h
    refine aw_sub (L' := [(0, .ref (wad (cxw g) 17)), (1, .ref (wad (cxw g) (40 + j1))), (2, .int x2_3)]) [1, 2, 0] rfl ?_
    exact hK
noncomputable def f_X7_putWord (j1 : Nat) (m : MS) : Option MS :=
  Option.bind (Lp (fun a => f_X7_putWord_L2 j1 a.1 a.2) (0, m)) fun e_5 =>
  some e_5
set_option maxRecDepth 20000 in
theorem w_X7_putWord {g : Cx} {mc ms : Nat} {c : CS} {m : MS} {z : Nat → Int64} {j1 : Nat} {s : MS} (hj1 : j1 < 27) (hG : Gd g RX7 cX7_putWord 3 5 mc ms) (h : f_X7_putWord j1 m = some s) (hK : FinV g cX7_putWord mc ms (c, s, z)) : AW g 0 [(0, .ref (wad (cxw g) 17)), (1, .ref (wad (cxw g) (40 + j1)))] [] (c, m, z) 0 0 := by
  unfold f_X7_putWord at h
  refine aw_iconst (v := 0) hG dX7_putWord_0 rfl ?_
  refine aw_istore_n (L' := [(2, .int 0), (0, .ref (wad (cxw g) 17)), (1, .ref (wad (cxw g) (40 + j1)))]) hG dX7_putWord_1 rfl (by decide) rfl ?_
  obtain ⟨e_5, he, h⟩ := bd_o h
  refine aw_sub (L' := [(0, .ref (wad (cxw g) 17)), (1, .ref (wad (cxw g) (40 + j1))), (2, .int 0)]) [1, 2, 0] rfl ?_
  refine Lp_w (F := (fun a => f_X7_putWord_L2 j1 a.1 a.2)) (S := (fun a => AW g 2 [(0, .ref (wad (cxw g) 17)), (1, .ref (wad (cxw g) (40 + j1))), (2, .int a.1)] [] (c, a.2, z) 0 0)) (E := (fun e => AW g 25 [] [] (c, e, z) 0 0)) (a := (0, m)) he (fun a s h hK => w_X7_putWord_L2 (j1 := j1) (x2 := a.1) (m := a.2) hj1 hG h hK) ?_
  show AW g 25 _ _ _ 0 0
  obtain rfl := Option.some.inj h
  exact FinV.z hK dX7_putWord_25
theorem c_X7_putWord {c : CS} {m : MS} {z : Nat → Int64} {j1 : Nat} {s : MS} (hj1 : j1 < 27) (h : f_X7_putWord j1 m = some s) : Ct yX7_putWord cX7_putWord 3 none 5 (fun w => [.ref (wad w 17), .ref (wad w (40 + j1))]) (c, m, z) (fun _ => none) (c, s, z) := Ct_ofV (by decide +kernel) (fun _ => Nat.le_of_ble_eq_true rfl) (fun g hG hK => w_X7_putWord hj1 hG h hK)
def f_X7_putNumber_L23 (x2 : Int32) (x3 : Int32) (m : MS) : Option ((Int32) ⊕ (Int32)) :=
  if ¬ x3 = 0 then
    if (x2 / x3) < 10 then
      some (.inr x3)
    else
      lt (10 * x3) fun x3_2 =>
      some (.inl x3_2)
  else none
set_option maxRecDepth 20000 in
theorem w_X7_putNumber_L23 {g : Cx} {mc ms : Nat} {c : CS} {m : MS} {z : Nat → Int64} {x2 : Int32} {x3 : Int32} {s : ((Int32) ⊕ (Int32))}  (hG : Gd g RX7 cX7_putNumber 4 2 mc ms) (h : f_X7_putNumber_L23 x2 x3 m = some s) (hK : Sum.elim (fun a => AW g 23 [(0, .ref (wad (cxw g) 17)), (2, .int x2), (3, .int a)] [] (c, m, z) 0 0) (fun e => AW g 39 [(0, .ref (wad (cxw g) 17)), (2, .int x2), (3, .int e)] [] (c, m, z) 0 0) s) : AW g 23 [(0, .ref (wad (cxw g) 17)), (2, .int x2), (3, .int x3)] [] (c, m, z) 0 0 := by
  unfold f_X7_putNumber_L23 at h
  refine aw_iload_n hG 1 rfl dX7_putNumber_23 rfl ?_
  refine aw_iload_n hG 2 rfl dX7_putNumber_24 rfl ?_
  obtain ⟨hz_1, h⟩ := it_o h
  refine aw_idiv hG dX7_putNumber_25 hz_1 ?_
  refine aw_bipush (v := 10) hG dX7_putNumber_26 rfl ?_
  refine aw_icmp_lt (t := 39) hG dX7_putNumber_28 rfl (fun hc => ?_) (fun hc => ?_)
  · replace h := it_p hc h
    obtain rfl := Option.some.inj h
    exact hK
  · replace h := it_n hc h
    refine aw_bipush (v := 10) hG dX7_putNumber_31 rfl ?_
    refine aw_iload_n hG 2 rfl dX7_putNumber_33 rfl ?_
    refine aw_imul hG dX7_putNumber_34 ?_
    refine aw_topi (fun x3_2 hx3_2 => ?_)
    replace h := lt_r hx3_2 h
    refine aw_istore_n (L' := [(3, .int x3_2), (0, .ref (wad (cxw g) 17)), (2, .int x2)]) hG dX7_putNumber_35 rfl (by decide) rfl ?_
    refine aw_goto (t := 23) hG dX7_putNumber_36 rfl ?_
    obtain rfl := Option.some.inj h
    refine aw_sub (L' := [(0, .ref (wad (cxw g) 17)), (2, .int x2), (3, .int x3_2)]) [1, 2, 0] rfl ?_
    exact hK
def f_X7_putNumber_L39 (x2 : Int32) (x3 : Int32) (m : MS) : Option ((Int32 × MS) ⊕ (MS)) :=
  if x3 ≤ 0 then
    some (.inr m)
  else
    if ¬ x3 = 0 then
      Option.bind (f_X7_put (48 + (irm (x2 / x3) 10)) m) fun v_6 =>
      lt (x3 / 10) fun x3_7 =>
      some (.inl (x3_7, v_6))
    else none
set_option maxRecDepth 20000 in
theorem w_X7_putNumber_L39 {g : Cx} {mc ms : Nat} {c : CS} {m : MS} {z : Nat → Int64} {x2 : Int32} {x3 : Int32} {s : ((Int32 × MS) ⊕ (MS))}  (hG : Gd g RX7 cX7_putNumber 4 2 mc ms) (h : f_X7_putNumber_L39 x2 x3 m = some s) (hK : Sum.elim (fun a => AW g 39 [(0, .ref (wad (cxw g) 17)), (2, .int x2), (3, .int a.1)] [] (c, a.2, z) 0 0) (fun e => AW g 64 [] [] (c, e, z) 0 0) s) : AW g 39 [(0, .ref (wad (cxw g) 17)), (2, .int x2), (3, .int x3)] [] (c, m, z) 0 0 := by
  unfold f_X7_putNumber_L39 at h
  refine aw_iload_n hG 2 rfl dX7_putNumber_39 rfl ?_
  refine aw_if_le (t := 64) hG dX7_putNumber_40 rfl (fun hc => ?_) (fun hc => ?_)
  · replace h := it_p hc h
    obtain rfl := Option.some.inj h
    refine aw_sub (L' := []) [] rfl ?_
    exact hK
  · replace h := it_n hc h
    refine aw_aload_n hG 0 rfl dX7_putNumber_43 rfl ?_
    refine aw_bipush (v := 48) hG dX7_putNumber_44 rfl ?_
    refine aw_iload_n hG 1 rfl dX7_putNumber_46 rfl ?_
    refine aw_iload_n hG 2 rfl dX7_putNumber_47 rfl ?_
    obtain ⟨hz_5, h⟩ := it_o h
    refine aw_idiv hG dX7_putNumber_48 hz_5 ?_
    refine aw_bipush (v := 10) hG dX7_putNumber_49 rfl ?_
    refine aw_iremJ hG dX7_putNumber_51 (by decide) ?_
    refine aw_iadd hG dX7_putNumber_52 ?_
    obtain ⟨v_6, hv_6, h⟩ := bd_o h
    refine aw_callVv (As := [.int (48 + (irm (x2 / x3) 10))]) (rest := []) hG (c_X7_put (x1 := 48 + (irm (x2 / x3) 10)) (m := m)  hv_6) l_795 wv_X7_put (rv_X7 hG) rfl rfl rfl (by decide) (Nat.zero_le _) (Nat.zero_le _) (Nat.le_of_ble_eq_true rfl) dX7_putNumber_53 ?_
    refine aw_iload_n hG 2 rfl dX7_putNumber_56 rfl ?_
    refine aw_bipush (v := 10) hG dX7_putNumber_57 rfl ?_
    refine aw_idiv hG dX7_putNumber_59 (by decide) ?_
    refine aw_topi (fun x3_7 hx3_7 => ?_)
    replace h := lt_r hx3_7 h
    refine aw_istore_n (L' := [(3, .int x3_7), (0, .ref (wad (cxw g) 17)), (2, .int x2)]) hG dX7_putNumber_60 rfl (by decide) rfl ?_
    refine aw_goto (t := 39) hG dX7_putNumber_61 rfl ?_
    obtain rfl := Option.some.inj h
    refine aw_sub (L' := [(0, .ref (wad (cxw g) 17)), (2, .int x2), (3, .int x3_7)]) [1, 2, 0] rfl ?_
    exact hK
noncomputable def f_X7_putNumber_J10 (x1 : Int32) (s0 : Int32) (m : MS) : Option MS :=
  if 0 ≤ x1 then
    Option.bind (Lp (fun a => f_X7_putNumber_L23 s0 a m) 1) fun e_4 =>
    Option.bind (Lp (fun a => f_X7_putNumber_L39 s0 a.1 a.2) (e_4, m)) fun e_9 =>
    some e_9
  else
    Option.bind (f_X7_put 45 m) fun v_10 =>
    Option.bind (Lp (fun a => f_X7_putNumber_L23 s0 a v_10) 1) fun e_11 =>
    Option.bind (Lp (fun a => f_X7_putNumber_L39 s0 a.1 a.2) (e_11, v_10)) fun e_12 =>
    some e_12
set_option maxRecDepth 20000 in
theorem w_X7_putNumber_J10 {g : Cx} {mc ms : Nat} {c : CS} {m : MS} {z : Nat → Int64} {x1 : Int32} {s0 : Int32} {s : MS}  (hG : Gd g RX7 cX7_putNumber 4 2 mc ms) (h : f_X7_putNumber_J10 x1 s0 m = some s) (hK : FinV g cX7_putNumber mc ms (c, s, z)) : AW g 10 [(0, .ref (wad (cxw g) 17)), (1, .int x1)] [.int s0] (c, m, z) 0 0 := by
  unfold f_X7_putNumber_J10 at h
  refine aw_istore_n (L' := [(2, .int s0), (0, .ref (wad (cxw g) 17)), (1, .int x1)]) hG dX7_putNumber_10 rfl (by decide) rfl ?_
  refine aw_iload_n hG 2 rfl dX7_putNumber_11 rfl ?_
  refine aw_if_ge (t := 21) hG dX7_putNumber_12 rfl (fun hc => ?_) (fun hc => ?_)
  · replace h := it_p hc h
    refine aw_iconst (v := 1) hG dX7_putNumber_21 rfl ?_
    refine aw_istore_n (L' := [(3, .int 1), (2, .int s0), (0, .ref (wad (cxw g) 17)), (1, .int x1)]) hG dX7_putNumber_22 rfl (by decide) rfl ?_
    obtain ⟨e_4, he, h⟩ := bd_o h
    refine aw_sub (L' := [(0, .ref (wad (cxw g) 17)), (2, .int s0), (3, .int 1)]) [2, 1, 0] rfl ?_
    refine Lp_w (F := (fun a => f_X7_putNumber_L23 s0 a m)) (S := (fun a => AW g 23 [(0, .ref (wad (cxw g) 17)), (2, .int s0), (3, .int a)] [] (c, m, z) 0 0)) (E := (fun e => AW g 39 [(0, .ref (wad (cxw g) 17)), (2, .int s0), (3, .int e)] [] (c, m, z) 0 0)) (a := 1) he (fun a s h hK => w_X7_putNumber_L23 (x2 := s0) (x3 := a) (m := m) hG h hK) ?_
    show AW g 39 _ _ _ 0 0
    obtain ⟨e_9, he, h⟩ := bd_o h
    refine Lp_w (F := (fun a => f_X7_putNumber_L39 s0 a.1 a.2)) (S := (fun a => AW g 39 [(0, .ref (wad (cxw g) 17)), (2, .int s0), (3, .int a.1)] [] (c, a.2, z) 0 0)) (E := (fun e => AW g 64 [] [] (c, e, z) 0 0)) (a := (e_4, m)) he (fun a s h hK => w_X7_putNumber_L39 (x2 := s0) (x3 := a.1) (m := a.2) hG h hK) ?_
    show AW g 64 _ _ _ 0 0
    obtain rfl := Option.some.inj h
    exact FinV.z hK dX7_putNumber_64
  · replace h := it_n hc h
    refine aw_aload_n hG 1 rfl dX7_putNumber_15 rfl ?_
    refine aw_bipush (v := 45) hG dX7_putNumber_16 rfl ?_
    obtain ⟨v_10, hv_10, h⟩ := bd_o h
    refine aw_callVv (As := [.int 45]) (rest := []) hG (c_X7_put (x1 := 45) (m := m)  hv_10) l_795 wv_X7_put (rv_X7 hG) rfl rfl rfl (by decide) (Nat.zero_le _) (Nat.zero_le _) (Nat.le_of_ble_eq_true rfl) dX7_putNumber_18 ?_
    refine aw_iconst (v := 1) hG dX7_putNumber_21 rfl ?_
    refine aw_istore_n (L' := [(3, .int 1), (2, .int s0), (0, .ref (wad (cxw g) 17)), (1, .int x1)]) hG dX7_putNumber_22 rfl (by decide) rfl ?_
    obtain ⟨e_11, he, h⟩ := bd_o h
    refine aw_sub (L' := [(0, .ref (wad (cxw g) 17)), (2, .int s0), (3, .int 1)]) [2, 1, 0] rfl ?_
    refine Lp_w (F := (fun a => f_X7_putNumber_L23 s0 a v_10)) (S := (fun a => AW g 23 [(0, .ref (wad (cxw g) 17)), (2, .int s0), (3, .int a)] [] (c, v_10, z) 0 0)) (E := (fun e => AW g 39 [(0, .ref (wad (cxw g) 17)), (2, .int s0), (3, .int e)] [] (c, v_10, z) 0 0)) (a := 1) he (fun a s h hK => w_X7_putNumber_L23 (x2 := s0) (x3 := a) (m := v_10) hG h hK) ?_
    show AW g 39 _ _ _ 0 0
    obtain ⟨e_12, he, h⟩ := bd_o h
    refine Lp_w (F := (fun a => f_X7_putNumber_L39 s0 a.1 a.2)) (S := (fun a => AW g 39 [(0, .ref (wad (cxw g) 17)), (2, .int s0), (3, .int a.1)] [] (c, a.2, z) 0 0)) (E := (fun e => AW g 64 [] [] (c, e, z) 0 0)) (a := (e_11, v_10)) he (fun a s h hK => w_X7_putNumber_L39 (x2 := s0) (x3 := a.1) (m := a.2) hG h hK) ?_
    show AW g 64 _ _ _ 0 0
    obtain rfl := Option.some.inj h
    exact FinV.z hK dX7_putNumber_64
noncomputable def f_X7_putNumber (x1 : Int32) (m : MS) : Option MS :=
  if 0 ≤ x1 then
    f_X7_putNumber_J10 x1 x1 m
  else
    f_X7_putNumber_J10 x1 (-x1) m
set_option maxRecDepth 20000 in
theorem w_X7_putNumber {g : Cx} {mc ms : Nat} {c : CS} {m : MS} {z : Nat → Int64} {x1 : Int32} {s : MS}  (hG : Gd g RX7 cX7_putNumber 4 2 mc ms) (h : f_X7_putNumber x1 m = some s) (hK : FinV g cX7_putNumber mc ms (c, s, z)) : AW g 0 [(0, .ref (wad (cxw g) 17)), (1, .int x1)] [] (c, m, z) 0 0 := by
  unfold f_X7_putNumber at h
  refine aw_iload_n hG 1 rfl dX7_putNumber_0 rfl ?_
  refine aw_if_ge (t := 9) hG dX7_putNumber_1 rfl (fun hc => ?_) (fun hc => ?_)
  · replace h := it_p hc h
    refine aw_iload_n hG 1 rfl dX7_putNumber_9 rfl ?_
    exact w_X7_putNumber_J10 (x1 := x1) (s0 := x1) (m := m) hG h hK
  · replace h := it_n hc h
    refine aw_iload_n hG 1 rfl dX7_putNumber_4 rfl ?_
    refine aw_ineg hG dX7_putNumber_5 ?_
    refine aw_goto (t := 10) hG dX7_putNumber_6 rfl ?_
    exact w_X7_putNumber_J10 (x1 := x1) (s0 := -x1) (m := m) hG h hK
theorem c_X7_putNumber {c : CS} {m : MS} {z : Nat → Int64} {x1 : Int32} {s : MS}  (h : f_X7_putNumber x1 m = some s) : Ct yX7_putNumber cX7_putNumber 4 none 2 (fun w => [.ref (wad w 17), .int x1]) (c, m, z) (fun _ => none) (c, s, z) := Ct_ofV (by decide +kernel) (fun _ => Nat.le_of_ble_eq_true rfl) (fun g hG hK => w_X7_putNumber hG h hK)
def f_X7_write_J234 (x3 : Int32) (s0 : Int32) (m : MS) : Option ((Int32 × MS) ⊕ (MS)) :=
  Option.bind (f_X7_put s0 m) fun v_2 =>
  lt (x3 + 1) fun x3_3 =>
  some (.inl (x3_3, v_2))
set_option maxRecDepth 20000 in
theorem w_X7_write_J234 {g : Cx} {mc ms : Nat} {c : CS} {m : MS} {z : Nat → Int64} {x3 : Int32} {s0 : Int32} {s : ((Int32 × MS) ⊕ (MS))}  (hG : Gd g RX7 cX7_write 4 6 mc ms) (h : f_X7_write_J234 x3 s0 m = some s) (hK : Sum.elim (fun a => AW g 203 [(0, .ref (wad (cxw g) 17)), (3, .int a.1)] [] (c, a.2, z) 0 0) (fun e => AW g 243 [(0, .ref (wad (cxw g) 17))] [] (c, e, z) 0 0) s) : AW g 234 [(0, .ref (wad (cxw g) 17)), (3, .int x3)] [.int s0, .ref (wad (cxw g) 17)] (c, m, z) 0 0 := by
  unfold f_X7_write_J234 at h
  obtain ⟨v_2, hv_2, h⟩ := bd_o h
  refine aw_callVv (As := [.int s0]) (rest := []) hG (c_X7_put (x1 := s0) (m := m)  hv_2) l_795 wv_X7_put (rv_X7 hG) rfl rfl rfl (by decide) (Nat.zero_le _) (Nat.zero_le _) (Nat.le_of_ble_eq_true rfl) dX7_write_234 ?_
  obtain ⟨x3_3, hx3_3⟩ : ∃ y : Int32, y = x3 + 1 := ⟨_, rfl⟩
  replace h := lt_r hx3_3 h
  refine aw_iinc (v := x3_3) (L' := [(3, .int x3_3), (0, .ref (wad (cxw g) 17))]) hG 1 rfl dX7_write_237 (by rw [hx3_3]; rfl) (by decide) rfl ?_
  refine aw_goto (t := 203) hG dX7_write_240 rfl ?_
  obtain rfl := Option.some.inj h
  refine aw_sub (L' := [(0, .ref (wad (cxw g) 17)), (3, .int x3_3)]) [1, 0] rfl ?_
  exact hK
def f_X7_write_L203 (x3 : Int32) (m : MS) : Option ((Int32 × MS) ⊕ (MS)) :=
  if (mI m 4) ≤ x3 then
    some (.inr m)
  else
    if (mI m 3) ≤ x3 then
      f_X7_write_J234 x3 48 m
    else
      if vI x3 (mLen 2) then
        f_X7_write_J234 x3 (48 + (mA m 2 x3.toNatClampNeg)) m
      else none
set_option maxRecDepth 20000 in
theorem w_X7_write_L203 {g : Cx} {mc ms : Nat} {c : CS} {m : MS} {z : Nat → Int64} {x3 : Int32} {s : ((Int32 × MS) ⊕ (MS))}  (hG : Gd g RX7 cX7_write 4 6 mc ms) (h : f_X7_write_L203 x3 m = some s) (hK : Sum.elim (fun a => AW g 203 [(0, .ref (wad (cxw g) 17)), (3, .int a.1)] [] (c, a.2, z) 0 0) (fun e => AW g 243 [(0, .ref (wad (cxw g) 17))] [] (c, e, z) 0 0) s) : AW g 203 [(0, .ref (wad (cxw g) 17)), (3, .int x3)] [] (c, m, z) 0 0 := by
  unfold f_X7_write_L203 at h
  refine aw_iload_n hG 1 rfl dX7_write_203 rfl ?_
  refine aw_aload_n hG 0 rfl dX7_write_204 rfl ?_
  refine gt_m_point hG l_793 dX7_write_205 ?_
  refine aw_icmp_ge (t := 243) hG dX7_write_208 rfl (fun hc => ?_) (fun hc => ?_)
  · replace h := it_p hc h
    obtain rfl := Option.some.inj h
    refine aw_sub (L' := [(0, .ref (wad (cxw g) 17))]) [0] rfl ?_
    exact hK
  · replace h := it_n hc h
    refine aw_aload_n hG 0 rfl dX7_write_211 rfl ?_
    refine aw_iload_n hG 1 rfl dX7_write_212 rfl ?_
    refine aw_aload_n hG 0 rfl dX7_write_213 rfl ?_
    refine gt_m_many hG l_792 dX7_write_214 ?_
    refine aw_icmp_ge (t := 232) hG dX7_write_217 rfl (fun hc => ?_) (fun hc => ?_)
    · replace h := it_p hc h
      refine aw_bipush (v := 48) hG dX7_write_232 rfl ?_
      exact w_X7_write_J234 (x3 := x3) (s0 := 48) (m := m) hG h hK
    · replace h := it_n hc h
      refine aw_bipush (v := 48) hG dX7_write_220 rfl ?_
      refine aw_aload_n hG 0 rfl dX7_write_222 rfl ?_
      refine gt_m_digits hG l_794 dX7_write_223 ?_
      refine aw_iload_n hG 1 rfl dX7_write_226 rfl ?_
      obtain ⟨hi_4, h⟩ := it_o h
      refine al_mA (x := 0) hG (by decide) hi_4 dX7_write_227 ?_
      refine aw_iadd hG dX7_write_228 ?_
      refine aw_goto (t := 234) hG dX7_write_229 rfl ?_
      exact w_X7_write_J234 (x3 := x3) (s0 := 48 + (mA m 2 x3.toNatClampNeg)) (m := m) hG h hK
def f_X7_write_J270 (x3 : Int32) (m : MS) : Option ((Int32 × MS) ⊕ (MS)) :=
  if vI x3 (mLen 2) then
    Option.bind (f_X7_put (48 + (mA m 2 x3.toNatClampNeg)) m) fun v_10 =>
    lt (x3 + 1) fun x3_11 =>
    some (.inl (x3_11, v_10))
  else none
set_option maxRecDepth 20000 in
theorem w_X7_write_J270 {g : Cx} {mc ms : Nat} {c : CS} {m : MS} {z : Nat → Int64} {x3 : Int32} {s : ((Int32 × MS) ⊕ (MS))}  (hG : Gd g RX7 cX7_write 4 6 mc ms) (h : f_X7_write_J270 x3 m = some s) (hK : Sum.elim (fun a => AW g 248 [(0, .ref (wad (cxw g) 17)), (3, .int a.1)] [] (c, a.2, z) 0 0) (fun e => AW g 289 [(0, .ref (wad (cxw g) 17))] [] (c, e, z) 0 0) s) : AW g 270 [(0, .ref (wad (cxw g) 17)), (3, .int x3)] [] (c, m, z) 0 0 := by
  unfold f_X7_write_J270 at h
  refine aw_aload_n hG 0 rfl dX7_write_270 rfl ?_
  refine aw_bipush (v := 48) hG dX7_write_271 rfl ?_
  refine aw_aload_n hG 0 rfl dX7_write_273 rfl ?_
  refine gt_m_digits hG l_794 dX7_write_274 ?_
  refine aw_iload_n hG 1 rfl dX7_write_277 rfl ?_
  obtain ⟨hi_9, h⟩ := it_o h
  refine al_mA (x := 0) hG (by decide) hi_9 dX7_write_278 ?_
  refine aw_iadd hG dX7_write_279 ?_
  obtain ⟨v_10, hv_10, h⟩ := bd_o h
  refine aw_callVv (As := [.int (48 + (mA m 2 x3.toNatClampNeg))]) (rest := []) hG (c_X7_put (x1 := 48 + (mA m 2 x3.toNatClampNeg)) (m := m)  hv_10) l_795 wv_X7_put (rv_X7 hG) rfl rfl rfl (by decide) (Nat.zero_le _) (Nat.zero_le _) (Nat.le_of_ble_eq_true rfl) dX7_write_280 ?_
  obtain ⟨x3_11, hx3_11⟩ : ∃ y : Int32, y = x3 + 1 := ⟨_, rfl⟩
  replace h := lt_r hx3_11 h
  refine aw_iinc (v := x3_11) (L' := [(3, .int x3_11), (0, .ref (wad (cxw g) 17))]) hG 1 rfl dX7_write_283 (by rw [hx3_11]; rfl) (by decide) rfl ?_
  refine aw_goto (t := 248) hG dX7_write_286 rfl ?_
  obtain rfl := Option.some.inj h
  refine aw_sub (L' := [(0, .ref (wad (cxw g) 17)), (3, .int x3_11)]) [1, 0] rfl ?_
  exact hK
def f_X7_write_L248 (x3 : Int32) (m : MS) : Option ((Int32 × MS) ⊕ (MS)) :=
  if (mI m 3) ≤ x3 then
    some (.inr m)
  else
    if x3 = (mI m 4) then
      Option.bind (f_X7_put 46 m) fun v_12 =>
      f_X7_write_J270 x3 v_12
    else
      f_X7_write_J270 x3 m
set_option maxRecDepth 20000 in
theorem w_X7_write_L248 {g : Cx} {mc ms : Nat} {c : CS} {m : MS} {z : Nat → Int64} {x3 : Int32} {s : ((Int32 × MS) ⊕ (MS))}  (hG : Gd g RX7 cX7_write 4 6 mc ms) (h : f_X7_write_L248 x3 m = some s) (hK : Sum.elim (fun a => AW g 248 [(0, .ref (wad (cxw g) 17)), (3, .int a.1)] [] (c, a.2, z) 0 0) (fun e => AW g 289 [(0, .ref (wad (cxw g) 17))] [] (c, e, z) 0 0) s) : AW g 248 [(0, .ref (wad (cxw g) 17)), (3, .int x3)] [] (c, m, z) 0 0 := by
  unfold f_X7_write_L248 at h
  refine aw_iload_n hG 1 rfl dX7_write_248 rfl ?_
  refine aw_aload_n hG 0 rfl dX7_write_249 rfl ?_
  refine gt_m_many hG l_792 dX7_write_250 ?_
  refine aw_icmp_ge (t := 289) hG dX7_write_253 rfl (fun hc => ?_) (fun hc => ?_)
  · replace h := it_p hc h
    obtain rfl := Option.some.inj h
    refine aw_sub (L' := [(0, .ref (wad (cxw g) 17))]) [0] rfl ?_
    exact hK
  · replace h := it_n hc h
    refine aw_iload_n hG 1 rfl dX7_write_256 rfl ?_
    refine aw_aload_n hG 0 rfl dX7_write_257 rfl ?_
    refine gt_m_point hG l_793 dX7_write_258 ?_
    refine aw_icmp_ne (t := 270) hG dX7_write_261 rfl (fun hc => ?_) (fun hc => ?_)
    · replace h := it_n hc h
      exact w_X7_write_J270 (x3 := x3) (m := m) hG h hK
    · replace h := it_p hc h
      refine aw_aload_n hG 0 rfl dX7_write_264 rfl ?_
      refine aw_bipush (v := 46) hG dX7_write_265 rfl ?_
      obtain ⟨v_12, hv_12, h⟩ := bd_o h
      refine aw_callVv (As := [.int 46]) (rest := []) hG (c_X7_put (x1 := 46) (m := m)  hv_12) l_795 wv_X7_put (rv_X7 hG) rfl rfl rfl (by decide) (Nat.zero_le _) (Nat.zero_le _) (Nat.le_of_ble_eq_true rfl) dX7_write_267 ?_
      exact w_X7_write_J270 (x3 := x3) (m := v_12) hG h hK
def f_X7_write_L151 (x3 : Int32) (m : MS) : Option ((Int32 × MS) ⊕ (MS)) :=
  if 0 ≤ x3 then
    some (.inr m)
  else
    Option.bind (f_X7_put 48 m) fun v_18 =>
    lt (x3 + 1) fun x3_19 =>
    some (.inl (x3_19, v_18))
set_option maxRecDepth 20000 in
theorem w_X7_write_L151 {g : Cx} {mc ms : Nat} {c : CS} {m : MS} {z : Nat → Int64} {x3 : Int32} {s : ((Int32 × MS) ⊕ (MS))}  (hG : Gd g RX7 cX7_write 4 6 mc ms) (h : f_X7_write_L151 x3 m = some s) (hK : Sum.elim (fun a => AW g 151 [(0, .ref (wad (cxw g) 17)), (3, .int a.1)] [] (c, a.2, z) 0 0) (fun e => AW g 167 [(0, .ref (wad (cxw g) 17))] [] (c, e, z) 0 0) s) : AW g 151 [(0, .ref (wad (cxw g) 17)), (3, .int x3)] [] (c, m, z) 0 0 := by
  unfold f_X7_write_L151 at h
  refine aw_iload_n hG 1 rfl dX7_write_151 rfl ?_
  refine aw_if_ge (t := 167) hG dX7_write_152 rfl (fun hc => ?_) (fun hc => ?_)
  · replace h := it_p hc h
    obtain rfl := Option.some.inj h
    refine aw_sub (L' := [(0, .ref (wad (cxw g) 17))]) [0] rfl ?_
    exact hK
  · replace h := it_n hc h
    refine aw_aload_n hG 0 rfl dX7_write_155 rfl ?_
    refine aw_bipush (v := 48) hG dX7_write_156 rfl ?_
    obtain ⟨v_18, hv_18, h⟩ := bd_o h
    refine aw_callVv (As := [.int 48]) (rest := []) hG (c_X7_put (x1 := 48) (m := m)  hv_18) l_795 wv_X7_put (rv_X7 hG) rfl rfl rfl (by decide) (Nat.zero_le _) (Nat.zero_le _) (Nat.le_of_ble_eq_true rfl) dX7_write_158 ?_
    obtain ⟨x3_19, hx3_19⟩ : ∃ y : Int32, y = x3 + 1 := ⟨_, rfl⟩
    replace h := lt_r hx3_19 h
    refine aw_iinc (v := x3_19) (L' := [(3, .int x3_19), (0, .ref (wad (cxw g) 17))]) hG 1 rfl dX7_write_161 (by rw [hx3_19]; rfl) (by decide) rfl ?_
    refine aw_goto (t := 151) hG dX7_write_164 rfl ?_
    obtain rfl := Option.some.inj h
    refine aw_sub (L' := [(0, .ref (wad (cxw g) 17)), (3, .int x3_19)]) [1, 0] rfl ?_
    exact hK
def f_X7_write_L169 (x3 : Int32) (m : MS) : Option ((Int32 × MS) ⊕ (MS)) :=
  if (mI m 3) ≤ x3 then
    some (.inr m)
  else
    if vI x3 (mLen 2) then
      Option.bind (f_X7_put (48 + (mA m 2 x3.toNatClampNeg)) m) fun v_23 =>
      lt (x3 + 1) fun x3_24 =>
      some (.inl (x3_24, v_23))
    else none
set_option maxRecDepth 20000 in
theorem w_X7_write_L169 {g : Cx} {mc ms : Nat} {c : CS} {m : MS} {z : Nat → Int64} {x3 : Int32} {s : ((Int32 × MS) ⊕ (MS))}  (hG : Gd g RX7 cX7_write 4 6 mc ms) (h : f_X7_write_L169 x3 m = some s) (hK : Sum.elim (fun a => AW g 169 [(0, .ref (wad (cxw g) 17)), (3, .int a.1)] [] (c, a.2, z) 0 0) (fun e => AW g 196 [(0, .ref (wad (cxw g) 17))] [] (c, e, z) 0 0) s) : AW g 169 [(0, .ref (wad (cxw g) 17)), (3, .int x3)] [] (c, m, z) 0 0 := by
  unfold f_X7_write_L169 at h
  refine aw_iload_n hG 1 rfl dX7_write_169 rfl ?_
  refine aw_aload_n hG 0 rfl dX7_write_170 rfl ?_
  refine gt_m_many hG l_792 dX7_write_171 ?_
  refine aw_icmp_ge (t := 196) hG dX7_write_174 rfl (fun hc => ?_) (fun hc => ?_)
  · replace h := it_p hc h
    obtain rfl := Option.some.inj h
    refine aw_sub (L' := [(0, .ref (wad (cxw g) 17))]) [0] rfl ?_
    exact hK
  · replace h := it_n hc h
    refine aw_aload_n hG 0 rfl dX7_write_177 rfl ?_
    refine aw_bipush (v := 48) hG dX7_write_178 rfl ?_
    refine aw_aload_n hG 0 rfl dX7_write_180 rfl ?_
    refine gt_m_digits hG l_794 dX7_write_181 ?_
    refine aw_iload_n hG 1 rfl dX7_write_184 rfl ?_
    obtain ⟨hi_22, h⟩ := it_o h
    refine al_mA (x := 0) hG (by decide) hi_22 dX7_write_185 ?_
    refine aw_iadd hG dX7_write_186 ?_
    obtain ⟨v_23, hv_23, h⟩ := bd_o h
    refine aw_callVv (As := [.int (48 + (mA m 2 x3.toNatClampNeg))]) (rest := []) hG (c_X7_put (x1 := 48 + (mA m 2 x3.toNatClampNeg)) (m := m)  hv_23) l_795 wv_X7_put (rv_X7 hG) rfl rfl rfl (by decide) (Nat.zero_le _) (Nat.zero_le _) (Nat.le_of_ble_eq_true rfl) dX7_write_187 ?_
    obtain ⟨x3_24, hx3_24⟩ : ∃ y : Int32, y = x3 + 1 := ⟨_, rfl⟩
    replace h := lt_r hx3_24 h
    refine aw_iinc (v := x3_24) (L' := [(3, .int x3_24), (0, .ref (wad (cxw g) 17))]) hG 1 rfl dX7_write_190 (by rw [hx3_24]; rfl) (by decide) rfl ?_
    refine aw_goto (t := 169) hG dX7_write_193 rfl ?_
    obtain rfl := Option.some.inj h
    refine aw_sub (L' := [(0, .ref (wad (cxw g) 17)), (3, .int x3_24)]) [1, 0] rfl ?_
    exact hK
def f_X7_write_J92 (x3 : Int32) (m : MS) : Option ((Int32 × MS) ⊕ (MS)) :=
  if vI x3 (mLen 2) then
    Option.bind (f_X7_put (48 + (mA m 2 x3.toNatClampNeg)) m) fun v_31 =>
    lt (x3 + 1) fun x3_32 =>
    some (.inl (x3_32, v_31))
  else none
set_option maxRecDepth 20000 in
theorem w_X7_write_J92 {g : Cx} {mc ms : Nat} {c : CS} {m : MS} {z : Nat → Int64} {x3 : Int32} {s : ((Int32 × MS) ⊕ (MS))}  (hG : Gd g RX7 cX7_write 4 6 mc ms) (h : f_X7_write_J92 x3 m = some s) (hK : Sum.elim (fun a => AW g 73 [(0, .ref (wad (cxw g) 17)), (3, .int a.1)] [] (c, a.2, z) 0 0) (fun e => AW g 111 [(0, .ref (wad (cxw g) 17))] [] (c, e, z) 0 0) s) : AW g 92 [(0, .ref (wad (cxw g) 17)), (3, .int x3)] [] (c, m, z) 0 0 := by
  unfold f_X7_write_J92 at h
  refine aw_aload_n hG 0 rfl dX7_write_92 rfl ?_
  refine aw_bipush (v := 48) hG dX7_write_93 rfl ?_
  refine aw_aload_n hG 0 rfl dX7_write_95 rfl ?_
  refine gt_m_digits hG l_794 dX7_write_96 ?_
  refine aw_iload_n hG 1 rfl dX7_write_99 rfl ?_
  obtain ⟨hi_30, h⟩ := it_o h
  refine al_mA (x := 0) hG (by decide) hi_30 dX7_write_100 ?_
  refine aw_iadd hG dX7_write_101 ?_
  obtain ⟨v_31, hv_31, h⟩ := bd_o h
  refine aw_callVv (As := [.int (48 + (mA m 2 x3.toNatClampNeg))]) (rest := []) hG (c_X7_put (x1 := 48 + (mA m 2 x3.toNatClampNeg)) (m := m)  hv_31) l_795 wv_X7_put (rv_X7 hG) rfl rfl rfl (by decide) (Nat.zero_le _) (Nat.zero_le _) (Nat.le_of_ble_eq_true rfl) dX7_write_102 ?_
  obtain ⟨x3_32, hx3_32⟩ : ∃ y : Int32, y = x3 + 1 := ⟨_, rfl⟩
  replace h := lt_r hx3_32 h
  refine aw_iinc (v := x3_32) (L' := [(3, .int x3_32), (0, .ref (wad (cxw g) 17))]) hG 1 rfl dX7_write_105 (by rw [hx3_32]; rfl) (by decide) rfl ?_
  refine aw_goto (t := 73) hG dX7_write_108 rfl ?_
  obtain rfl := Option.some.inj h
  refine aw_sub (L' := [(0, .ref (wad (cxw g) 17)), (3, .int x3_32)]) [1, 0] rfl ?_
  exact hK
def f_X7_write_L73 (x3 : Int32) (m : MS) : Option ((Int32 × MS) ⊕ (MS)) :=
  if (mI m 3) ≤ x3 then
    some (.inr m)
  else
    if x3 = 1 then
      Option.bind (f_X7_put 46 m) fun v_33 =>
      f_X7_write_J92 x3 v_33
    else
      f_X7_write_J92 x3 m
set_option maxRecDepth 20000 in
theorem w_X7_write_L73 {g : Cx} {mc ms : Nat} {c : CS} {m : MS} {z : Nat → Int64} {x3 : Int32} {s : ((Int32 × MS) ⊕ (MS))}  (hG : Gd g RX7 cX7_write 4 6 mc ms) (h : f_X7_write_L73 x3 m = some s) (hK : Sum.elim (fun a => AW g 73 [(0, .ref (wad (cxw g) 17)), (3, .int a.1)] [] (c, a.2, z) 0 0) (fun e => AW g 111 [(0, .ref (wad (cxw g) 17))] [] (c, e, z) 0 0) s) : AW g 73 [(0, .ref (wad (cxw g) 17)), (3, .int x3)] [] (c, m, z) 0 0 := by
  unfold f_X7_write_L73 at h
  refine aw_iload_n hG 1 rfl dX7_write_73 rfl ?_
  refine aw_aload_n hG 0 rfl dX7_write_74 rfl ?_
  refine gt_m_many hG l_792 dX7_write_75 ?_
  refine aw_icmp_ge (t := 111) hG dX7_write_78 rfl (fun hc => ?_) (fun hc => ?_)
  · replace h := it_p hc h
    obtain rfl := Option.some.inj h
    refine aw_sub (L' := [(0, .ref (wad (cxw g) 17))]) [0] rfl ?_
    exact hK
  · replace h := it_n hc h
    refine aw_iload_n hG 1 rfl dX7_write_81 rfl ?_
    refine aw_iconst (v := 1) hG dX7_write_82 rfl ?_
    refine aw_icmp_ne (t := 92) hG dX7_write_83 rfl (fun hc => ?_) (fun hc => ?_)
    · replace h := it_n hc h
      exact w_X7_write_J92 (x3 := x3) (m := m) hG h hK
    · replace h := it_p hc h
      refine aw_aload_n hG 0 rfl dX7_write_86 rfl ?_
      refine aw_bipush (v := 46) hG dX7_write_87 rfl ?_
      obtain ⟨v_33, hv_33, h⟩ := bd_o h
      refine aw_callVv (As := [.int 46]) (rest := []) hG (c_X7_put (x1 := 46) (m := m)  hv_33) l_795 wv_X7_put (rv_X7 hG) rfl rfl rfl (by decide) (Nat.zero_le _) (Nat.zero_le _) (Nat.le_of_ble_eq_true rfl) dX7_write_89 ?_
      exact w_X7_write_J92 (x3 := x3) (m := v_33) hG h hK
noncomputable def f_X7_write_J53 (s0 : Int32) (m : MS) : Option (Int32 × MS) :=
  if s0 = 0 then
    if vI 0 (mLen 2) then
      Option.bind (f_X7_put (48 + (mA m 2 (0 : Int32).toNatClampNeg)) m) fun v_29 =>
      Option.bind (Lp (fun a => f_X7_write_L73 a.1 a.2) (1, v_29)) fun e_36 =>
      Option.bind (f_X7_put 101 e_36) fun v_37 =>
      Option.bind (f_X7_putNumber ((mI v_37 4) - 1) v_37) fun v_38 =>
      some (mI v_38 2, v_38)
    else none
  else
    if 1 ≤ (mI m 4) then
      Option.bind (Lp (fun a => f_X7_write_L203 a.1 a.2) (0, m)) fun e_7 =>
      lt (mI e_7 4) fun x3_8 =>
      Option.bind (Lp (fun a => f_X7_write_L248 a.1 a.2) (x3_8, e_7)) fun e_15 =>
      some (mI e_15 2, e_15)
    else
      Option.bind (f_X7_putWord 24 m) fun v_16 =>
      lt (mI v_16 4) fun x3_17 =>
      Option.bind (Lp (fun a => f_X7_write_L151 a.1 a.2) (x3_17, v_16)) fun e_21 =>
      Option.bind (Lp (fun a => f_X7_write_L169 a.1 a.2) (0, e_21)) fun e_26 =>
      some (mI e_26 2, e_26)
set_option maxRecDepth 20000 in
theorem w_X7_write_J53 {g : Cx} {mc ms : Nat} {c : CS} {m : MS} {z : Nat → Int64} {s0 : Int32} {s : (Int32 × MS)}  (hG : Gd g RX7 cX7_write 4 6 mc ms) (h : f_X7_write_J53 s0 m = some s) (hK : FinI g cX7_write mc ms s.1 (c, s.2, z)) : AW g 53 [(0, .ref (wad (cxw g) 17))] [.int s0] (c, m, z) 0 0 := by
  unfold f_X7_write_J53 at h
  refine aw_istore_n (L' := [(2, .int s0), (0, .ref (wad (cxw g) 17))]) hG dX7_write_53 rfl (by decide) rfl ?_
  refine aw_iload_n hG 0 rfl dX7_write_54 rfl ?_
  refine aw_if_ne (t := 132) hG dX7_write_55 rfl (fun hc => ?_) (fun hc => ?_)
  · replace h := it_n hc h
    refine aw_aload_n hG 1 rfl dX7_write_132 rfl ?_
    refine gt_m_point hG l_793 dX7_write_133 ?_
    refine aw_iconst (v := 1) hG dX7_write_136 rfl ?_
    refine aw_icmp_ge (t := 201) hG dX7_write_137 rfl (fun hc => ?_) (fun hc => ?_)
    · replace h := it_p hc h
      refine aw_iconst (v := 0) hG dX7_write_201 rfl ?_
      refine aw_istore_n (L' := [(3, .int 0), (2, .int s0), (0, .ref (wad (cxw g) 17))]) hG dX7_write_202 rfl (by decide) rfl ?_
      obtain ⟨e_7, he, h⟩ := bd_o h
      refine aw_sub (L' := [(0, .ref (wad (cxw g) 17)), (3, .int 0)]) [2, 0] rfl ?_
      refine Lp_w (F := (fun a => f_X7_write_L203 a.1 a.2)) (S := (fun a => AW g 203 [(0, .ref (wad (cxw g) 17)), (3, .int a.1)] [] (c, a.2, z) 0 0)) (E := (fun e => AW g 243 [(0, .ref (wad (cxw g) 17))] [] (c, e, z) 0 0)) (a := (0, m)) he (fun a s h hK => w_X7_write_L203 (x3 := a.1) (m := a.2) hG h hK) ?_
      show AW g 243 _ _ _ 0 0
      refine aw_aload_n hG 0 rfl dX7_write_243 rfl ?_
      refine gt_m_point hG l_793 dX7_write_244 ?_
      refine aw_topi (fun x3_8 hx3_8 => ?_)
      replace h := lt_r hx3_8 h
      refine aw_istore_n (L' := [(3, .int x3_8), (0, .ref (wad (cxw g) 17))]) hG dX7_write_247 rfl (by decide) rfl ?_
      obtain ⟨e_15, he, h⟩ := bd_o h
      refine aw_sub (L' := [(0, .ref (wad (cxw g) 17)), (3, .int x3_8)]) [1, 0] rfl ?_
      refine Lp_w (F := (fun a => f_X7_write_L248 a.1 a.2)) (S := (fun a => AW g 248 [(0, .ref (wad (cxw g) 17)), (3, .int a.1)] [] (c, a.2, z) 0 0)) (E := (fun e => AW g 289 [(0, .ref (wad (cxw g) 17))] [] (c, e, z) 0 0)) (a := (x3_8, e_7)) he (fun a s h hK => w_X7_write_L248 (x3 := a.1) (m := a.2) hG h hK) ?_
      show AW g 289 _ _ _ 0 0
      refine aw_aload_n hG 0 rfl dX7_write_289 rfl ?_
      refine gt_m_outSize hG l_726 dX7_write_290 ?_
      obtain rfl := Option.some.inj h
      exact FinI.z hK dX7_write_293
    · replace h := it_n hc h
      refine aw_aload_n hG 1 rfl dX7_write_140 rfl ?_
      refine aw_ldcS (j := 24) hG rfl dX7_write_141 ?_
      obtain ⟨v_16, hv_16, h⟩ := bd_o h
      refine aw_callVv (As := [.ref (wad (cxw g) (40 + 24))]) (rest := []) hG (c_X7_putWord (j1 := 24) (m := m) (by decide) hv_16) l_801 wv_X7_putWord (rv_X7 hG) rfl rfl rfl (by decide) (Nat.zero_le _) (Nat.zero_le _) (Nat.le_of_ble_eq_true rfl) dX7_write_143 ?_
      refine aw_aload_n hG 1 rfl dX7_write_146 rfl ?_
      refine gt_m_point hG l_793 dX7_write_147 ?_
      refine aw_topi (fun x3_17 hx3_17 => ?_)
      replace h := lt_r hx3_17 h
      refine aw_istore_n (L' := [(3, .int x3_17), (2, .int s0), (0, .ref (wad (cxw g) 17))]) hG dX7_write_150 rfl (by decide) rfl ?_
      obtain ⟨e_21, he, h⟩ := bd_o h
      refine aw_sub (L' := [(0, .ref (wad (cxw g) 17)), (3, .int x3_17)]) [2, 0] rfl ?_
      refine Lp_w (F := (fun a => f_X7_write_L151 a.1 a.2)) (S := (fun a => AW g 151 [(0, .ref (wad (cxw g) 17)), (3, .int a.1)] [] (c, a.2, z) 0 0)) (E := (fun e => AW g 167 [(0, .ref (wad (cxw g) 17))] [] (c, e, z) 0 0)) (a := (x3_17, v_16)) he (fun a s h hK => w_X7_write_L151 (x3 := a.1) (m := a.2) hG h hK) ?_
      show AW g 167 _ _ _ 0 0
      refine aw_iconst (v := 0) hG dX7_write_167 rfl ?_
      refine aw_istore_n (L' := [(3, .int 0), (0, .ref (wad (cxw g) 17))]) hG dX7_write_168 rfl (by decide) rfl ?_
      obtain ⟨e_26, he, h⟩ := bd_o h
      refine aw_sub (L' := [(0, .ref (wad (cxw g) 17)), (3, .int 0)]) [1, 0] rfl ?_
      refine Lp_w (F := (fun a => f_X7_write_L169 a.1 a.2)) (S := (fun a => AW g 169 [(0, .ref (wad (cxw g) 17)), (3, .int a.1)] [] (c, a.2, z) 0 0)) (E := (fun e => AW g 196 [(0, .ref (wad (cxw g) 17))] [] (c, e, z) 0 0)) (a := (0, e_21)) he (fun a s h hK => w_X7_write_L169 (x3 := a.1) (m := a.2) hG h hK) ?_
      show AW g 196 _ _ _ 0 0
      refine aw_aload_n hG 0 rfl dX7_write_196 rfl ?_
      refine gt_m_outSize hG l_726 dX7_write_197 ?_
      obtain rfl := Option.some.inj h
      exact FinI.z hK dX7_write_200
  · replace h := it_p hc h
    refine aw_aload_n hG 1 rfl dX7_write_58 rfl ?_
    refine aw_bipush (v := 48) hG dX7_write_59 rfl ?_
    refine aw_aload_n hG 1 rfl dX7_write_61 rfl ?_
    refine gt_m_digits hG l_794 dX7_write_62 ?_
    refine aw_iconst (v := 0) hG dX7_write_65 rfl ?_
    obtain ⟨hi_28, h⟩ := it_o h
    refine al_mA (x := 0) hG (by decide) hi_28 dX7_write_66 ?_
    refine aw_iadd hG dX7_write_67 ?_
    obtain ⟨v_29, hv_29, h⟩ := bd_o h
    refine aw_callVv (As := [.int (48 + (mA m 2 (0 : Int32).toNatClampNeg))]) (rest := []) hG (c_X7_put (x1 := 48 + (mA m 2 (0 : Int32).toNatClampNeg)) (m := m)  hv_29) l_795 wv_X7_put (rv_X7 hG) rfl rfl rfl (by decide) (Nat.zero_le _) (Nat.zero_le _) (Nat.le_of_ble_eq_true rfl) dX7_write_68 ?_
    refine aw_iconst (v := 1) hG dX7_write_71 rfl ?_
    refine aw_istore_n (L' := [(3, .int 1), (2, .int s0), (0, .ref (wad (cxw g) 17))]) hG dX7_write_72 rfl (by decide) rfl ?_
    obtain ⟨e_36, he, h⟩ := bd_o h
    refine aw_sub (L' := [(0, .ref (wad (cxw g) 17)), (3, .int 1)]) [2, 0] rfl ?_
    refine Lp_w (F := (fun a => f_X7_write_L73 a.1 a.2)) (S := (fun a => AW g 73 [(0, .ref (wad (cxw g) 17)), (3, .int a.1)] [] (c, a.2, z) 0 0)) (E := (fun e => AW g 111 [(0, .ref (wad (cxw g) 17))] [] (c, e, z) 0 0)) (a := (1, v_29)) he (fun a s h hK => w_X7_write_L73 (x3 := a.1) (m := a.2) hG h hK) ?_
    show AW g 111 _ _ _ 0 0
    refine aw_aload_n hG 0 rfl dX7_write_111 rfl ?_
    refine aw_bipush (v := 101) hG dX7_write_112 rfl ?_
    obtain ⟨v_37, hv_37, h⟩ := bd_o h
    refine aw_callVv (As := [.int 101]) (rest := []) hG (c_X7_put (x1 := 101) (m := e_36)  hv_37) l_795 wv_X7_put (rv_X7 hG) rfl rfl rfl (by decide) (Nat.zero_le _) (Nat.zero_le _) (Nat.le_of_ble_eq_true rfl) dX7_write_114 ?_
    refine aw_aload_n hG 0 rfl dX7_write_117 rfl ?_
    refine aw_aload_n hG 0 rfl dX7_write_118 rfl ?_
    refine gt_m_point hG l_793 dX7_write_119 ?_
    refine aw_iconst (v := 1) hG dX7_write_122 rfl ?_
    refine aw_isub hG dX7_write_123 ?_
    obtain ⟨v_38, hv_38, h⟩ := bd_o h
    refine aw_callVv (As := [.int ((mI v_37 4) - 1)]) (rest := []) hG (c_X7_putNumber (x1 := (mI v_37 4) - 1) (m := v_37)  hv_38) l_806 wv_X7_putNumber (rv_X7 hG) rfl rfl rfl (by decide) (Nat.zero_le _) (Nat.zero_le _) (Nat.le_of_ble_eq_true rfl) dX7_write_124 ?_
    refine aw_aload_n hG 0 rfl dX7_write_127 rfl ?_
    refine gt_m_outSize hG l_726 dX7_write_128 ?_
    obtain rfl := Option.some.inj h
    exact FinI.z hK dX7_write_131
noncomputable def f_X7_write_J19 (x1 : Int32) (m : MS) : Option (Int32 × MS) :=
  if x1 = 1 then
    f_X7_write_J53 1 m
  else
    if x1 = 2 then
      if (f_X7_in (((mI m 4) - 1).toInt64) (-6) 20) = 0 then
        f_X7_write_J53 0 m
      else
        f_X7_write_J53 1 m
    else
      f_X7_write_J53 0 m
set_option maxRecDepth 20000 in
theorem w_X7_write_J19 {g : Cx} {mc ms : Nat} {c : CS} {m : MS} {z : Nat → Int64} {x1 : Int32} {s : (Int32 × MS)}  (hG : Gd g RX7 cX7_write 4 6 mc ms) (h : f_X7_write_J19 x1 m = some s) (hK : FinI g cX7_write mc ms s.1 (c, s.2, z)) : AW g 19 [(0, .ref (wad (cxw g) 17)), (1, .int x1)] [] (c, m, z) 0 0 := by
  unfold f_X7_write_J19 at h
  refine aw_iload_n hG 1 rfl dX7_write_19 rfl ?_
  refine aw_iconst (v := 1) hG dX7_write_20 rfl ?_
  refine aw_icmp_eq (t := 48) hG dX7_write_21 rfl (fun hc => ?_) (fun hc => ?_)
  · replace h := it_p hc h
    refine aw_iconst (v := 1) hG dX7_write_48 rfl ?_
    refine aw_goto (t := 53) hG dX7_write_49 rfl ?_
    refine aw_sub (L' := [(0, .ref (wad (cxw g) 17))]) [0] rfl ?_
    exact w_X7_write_J53 (s0 := 1) (m := m) hG h hK
  · replace h := it_n hc h
    refine aw_iload_n hG 1 rfl dX7_write_24 rfl ?_
    refine aw_iconst (v := 2) hG dX7_write_25 rfl ?_
    refine aw_icmp_ne (t := 52) hG dX7_write_26 rfl (fun hc => ?_) (fun hc => ?_)
    · replace h := it_n hc h
      refine aw_iconst (v := 0) hG dX7_write_52 rfl ?_
      refine aw_sub (L' := [(0, .ref (wad (cxw g) 17))]) [0] rfl ?_
      exact w_X7_write_J53 (s0 := 0) (m := m) hG h hK
    · replace h := it_p hc h
      refine aw_aload_n hG 0 rfl dX7_write_29 rfl ?_
      refine gt_m_point hG l_793 dX7_write_30 ?_
      refine aw_iconst (v := 1) hG dX7_write_33 rfl ?_
      refine aw_isub hG dX7_write_34 ?_
      refine aw_i2l hG dX7_write_35 ?_
      refine aw_ldc2 hG l_811 dX7_write_36 ?_
      refine aw_ldc2 hG l_812 dX7_write_39 ?_
      refine aw_callSi (As := [.long (((mI m 4) - 1).toInt64), .long (-6), .long 20]) (rest := []) hG (c_X7_in (x0 := ((mI m 4) - 1).toInt64) (x2 := (-6)) (x4 := 20) (m := m) ) l_626 ws_X7_in rfl rfl rfl (by decide) (Nat.zero_le _) (Nat.zero_le _) (Nat.le_of_ble_eq_true rfl) dX7_write_42 ?_
      refine aw_if_eq (t := 52) hG dX7_write_45 rfl (fun hc => ?_) (fun hc => ?_)
      · replace h := it_p hc h
        refine aw_iconst (v := 0) hG dX7_write_52 rfl ?_
        refine aw_sub (L' := [(0, .ref (wad (cxw g) 17))]) [0] rfl ?_
        exact w_X7_write_J53 (s0 := 0) (m := m) hG h hK
      · replace h := it_n hc h
        refine aw_iconst (v := 1) hG dX7_write_48 rfl ?_
        refine aw_goto (t := 53) hG dX7_write_49 rfl ?_
        refine aw_sub (L' := [(0, .ref (wad (cxw g) 17))]) [0] rfl ?_
        exact w_X7_write_J53 (s0 := 1) (m := m) hG h hK
noncomputable def f_X7_write (x1 : Int32) (m : MS) : Option (Int32 × MS) :=
  lt (smI m 2 0) fun m_1 =>
  if (mI m_1 5) = 1 then
    Option.bind (f_X7_put 45 m_1) fun v_43 =>
    f_X7_write_J19 x1 v_43
  else
    f_X7_write_J19 x1 m_1
set_option maxRecDepth 20000 in
theorem w_X7_write {g : Cx} {mc ms : Nat} {c : CS} {m : MS} {z : Nat → Int64} {x1 : Int32} {s : (Int32 × MS)}  (hG : Gd g RX7 cX7_write 4 6 mc ms) (h : f_X7_write x1 m = some s) (hK : FinI g cX7_write mc ms s.1 (c, s.2, z)) : AW g 0 [(0, .ref (wad (cxw g) 17)), (1, .int x1)] [] (c, m, z) 0 0 := by
  unfold f_X7_write at h
  refine aw_aload_n hG 0 rfl dX7_write_0 rfl ?_
  refine aw_iconst (v := 0) hG dX7_write_1 rfl ?_
  refine pt_m_outSize hG l_726 dX7_write_2 ?_
  refine aw_stm (fun m_1 hm_1 => ?_)
  replace h := lt_r hm_1 h
  refine aw_aload_n hG 0 rfl dX7_write_5 rfl ?_
  refine gt_m_minus hG l_800 dX7_write_6 ?_
  refine aw_iconst (v := 1) hG dX7_write_9 rfl ?_
  refine aw_icmp_ne (t := 19) hG dX7_write_10 rfl (fun hc => ?_) (fun hc => ?_)
  · replace h := it_n hc h
    exact w_X7_write_J19 (x1 := x1) (m := m_1) hG h hK
  · replace h := it_p hc h
    refine aw_aload_n hG 0 rfl dX7_write_13 rfl ?_
    refine aw_bipush (v := 45) hG dX7_write_14 rfl ?_
    obtain ⟨v_43, hv_43, h⟩ := bd_o h
    refine aw_callVv (As := [.int 45]) (rest := []) hG (c_X7_put (x1 := 45) (m := m_1)  hv_43) l_795 wv_X7_put (rv_X7 hG) rfl rfl rfl (by decide) (Nat.zero_le _) (Nat.zero_le _) (Nat.le_of_ble_eq_true rfl) dX7_write_16 ?_
    exact w_X7_write_J19 (x1 := x1) (m := v_43) hG h hK
theorem c_X7_write {c : CS} {m : MS} {z : Nat → Int64} {x1 : Int32} {s : Int32 × MS}  (h : f_X7_write x1 m = some s) : Ct yX7_write cX7_write 4 (some .int) 6 (fun w => [.ref (wad w 17), .int x1]) (c, m, z) (fun _ => some (.int s.1)) (c, s.2, z) := Ct_ofI (by decide +kernel) (fun _ => Nat.le_of_ble_eq_true rfl) (fun g hG hK => w_X7_write hG h hK)
def f_X7_zeros_L12 (x1 : Int32) (x2 : Int32) (m : MS) : Option ((Int32 × MS) ⊕ (MS)) :=
  if x1 ≤ x2 then
    some (.inr m)
  else
    if vI x2 (mLen 2) then
      lt (smA m 2 (upd (mA m 2) x2.toNatClampNeg 0)) fun m_4 =>
      lt (x2 + 1) fun x2_5 =>
      some (.inl (x2_5, m_4))
    else none
set_option maxRecDepth 20000 in
theorem w_X7_zeros_L12 {g : Cx} {mc ms : Nat} {c : CS} {m : MS} {z : Nat → Int64} {x1 : Int32} {x2 : Int32} {s : ((Int32 × MS) ⊕ (MS))}  (hG : Gd g RX7 cX7_zeros 3 1 mc ms) (h : f_X7_zeros_L12 x1 x2 m = some s) (hK : Sum.elim (fun a => AW g 12 [(0, .ref (wad (cxw g) 17)), (1, .int x1), (2, .int a.1)] [] (c, a.2, z) 0 0) (fun e => AW g 30 [] [] (c, e, z) 0 0) s) : AW g 12 [(0, .ref (wad (cxw g) 17)), (1, .int x1), (2, .int x2)] [] (c, m, z) 0 0 := by
  unfold f_X7_zeros_L12 at h
  refine aw_iload_n hG 2 rfl dX7_zeros_12 rfl ?_
  refine aw_iload_n hG 1 rfl dX7_zeros_13 rfl ?_
  refine aw_icmp_ge (t := 30) hG dX7_zeros_14 rfl (fun hc => ?_) (fun hc => ?_)
  · replace h := it_p hc h
    obtain rfl := Option.some.inj h
    refine aw_sub (L' := []) [] rfl ?_
    exact hK
  · replace h := it_n hc h
    refine aw_aload_n hG 0 rfl dX7_zeros_17 rfl ?_
    refine gt_m_digits hG l_794 dX7_zeros_18 ?_
    refine aw_iload_n hG 2 rfl dX7_zeros_21 rfl ?_
    refine aw_iconst (v := 0) hG dX7_zeros_22 rfl ?_
    obtain ⟨hi_3, h⟩ := it_o h
    refine as_mA hG (by decide) hi_3 dX7_zeros_23 ?_
    refine aw_stm (fun m_4 hm_4 => ?_)
    replace h := lt_r hm_4 h
    obtain ⟨x2_5, hx2_5⟩ : ∃ y : Int32, y = x2 + 1 := ⟨_, rfl⟩
    replace h := lt_r hx2_5 h
    refine aw_iinc (v := x2_5) (L' := [(2, .int x2_5), (0, .ref (wad (cxw g) 17)), (1, .int x1)]) hG 2 rfl dX7_zeros_24 (by rw [hx2_5]; rfl) (by decide) rfl ?_
    refine aw_goto (t := 12) hG dX7_zeros_27 rfl ?_
    obtain rfl := Option.some.inj h
    refine aw_sub (L' := [(0, .ref (wad (cxw g) 17)), (1, .int x1), (2, .int x2_5)]) [1, 2, 0] rfl ?_
    exact hK
noncomputable def f_X7_zeros (x1 : Int32) (m : MS) : Option MS :=
  lt (smI m 3 x1) fun m_1 =>
  lt (smI m_1 4 1) fun m_2 =>
  Option.bind (Lp (fun a => f_X7_zeros_L12 x1 a.1 a.2) (0, m_2)) fun e_7 =>
  some e_7
set_option maxRecDepth 20000 in
theorem w_X7_zeros {g : Cx} {mc ms : Nat} {c : CS} {m : MS} {z : Nat → Int64} {x1 : Int32} {s : MS}  (hG : Gd g RX7 cX7_zeros 3 1 mc ms) (h : f_X7_zeros x1 m = some s) (hK : FinV g cX7_zeros mc ms (c, s, z)) : AW g 0 [(0, .ref (wad (cxw g) 17)), (1, .int x1)] [] (c, m, z) 0 0 := by
  unfold f_X7_zeros at h
  refine aw_aload_n hG 0 rfl dX7_zeros_0 rfl ?_
  refine aw_iload_n hG 1 rfl dX7_zeros_1 rfl ?_
  refine pt_m_many hG l_792 dX7_zeros_2 ?_
  refine aw_stm (fun m_1 hm_1 => ?_)
  replace h := lt_r hm_1 h
  refine aw_aload_n hG 0 rfl dX7_zeros_5 rfl ?_
  refine aw_iconst (v := 1) hG dX7_zeros_6 rfl ?_
  refine pt_m_point hG l_793 dX7_zeros_7 ?_
  refine aw_stm (fun m_2 hm_2 => ?_)
  replace h := lt_r hm_2 h
  refine aw_iconst (v := 0) hG dX7_zeros_10 rfl ?_
  refine aw_istore_n (L' := [(2, .int 0), (0, .ref (wad (cxw g) 17)), (1, .int x1)]) hG dX7_zeros_11 rfl (by decide) rfl ?_
  obtain ⟨e_7, he, h⟩ := bd_o h
  refine aw_sub (L' := [(0, .ref (wad (cxw g) 17)), (1, .int x1), (2, .int 0)]) [1, 2, 0] rfl ?_
  refine Lp_w (F := (fun a => f_X7_zeros_L12 x1 a.1 a.2)) (S := (fun a => AW g 12 [(0, .ref (wad (cxw g) 17)), (1, .int x1), (2, .int a.1)] [] (c, a.2, z) 0 0)) (E := (fun e => AW g 30 [] [] (c, e, z) 0 0)) (a := (0, m_2)) he (fun a s h hK => w_X7_zeros_L12 (x1 := x1) (x2 := a.1) (m := a.2) hG h hK) ?_
  show AW g 30 _ _ _ 0 0
  obtain rfl := Option.some.inj h
  exact FinV.z hK dX7_zeros_30
theorem c_X7_zeros {c : CS} {m : MS} {z : Nat → Int64} {x1 : Int32} {s : MS}  (h : f_X7_zeros x1 m = some s) : Ct yX7_zeros cX7_zeros 3 none 1 (fun w => [.ref (wad w 17), .int x1]) (c, m, z) (fun _ => none) (c, s, z) := Ct_ofV (by decide +kernel) (fun _ => Nat.le_of_ble_eq_true rfl) (fun g hG hK => w_X7_zeros hG h hK)
noncomputable def f_X7_isNoNumber_J72 (q0 : Nat) (m : MS) : Option (Int32 × MS) :=
  Option.bind (f_X7_putWord q0 m) fun v_5 =>
  some (1, v_5)
set_option maxRecDepth 20000 in
theorem w_X7_isNoNumber_J72 {g : Cx} {mc ms : Nat} {c : CS} {m : MS} {z : Nat → Int64} {q0 : Nat} {s : (Int32 × MS)} (hq0 : q0 < 27) (hG : Gd g RX7 cX7_isNoNumber 4 6 mc ms) (h : f_X7_isNoNumber_J72 q0 m = some s) (hK : FinZ g cX7_isNoNumber mc ms s.1 (c, s.2, z)) : AW g 72 [] [.ref (wad (cxw g) (40 + q0)), .ref (wad (cxw g) 17)] (c, m, z) 0 0 := by
  unfold f_X7_isNoNumber_J72 at h
  obtain ⟨v_5, hv_5, h⟩ := bd_o h
  refine aw_callVv (As := [.ref (wad (cxw g) (40 + q0))]) (rest := []) hG (c_X7_putWord (j1 := q0) (m := m) hq0 hv_5) l_801 wv_X7_putWord (rv_X7 hG) rfl rfl rfl (by decide) (Nat.zero_le _) (Nat.zero_le _) (Nat.le_of_ble_eq_true rfl) dX7_isNoNumber_72 ?_
  refine aw_iconst (v := 1) hG dX7_isNoNumber_75 rfl ?_
  obtain rfl := Option.some.inj h
  exact FinZ.z hK (Or.inr rfl) dX7_isNoNumber_76
noncomputable def f_X7_isNoNumber_J56 (x1 : Int32) (x2 : Int64) (m : MS) : Option (Int32 × MS) :=
  if (f_X7_isNan x1 x2) = 0 then
    f_X7_isNoNumber_J72 22 m
  else
    f_X7_isNoNumber_J72 21 m
set_option maxRecDepth 20000 in
theorem w_X7_isNoNumber_J56 {g : Cx} {mc ms : Nat} {c : CS} {m : MS} {z : Nat → Int64} {x1 : Int32} {x2 : Int64} {s : (Int32 × MS)}  (hG : Gd g RX7 cX7_isNoNumber 4 6 mc ms) (h : f_X7_isNoNumber_J56 x1 x2 m = some s) (hK : FinZ g cX7_isNoNumber mc ms s.1 (c, s.2, z)) : AW g 56 [(0, .ref (wad (cxw g) 17)), (1, .int x1), (2, .long x2)] [] (c, m, z) 0 0 := by
  unfold f_X7_isNoNumber_J56 at h
  refine aw_aload_n hG 0 rfl dX7_isNoNumber_56 rfl ?_
  refine aw_iload_n hG 1 rfl dX7_isNoNumber_57 rfl ?_
  refine aw_lload_n hG 2 rfl dX7_isNoNumber_58 rfl ?_
  refine aw_callSi (As := [.int x1, .long x2]) (rest := [.ref (wad (cxw g) 17)]) hG (c_X7_isNan (x0 := x1) (x1 := x2) (m := m) ) l_821 ws_X7_isNan rfl rfl rfl (by decide) (Nat.zero_le _) (Nat.zero_le _) (Nat.le_of_ble_eq_true rfl) dX7_isNoNumber_59 ?_
  refine aw_if_eq (t := 70) hG dX7_isNoNumber_62 rfl (fun hc => ?_) (fun hc => ?_)
  · replace h := it_p hc h
    refine aw_ldcS (j := 22) hG rfl dX7_isNoNumber_70 ?_
    refine aw_sub (L' := []) [] rfl ?_
    exact w_X7_isNoNumber_J72 (q0 := 22) (m := m) (by decide) hG h hK
  · replace h := it_n hc h
    refine aw_ldcS (j := 21) hG rfl dX7_isNoNumber_65 ?_
    refine aw_goto (t := 72) hG dX7_isNoNumber_67 rfl ?_
    refine aw_sub (L' := []) [] rfl ?_
    exact w_X7_isNoNumber_J72 (q0 := 21) (m := m) (by decide) hG h hK
noncomputable def f_X7_isNoNumber_J14 (x1 : Int32) (x2 : Int64) (s0 : Int32) (m : MS) : Option (Int32 × MS) :=
  lt (smI m 5 s0) fun m_1 =>
  if (f_X7_isFinite x1 x2) = 0 then
    lt (smI m_1 3 0) fun m_2 =>
    lt (smI m_2 4 0) fun m_3 =>
    lt (smI m_3 2 0) fun m_4 =>
    if (mI m_4 5) = 1 then
      Option.bind (f_X7_put 45 m_4) fun v_7 =>
      f_X7_isNoNumber_J56 x1 x2 v_7
    else
      f_X7_isNoNumber_J56 x1 x2 m_4
  else
    some (0, m_1)
set_option maxRecDepth 20000 in
theorem w_X7_isNoNumber_J14 {g : Cx} {mc ms : Nat} {c : CS} {m : MS} {z : Nat → Int64} {x1 : Int32} {x2 : Int64} {s0 : Int32} {s : (Int32 × MS)}  (hG : Gd g RX7 cX7_isNoNumber 4 6 mc ms) (h : f_X7_isNoNumber_J14 x1 x2 s0 m = some s) (hK : FinZ g cX7_isNoNumber mc ms s.1 (c, s.2, z)) : AW g 14 [(0, .ref (wad (cxw g) 17)), (1, .int x1), (2, .long x2)] [.int s0, .ref (wad (cxw g) 17)] (c, m, z) 0 0 := by
  unfold f_X7_isNoNumber_J14 at h
  refine pt_m_minus hG l_800 dX7_isNoNumber_14 ?_
  refine aw_stm (fun m_1 hm_1 => ?_)
  replace h := lt_r hm_1 h
  refine aw_iload_n hG 1 rfl dX7_isNoNumber_17 rfl ?_
  refine aw_lload_n hG 2 rfl dX7_isNoNumber_18 rfl ?_
  refine aw_callSi (As := [.int x1, .long x2]) (rest := []) hG (c_X7_isFinite (x0 := x1) (x1 := x2) (m := m_1) ) l_817 ws_X7_isFinite rfl rfl rfl (by decide) (Nat.zero_le _) (Nat.zero_le _) (Nat.le_of_ble_eq_true rfl) dX7_isNoNumber_19 ?_
  refine aw_if_eq (t := 27) hG dX7_isNoNumber_22 rfl (fun hc => ?_) (fun hc => ?_)
  · replace h := it_p hc h
    refine aw_aload_n hG 0 rfl dX7_isNoNumber_27 rfl ?_
    refine aw_iconst (v := 0) hG dX7_isNoNumber_28 rfl ?_
    refine pt_m_many hG l_792 dX7_isNoNumber_29 ?_
    refine aw_stm (fun m_2 hm_2 => ?_)
    replace h := lt_r hm_2 h
    refine aw_aload_n hG 0 rfl dX7_isNoNumber_32 rfl ?_
    refine aw_iconst (v := 0) hG dX7_isNoNumber_33 rfl ?_
    refine pt_m_point hG l_793 dX7_isNoNumber_34 ?_
    refine aw_stm (fun m_3 hm_3 => ?_)
    replace h := lt_r hm_3 h
    refine aw_aload_n hG 0 rfl dX7_isNoNumber_37 rfl ?_
    refine aw_iconst (v := 0) hG dX7_isNoNumber_38 rfl ?_
    refine pt_m_outSize hG l_726 dX7_isNoNumber_39 ?_
    refine aw_stm (fun m_4 hm_4 => ?_)
    replace h := lt_r hm_4 h
    refine aw_aload_n hG 0 rfl dX7_isNoNumber_42 rfl ?_
    refine gt_m_minus hG l_800 dX7_isNoNumber_43 ?_
    refine aw_iconst (v := 1) hG dX7_isNoNumber_46 rfl ?_
    refine aw_icmp_ne (t := 56) hG dX7_isNoNumber_47 rfl (fun hc => ?_) (fun hc => ?_)
    · replace h := it_n hc h
      exact w_X7_isNoNumber_J56 (x1 := x1) (x2 := x2) (m := m_4) hG h hK
    · replace h := it_p hc h
      refine aw_aload_n hG 0 rfl dX7_isNoNumber_50 rfl ?_
      refine aw_bipush (v := 45) hG dX7_isNoNumber_51 rfl ?_
      obtain ⟨v_7, hv_7, h⟩ := bd_o h
      refine aw_callVv (As := [.int 45]) (rest := []) hG (c_X7_put (x1 := 45) (m := m_4)  hv_7) l_795 wv_X7_put (rv_X7 hG) rfl rfl rfl (by decide) (Nat.zero_le _) (Nat.zero_le _) (Nat.le_of_ble_eq_true rfl) dX7_isNoNumber_53 ?_
      exact w_X7_isNoNumber_J56 (x1 := x1) (x2 := x2) (m := v_7) hG h hK
  · replace h := it_n hc h
    refine aw_iconst (v := 0) hG dX7_isNoNumber_25 rfl ?_
    obtain rfl := Option.some.inj h
    exact FinZ.z hK (Or.inl rfl) dX7_isNoNumber_26
noncomputable def f_X7_isNoNumber (x1 : Int32) (x2 : Int64) (m : MS) : Option (Int32 × MS) :=
  if (f_X7_isMinus x1 x2) = 0 then
    f_X7_isNoNumber_J14 x1 x2 0 m
  else
    f_X7_isNoNumber_J14 x1 x2 1 m
set_option maxRecDepth 20000 in
theorem w_X7_isNoNumber {g : Cx} {mc ms : Nat} {c : CS} {m : MS} {z : Nat → Int64} {x1 : Int32} {x2 : Int64} {s : (Int32 × MS)}  (hG : Gd g RX7 cX7_isNoNumber 4 6 mc ms) (h : f_X7_isNoNumber x1 x2 m = some s) (hK : FinZ g cX7_isNoNumber mc ms s.1 (c, s.2, z)) : AW g 0 [(0, .ref (wad (cxw g) 17)), (1, .int x1), (2, .long x2)] [] (c, m, z) 0 0 := by
  unfold f_X7_isNoNumber at h
  refine aw_aload_n hG 0 rfl dX7_isNoNumber_0 rfl ?_
  refine aw_iload_n hG 1 rfl dX7_isNoNumber_1 rfl ?_
  refine aw_lload_n hG 2 rfl dX7_isNoNumber_2 rfl ?_
  refine aw_callSi (As := [.int x1, .long x2]) (rest := [.ref (wad (cxw g) 17)]) hG (c_X7_isMinus (x0 := x1) (x1 := x2) (m := m) ) l_813 ws_X7_isMinus rfl rfl rfl (by decide) (Nat.zero_le _) (Nat.zero_le _) (Nat.le_of_ble_eq_true rfl) dX7_isNoNumber_3 ?_
  refine aw_if_eq (t := 13) hG dX7_isNoNumber_6 rfl (fun hc => ?_) (fun hc => ?_)
  · replace h := it_p hc h
    refine aw_iconst (v := 0) hG dX7_isNoNumber_13 rfl ?_
    exact w_X7_isNoNumber_J14 (x1 := x1) (x2 := x2) (s0 := 0) (m := m) hG h hK
  · replace h := it_n hc h
    refine aw_iconst (v := 1) hG dX7_isNoNumber_9 rfl ?_
    refine aw_goto (t := 14) hG dX7_isNoNumber_10 rfl ?_
    exact w_X7_isNoNumber_J14 (x1 := x1) (x2 := x2) (s0 := 1) (m := m) hG h hK
theorem c_X7_isNoNumber {c : CS} {m : MS} {z : Nat → Int64} {x1 : Int32} {x2 : Int64} {s : Int32 × MS}  (h : f_X7_isNoNumber x1 x2 m = some s) : Ct yX7_isNoNumber cX7_isNoNumber 4 (some .boolean) 6 (fun w => [.ref (wad w 17), .int x1, .long x2]) (c, m, z) (fun _ => some (.int s.1)) (c, s.2, z) := Ct_ofZ (by decide +kernel) (fun _ => Nat.le_of_ble_eq_true rfl) (fun g hG hK => w_X7_isNoNumber hG h hK)
def f_X7_readsBack_L3 (x1 : Int32) (x2 : Int64) (x4 : Int32) (m : MS) : Option ((Int32 × MS) ⊕ (MS)) :=
  if (mI m 3) ≤ x4 then
    some (.inr m)
  else
    if vI x4 (mLen 2) then
      if vI x4 (mLen 7) then
        lt (smA m 7 (upd (mA m 7) x4.toNatClampNeg (mA m 2 x4.toNatClampNeg))) fun m_3 =>
        lt (x4 + 1) fun x4_4 =>
        some (.inl (x4_4, m_3))
      else none
    else none
set_option maxRecDepth 20000 in
theorem w_X7_readsBack_L3 {g : Cx} {mc ms : Nat} {c : CS} {m : MS} {z : Nat → Int64} {x1 : Int32} {x2 : Int64} {x4 : Int32} {s : ((Int32 × MS) ⊕ (MS))}  (hG : Gd g RX7 cX7_readsBack 5 6 mc ms) (h : f_X7_readsBack_L3 x1 x2 x4 m = some s) (hK : Sum.elim (fun a => AW g 3 [(0, .ref (wad (cxw g) 17)), (1, .int x1), (2, .long x2), (4, .int a.1)] [] (c, a.2, z) 0 0) (fun e => AW g 32 [(0, .ref (wad (cxw g) 17)), (1, .int x1), (2, .long x2)] [] (c, e, z) 0 0) s) : AW g 3 [(0, .ref (wad (cxw g) 17)), (1, .int x1), (2, .long x2), (4, .int x4)] [] (c, m, z) 0 0 := by
  unfold f_X7_readsBack_L3 at h
  refine aw_iload hG 3 rfl dX7_readsBack_3 ?_
  refine aw_aload_n hG 0 rfl dX7_readsBack_5 rfl ?_
  refine gt_m_many hG l_792 dX7_readsBack_6 ?_
  refine aw_icmp_ge (t := 32) hG dX7_readsBack_9 rfl (fun hc => ?_) (fun hc => ?_)
  · replace h := it_p hc h
    obtain rfl := Option.some.inj h
    refine aw_sub (L' := [(0, .ref (wad (cxw g) 17)), (1, .int x1), (2, .long x2)]) [0, 1, 2] rfl ?_
    exact hK
  · replace h := it_n hc h
    refine aw_aload_n hG 0 rfl dX7_readsBack_12 rfl ?_
    refine gt_m_row hG l_699 dX7_readsBack_13 ?_
    refine aw_iload hG 3 rfl dX7_readsBack_16 ?_
    refine aw_aload_n hG 0 rfl dX7_readsBack_18 rfl ?_
    refine gt_m_digits hG l_794 dX7_readsBack_19 ?_
    refine aw_iload hG 3 rfl dX7_readsBack_22 ?_
    obtain ⟨hi_1, h⟩ := it_o h
    refine al_mA (x := 0) hG (by decide) hi_1 dX7_readsBack_24 ?_
    obtain ⟨hi_2, h⟩ := it_o h
    refine as_mA hG (by decide) hi_2 dX7_readsBack_25 ?_
    refine aw_stm (fun m_3 hm_3 => ?_)
    replace h := lt_r hm_3 h
    obtain ⟨x4_4, hx4_4⟩ : ∃ y : Int32, y = x4 + 1 := ⟨_, rfl⟩
    replace h := lt_r hx4_4 h
    refine aw_iinc (v := x4_4) (L' := [(4, .int x4_4), (0, .ref (wad (cxw g) 17)), (1, .int x1), (2, .long x2)]) hG 3 rfl dX7_readsBack_26 (by rw [hx4_4]; rfl) (by decide) rfl ?_
    refine aw_goto (t := 3) hG dX7_readsBack_29 rfl ?_
    obtain rfl := Option.some.inj h
    refine aw_sub (L' := [(0, .ref (wad (cxw g) 17)), (1, .int x1), (2, .long x2), (4, .int x4_4)]) [1, 2, 3, 0] rfl ?_
    exact hK
noncomputable def f_X7_readsBack (x1 : Int32) (x2 : Int64) (m : MS) : Option (Int32 × MS) :=
  Option.bind (Lp (fun a => f_X7_readsBack_L3 x1 x2 a.1 a.2) (0, m)) fun e_6 =>
  lt (smI e_6 10 (mI e_6 3)) fun m_7 =>
  Option.bind (f_X7_roundDecimal x1 0 ((mI m_7 4) - (mI m_7 3)) 0 m_7) fun v_8 =>
  if (mJ v_8 2) = x2 then
    some (1, v_8)
  else
    some (0, v_8)
set_option maxRecDepth 20000 in
theorem w_X7_readsBack {g : Cx} {mc ms : Nat} {c : CS} {m : MS} {z : Nat → Int64} {x1 : Int32} {x2 : Int64} {s : (Int32 × MS)}  (hG : Gd g RX7 cX7_readsBack 5 6 mc ms) (h : f_X7_readsBack x1 x2 m = some s) (hK : FinZ g cX7_readsBack mc ms s.1 (c, s.2, z)) : AW g 0 [(0, .ref (wad (cxw g) 17)), (1, .int x1), (2, .long x2)] [] (c, m, z) 0 0 := by
  unfold f_X7_readsBack at h
  refine aw_iconst (v := 0) hG dX7_readsBack_0 rfl ?_
  refine aw_istore (L' := [(4, .int 0), (0, .ref (wad (cxw g) 17)), (1, .int x1), (2, .long x2)]) hG dX7_readsBack_1 (by decide) rfl ?_
  obtain ⟨e_6, he, h⟩ := bd_o h
  refine aw_sub (L' := [(0, .ref (wad (cxw g) 17)), (1, .int x1), (2, .long x2), (4, .int 0)]) [1, 2, 3, 0] rfl ?_
  refine Lp_w (F := (fun a => f_X7_readsBack_L3 x1 x2 a.1 a.2)) (S := (fun a => AW g 3 [(0, .ref (wad (cxw g) 17)), (1, .int x1), (2, .long x2), (4, .int a.1)] [] (c, a.2, z) 0 0)) (E := (fun e => AW g 32 [(0, .ref (wad (cxw g) 17)), (1, .int x1), (2, .long x2)] [] (c, e, z) 0 0)) (a := (0, m)) he (fun a s h hK => w_X7_readsBack_L3 (x1 := x1) (x2 := x2) (x4 := a.1) (m := a.2) hG h hK) ?_
  show AW g 32 _ _ _ 0 0
  refine aw_aload_n hG 0 rfl dX7_readsBack_32 rfl ?_
  refine aw_aload_n hG 0 rfl dX7_readsBack_33 rfl ?_
  refine gt_m_many hG l_792 dX7_readsBack_34 ?_
  refine pt_m_rowMany hG l_698 dX7_readsBack_37 ?_
  refine aw_stm (fun m_7 hm_7 => ?_)
  replace h := lt_r hm_7 h
  refine aw_aload_n hG 0 rfl dX7_readsBack_40 rfl ?_
  refine aw_iload_n hG 1 rfl dX7_readsBack_41 rfl ?_
  refine aw_iconst (v := 0) hG dX7_readsBack_42 rfl ?_
  refine aw_aload_n hG 0 rfl dX7_readsBack_43 rfl ?_
  refine gt_m_point hG l_793 dX7_readsBack_44 ?_
  refine aw_aload_n hG 0 rfl dX7_readsBack_47 rfl ?_
  refine gt_m_many hG l_792 dX7_readsBack_48 ?_
  refine aw_isub hG dX7_readsBack_51 ?_
  refine aw_iconst (v := 0) hG dX7_readsBack_52 rfl ?_
  obtain ⟨v_8, hv_8, h⟩ := bd_o h
  refine aw_callVv (As := [.int x1, .int 0, .int ((mI m_7 4) - (mI m_7 3)), .int 0]) (rest := []) hG (c_X7_roundDecimal (x1 := x1) (x2 := 0) (x3 := (mI m_7 4) - (mI m_7 3)) (x4 := 0) (m := m_7)  hv_8) l_776 wv_X7_roundDecimal (rv_X7 hG) rfl rfl rfl (by decide) (Nat.zero_le _) (Nat.zero_le _) (Nat.le_of_ble_eq_true rfl) dX7_readsBack_53 ?_
  refine aw_aload_n hG 0 rfl dX7_readsBack_56 rfl ?_
  refine gt_m_rounded hG l_678 dX7_readsBack_57 ?_
  refine aw_lload_n hG 2 rfl dX7_readsBack_60 rfl ?_
  refine aw_lc_ne (t := 69) hG dX7_readsBack_61 rfl dX7_readsBack_62 rfl rfl (fun hc => ?_) (fun hc => ?_)
  · replace h := it_n hc h
    refine aw_iconst (v := 0) hG dX7_readsBack_69 rfl ?_
    obtain rfl := Option.some.inj h
    exact FinZ.z hK (Or.inl rfl) dX7_readsBack_70
  · replace h := it_p hc h
    refine aw_iconst (v := 1) hG dX7_readsBack_65 rfl ?_
    refine aw_goto (t := 70) hG dX7_readsBack_66 rfl ?_
    obtain rfl := Option.some.inj h
    exact FinZ.z hK (Or.inr rfl) dX7_readsBack_70
theorem c_X7_readsBack {c : CS} {m : MS} {z : Nat → Int64} {x1 : Int32} {x2 : Int64} {s : Int32 × MS}  (h : f_X7_readsBack x1 x2 m = some s) : Ct yX7_readsBack cX7_readsBack 5 (some .boolean) 6 (fun w => [.ref (wad w 17), .int x1, .long x2]) (c, m, z) (fun _ => some (.int s.1)) (c, s.2, z) := Ct_ofZ (by decide +kernel) (fun _ => Nat.le_of_ble_eq_true rfl) (fun g hG hK => w_X7_readsBack hG h hK)
def f_X7_findShortest_J64 (x1 : Int32) (x2 : Int64) (x4 : Int32) (x5 : Int32) (x6 : Int32) (m : MS) : Option ((Int32 × MS) ⊕ ((Int32 × Int32 × Int32 × MS) ⊕ MS)) :=
  if x5 = 0 then
    if x6 = 0 then
      lt (x4 + 1) fun x4_5 =>
      some (.inl (x4_5, m))
    else
      some (.inr (.inl (x4, x5, x6, m)))
  else
    some (.inr (.inl (x4, x5, x6, m)))
set_option maxRecDepth 20000 in
theorem w_X7_findShortest_J64 {g : Cx} {mc ms : Nat} {c : CS} {m : MS} {z : Nat → Int64} {x1 : Int32} {x2 : Int64} {x4 : Int32} {x5 : Int32} {x6 : Int32} {s : ((Int32 × MS) ⊕ ((Int32 × Int32 × Int32 × MS) ⊕ MS))}  (hG : Gd g RX7 cX7_findShortest 9 7 mc ms) (h : f_X7_findShortest_J64 x1 x2 x4 x5 x6 m = some s) (hK : Sum.elim (fun a => AW g 13 [(0, .ref (wad (cxw g) 17)), (1, .int x1), (2, .long x2), (4, .int a.1)] [] (c, a.2, z) 0 0) (Sum.elim (fun e => AW g 74 [(0, .ref (wad (cxw g) 17)), (4, .int e.1), (5, .int e.2.1), (6, .int e.2.2.1)] [] (c, e.2.2.2, z) 0 0) (fun e => AW g 182 [] [] (c, e, z) 0 0)) s) : AW g 64 [(0, .ref (wad (cxw g) 17)), (1, .int x1), (2, .long x2), (4, .int x4), (5, .int x5), (6, .int x6)] [] (c, m, z) 0 0 := by
  unfold f_X7_findShortest_J64 at h
  refine aw_iload hG 4 rfl dX7_findShortest_64 ?_
  refine aw_if_ne (t := 74) hG dX7_findShortest_66 rfl (fun hc => ?_) (fun hc => ?_)
  · replace h := it_n hc h
    obtain rfl := Option.some.inj h
    refine aw_sub (L' := [(0, .ref (wad (cxw g) 17)), (4, .int x4), (5, .int x5), (6, .int x6)]) [0, 3, 4, 5] rfl ?_
    exact hK
  · replace h := it_p hc h
    refine aw_iload hG 5 rfl dX7_findShortest_69 ?_
    refine aw_if_eq (t := 176) hG dX7_findShortest_71 rfl (fun hc => ?_) (fun hc => ?_)
    · replace h := it_p hc h
      obtain ⟨x4_5, hx4_5⟩ : ∃ y : Int32, y = x4 + 1 := ⟨_, rfl⟩
      replace h := lt_r hx4_5 h
      refine aw_iinc (v := x4_5) (L' := [(4, .int x4_5), (0, .ref (wad (cxw g) 17)), (1, .int x1), (2, .long x2), (5, .int x5), (6, .int x6)]) hG 3 rfl dX7_findShortest_176 (by rw [hx4_5]; rfl) (by decide) rfl ?_
      refine aw_goto (t := 13) hG dX7_findShortest_179 rfl ?_
      obtain rfl := Option.some.inj h
      refine aw_sub (L' := [(0, .ref (wad (cxw g) 17)), (1, .int x1), (2, .long x2), (4, .int x4_5)]) [1, 2, 3, 0] rfl ?_
      exact hK
    · replace h := it_n hc h
      obtain rfl := Option.some.inj h
      refine aw_sub (L' := [(0, .ref (wad (cxw g) 17)), (4, .int x4), (5, .int x5), (6, .int x6)]) [0, 3, 4, 5] rfl ?_
      exact hK
noncomputable def f_X7_findShortest_L13 (x1 : Int32) (x2 : Int64) (x4 : Int32) (m : MS) : Option ((Int32 × MS) ⊕ ((Int32 × Int32 × Int32 × MS) ⊕ MS)) :=
  if (mI m 8) < x4 then
    some (.inr (.inr m))
  else
    Option.bind (f_X7_takeDigits x4 0 m) fun v_3 =>
    Option.bind (f_X7_readsBack x1 x2 v_3) fun v_4 =>
    if (mI v_4.2 8) ≤ x4 then
      f_X7_findShortest_J64 x1 x2 x4 v_4.1 0 v_4.2
    else
      Option.bind (f_X7_takeDigits x4 1 v_4.2) fun v_8 =>
      Option.bind (f_X7_readsBack x1 x2 v_8) fun v_9 =>
      f_X7_findShortest_J64 x1 x2 x4 v_4.1 v_9.1 v_9.2
set_option maxRecDepth 20000 in
theorem w_X7_findShortest_L13 {g : Cx} {mc ms : Nat} {c : CS} {m : MS} {z : Nat → Int64} {x1 : Int32} {x2 : Int64} {x4 : Int32} {s : ((Int32 × MS) ⊕ ((Int32 × Int32 × Int32 × MS) ⊕ MS))}  (hG : Gd g RX7 cX7_findShortest 9 7 mc ms) (h : f_X7_findShortest_L13 x1 x2 x4 m = some s) (hK : Sum.elim (fun a => AW g 13 [(0, .ref (wad (cxw g) 17)), (1, .int x1), (2, .long x2), (4, .int a.1)] [] (c, a.2, z) 0 0) (Sum.elim (fun e => AW g 74 [(0, .ref (wad (cxw g) 17)), (4, .int e.1), (5, .int e.2.1), (6, .int e.2.2.1)] [] (c, e.2.2.2, z) 0 0) (fun e => AW g 182 [] [] (c, e, z) 0 0)) s) : AW g 13 [(0, .ref (wad (cxw g) 17)), (1, .int x1), (2, .long x2), (4, .int x4)] [] (c, m, z) 0 0 := by
  unfold f_X7_findShortest_L13 at h
  refine aw_iload hG 3 rfl dX7_findShortest_13 ?_
  refine aw_aload_n hG 0 rfl dX7_findShortest_15 rfl ?_
  refine gt_m_exactMany hG l_791 dX7_findShortest_16 ?_
  refine aw_icmp_gt (t := 182) hG dX7_findShortest_19 rfl (fun hc => ?_) (fun hc => ?_)
  · replace h := it_p hc h
    obtain rfl := Option.some.inj h
    refine aw_sub (L' := []) [] rfl ?_
    exact hK
  · replace h := it_n hc h
    refine aw_aload_n hG 0 rfl dX7_findShortest_22 rfl ?_
    refine aw_iload hG 3 rfl dX7_findShortest_23 ?_
    refine aw_iconst (v := 0) hG dX7_findShortest_25 rfl ?_
    obtain ⟨v_3, hv_3, h⟩ := bd_o h
    refine aw_callVv (As := [.int x4, .int 0]) (rest := []) hG (c_X7_takeDigits (x1 := x4) (x2 := 0) (m := m)  hv_3) l_835 wv_X7_takeDigits (rv_X7 hG) rfl rfl rfl (by decide) (Nat.zero_le _) (Nat.zero_le _) (Nat.le_of_ble_eq_true rfl) dX7_findShortest_26 ?_
    refine aw_aload_n hG 0 rfl dX7_findShortest_29 rfl ?_
    refine aw_iload_n hG 1 rfl dX7_findShortest_30 rfl ?_
    refine aw_lload_n hG 2 rfl dX7_findShortest_31 rfl ?_
    obtain ⟨v_4, hv_4, h⟩ := bd_o h
    refine aw_callVi (As := [.int x1, .long x2]) (rest := []) hG (c_X7_readsBack (x1 := x1) (x2 := x2) (m := v_3)  hv_4) l_840 wv_X7_readsBack (rv_X7 hG) rfl rfl rfl (by decide) (Nat.zero_le _) (Nat.zero_le _) (Nat.le_of_ble_eq_true rfl) dX7_findShortest_32 ?_
    refine aw_istore (L' := [(5, .int v_4.1), (0, .ref (wad (cxw g) 17)), (1, .int x1), (2, .long x2), (4, .int x4)]) hG dX7_findShortest_35 (by decide) rfl ?_
    refine aw_iconst (v := 0) hG dX7_findShortest_37 rfl ?_
    refine aw_istore (L' := [(6, .int 0), (5, .int v_4.1), (0, .ref (wad (cxw g) 17)), (1, .int x1), (2, .long x2), (4, .int x4)]) hG dX7_findShortest_38 (by decide) rfl ?_
    refine aw_iload hG 5 rfl dX7_findShortest_40 ?_
    refine aw_aload_n hG 2 rfl dX7_findShortest_42 rfl ?_
    refine gt_m_exactMany hG l_791 dX7_findShortest_43 ?_
    refine aw_icmp_ge (t := 64) hG dX7_findShortest_46 rfl (fun hc => ?_) (fun hc => ?_)
    · replace h := it_p hc h
      refine aw_sub (L' := [(0, .ref (wad (cxw g) 17)), (1, .int x1), (2, .long x2), (4, .int x4), (5, .int v_4.1), (6, .int 0)]) [2, 3, 4, 5, 1, 0] rfl ?_
      exact w_X7_findShortest_J64 (x1 := x1) (x2 := x2) (x4 := x4) (x5 := v_4.1) (x6 := 0) (m := v_4.2) hG h hK
    · replace h := it_n hc h
      refine aw_aload_n hG 2 rfl dX7_findShortest_49 rfl ?_
      refine aw_iload hG 5 rfl dX7_findShortest_50 ?_
      refine aw_iconst (v := 1) hG dX7_findShortest_52 rfl ?_
      obtain ⟨v_8, hv_8, h⟩ := bd_o h
      refine aw_callVv (As := [.int x4, .int 1]) (rest := []) hG (c_X7_takeDigits (x1 := x4) (x2 := 1) (m := v_4.2)  hv_8) l_835 wv_X7_takeDigits (rv_X7 hG) rfl rfl rfl (by decide) (Nat.zero_le _) (Nat.zero_le _) (Nat.le_of_ble_eq_true rfl) dX7_findShortest_53 ?_
      refine aw_aload_n hG 2 rfl dX7_findShortest_56 rfl ?_
      refine aw_iload_n hG 3 rfl dX7_findShortest_57 rfl ?_
      refine aw_lload_n hG 4 rfl dX7_findShortest_58 rfl ?_
      obtain ⟨v_9, hv_9, h⟩ := bd_o h
      refine aw_callVi (As := [.int x1, .long x2]) (rest := []) hG (c_X7_readsBack (x1 := x1) (x2 := x2) (m := v_8)  hv_9) l_840 wv_X7_readsBack (rv_X7 hG) rfl rfl rfl (by decide) (Nat.zero_le _) (Nat.zero_le _) (Nat.le_of_ble_eq_true rfl) dX7_findShortest_59 ?_
      refine aw_istore (L' := [(6, .int v_9.1), (5, .int v_4.1), (0, .ref (wad (cxw g) 17)), (1, .int x1), (2, .long x2), (4, .int x4)]) hG dX7_findShortest_62 (by decide) rfl ?_
      refine aw_sub (L' := [(0, .ref (wad (cxw g) 17)), (1, .int x1), (2, .long x2), (4, .int x4), (5, .int v_4.1), (6, .int v_9.1)]) [2, 3, 4, 5, 1, 0] rfl ?_
      exact w_X7_findShortest_J64 (x1 := x1) (x2 := x2) (x4 := x4) (x5 := v_4.1) (x6 := v_9.1) (m := v_9.2) hG h hK
def f_X7_findShortest_L140 (m : MS) : Option ((MS) ⊕ (MS)) :=
  if (mI m 3) ≤ 1 then
    some (.inr m)
  else
    if vI ((mI m 3) - 1) (mLen 2) then
      if (mA m 2 ((mI m 3) - 1).toNatClampNeg) = 0 then
        lt (smI m 3 ((mI m 3) - 1)) fun m_19 =>
        some (.inl m_19)
      else
        some (.inr m)
    else none
set_option maxRecDepth 20000 in
theorem w_X7_findShortest_L140 {g : Cx} {mc ms : Nat} {c : CS} {m : MS} {z : Nat → Int64}  {s : ((MS) ⊕ (MS))}  (hG : Gd g RX7 cX7_findShortest 9 7 mc ms) (h : f_X7_findShortest_L140 m = some s) (hK : Sum.elim (fun a => AW g 140 [(0, .ref (wad (cxw g) 17))] [] (c, a, z) 0 0) (fun e => AW g 175 [] [] (c, e, z) 0 0) s) : AW g 140 [(0, .ref (wad (cxw g) 17))] [] (c, m, z) 0 0 := by
  unfold f_X7_findShortest_L140 at h
  refine aw_aload_n hG 0 rfl dX7_findShortest_140 rfl ?_
  refine gt_m_many hG l_792 dX7_findShortest_141 ?_
  refine aw_iconst (v := 1) hG dX7_findShortest_144 rfl ?_
  refine aw_icmp_le (t := 175) hG dX7_findShortest_145 rfl (fun hc => ?_) (fun hc => ?_)
  · replace h := it_p hc h
    obtain rfl := Option.some.inj h
    refine aw_sub (L' := []) [] rfl ?_
    exact hK
  · replace h := it_n hc h
    refine aw_aload_n hG 0 rfl dX7_findShortest_148 rfl ?_
    refine gt_m_digits hG l_794 dX7_findShortest_149 ?_
    refine aw_aload_n hG 0 rfl dX7_findShortest_152 rfl ?_
    refine gt_m_many hG l_792 dX7_findShortest_153 ?_
    refine aw_iconst (v := 1) hG dX7_findShortest_156 rfl ?_
    refine aw_isub hG dX7_findShortest_157 ?_
    obtain ⟨hi_18, h⟩ := it_o h
    refine al_mA (x := 0) hG (by decide) hi_18 dX7_findShortest_158 ?_
    refine aw_if_ne (t := 175) hG dX7_findShortest_159 rfl (fun hc => ?_) (fun hc => ?_)
    · replace h := it_n hc h
      obtain rfl := Option.some.inj h
      refine aw_sub (L' := []) [] rfl ?_
      exact hK
    · replace h := it_p hc h
      refine aw_aload_n hG 0 rfl dX7_findShortest_162 rfl ?_
      refine aw_dup hG dX7_findShortest_163 rfl ?_
      refine gt_m_many hG l_792 dX7_findShortest_164 ?_
      refine aw_iconst (v := 1) hG dX7_findShortest_167 rfl ?_
      refine aw_isub hG dX7_findShortest_168 ?_
      refine pt_m_many hG l_792 dX7_findShortest_169 ?_
      refine aw_stm (fun m_19 hm_19 => ?_)
      replace h := lt_r hm_19 h
      refine aw_goto (t := 140) hG dX7_findShortest_172 rfl ?_
      obtain rfl := Option.some.inj h
      exact hK
noncomputable def f_X7_findShortest_J137 (s0 : Int32) (s1 : Int32) (m : MS) : Option MS :=
  Option.bind (f_X7_takeDigits s1 s0 m) fun v_17 =>
  Option.bind (Lp (fun a => f_X7_findShortest_L140 a) v_17) fun e_22 =>
  some e_22
set_option maxRecDepth 20000 in
theorem w_X7_findShortest_J137 {g : Cx} {mc ms : Nat} {c : CS} {m : MS} {z : Nat → Int64} {s0 : Int32} {s1 : Int32} {s : MS}  (hG : Gd g RX7 cX7_findShortest 9 7 mc ms) (h : f_X7_findShortest_J137 s0 s1 m = some s) (hK : FinV g cX7_findShortest mc ms (c, s, z)) : AW g 137 [(0, .ref (wad (cxw g) 17))] [.int s0, .int s1, .ref (wad (cxw g) 17)] (c, m, z) 0 0 := by
  unfold f_X7_findShortest_J137 at h
  obtain ⟨v_17, hv_17, h⟩ := bd_o h
  refine aw_callVv (As := [.int s1, .int s0]) (rest := []) hG (c_X7_takeDigits (x1 := s1) (x2 := s0) (m := m)  hv_17) l_835 wv_X7_takeDigits (rv_X7 hG) rfl rfl rfl (by decide) (Nat.zero_le _) (Nat.zero_le _) (Nat.le_of_ble_eq_true rfl) dX7_findShortest_137 ?_
  obtain ⟨e_22, he, h⟩ := bd_o h
  refine Lp_w (F := (fun a => f_X7_findShortest_L140 a)) (S := (fun a => AW g 140 [(0, .ref (wad (cxw g) 17))] [] (c, a, z) 0 0)) (E := (fun e => AW g 175 [] [] (c, e, z) 0 0)) (a := v_17) he (fun a s h hK => w_X7_findShortest_L140 (m := a) hG h hK) ?_
  show AW g 175 _ _ _ 0 0
  obtain rfl := Option.some.inj h
  exact FinV.z hK dX7_findShortest_175
noncomputable def f_X7_findShortest_J102 (x4 : Int32) (x5 : Int32) (x6 : Int32) (x7 : Int32) (s0 : Int32) (m : MS) : Option MS :=
  if x6 = 0 then
    f_X7_findShortest_J137 0 x4 m
  else
    if x5 = 0 then
      f_X7_findShortest_J137 1 x4 m
    else
      if 0 < x7 then
        f_X7_findShortest_J137 1 x4 m
      else
        if x7 = 0 then
          if s0 = 0 then
            f_X7_findShortest_J137 0 x4 m
          else
            f_X7_findShortest_J137 1 x4 m
        else
          f_X7_findShortest_J137 0 x4 m
set_option maxRecDepth 20000 in
theorem w_X7_findShortest_J102 {g : Cx} {mc ms : Nat} {c : CS} {m : MS} {z : Nat → Int64} {x4 : Int32} {x5 : Int32} {x6 : Int32} {x7 : Int32} {s0 : Int32} {s : MS}  (hG : Gd g RX7 cX7_findShortest 9 7 mc ms) (h : f_X7_findShortest_J102 x4 x5 x6 x7 s0 m = some s) (hK : FinV g cX7_findShortest mc ms (c, s, z)) : AW g 102 [(0, .ref (wad (cxw g) 17)), (4, .int x4), (5, .int x5), (6, .int x6), (7, .int x7)] [.int s0] (c, m, z) 0 0 := by
  unfold f_X7_findShortest_J102 at h
  refine aw_istore (L' := [(8, .int s0), (0, .ref (wad (cxw g) 17)), (4, .int x4), (5, .int x5), (6, .int x6), (7, .int x7)]) hG dX7_findShortest_102 (by decide) rfl ?_
  refine aw_aload_n hG 1 rfl dX7_findShortest_104 rfl ?_
  refine aw_iload hG 2 rfl dX7_findShortest_105 ?_
  refine aw_iload hG 4 rfl dX7_findShortest_107 ?_
  refine aw_if_eq (t := 136) hG dX7_findShortest_109 rfl (fun hc => ?_) (fun hc => ?_)
  · replace h := it_p hc h
    refine aw_iconst (v := 0) hG dX7_findShortest_136 rfl ?_
    refine aw_sub (L' := [(0, .ref (wad (cxw g) 17))]) [1] rfl ?_
    exact w_X7_findShortest_J137 (s0 := 0) (s1 := x4) (m := m) hG h hK
  · replace h := it_n hc h
    refine aw_iload hG 3 rfl dX7_findShortest_112 ?_
    refine aw_if_eq (t := 132) hG dX7_findShortest_114 rfl (fun hc => ?_) (fun hc => ?_)
    · replace h := it_p hc h
      refine aw_iconst (v := 1) hG dX7_findShortest_132 rfl ?_
      refine aw_goto (t := 137) hG dX7_findShortest_133 rfl ?_
      refine aw_sub (L' := [(0, .ref (wad (cxw g) 17))]) [1] rfl ?_
      exact w_X7_findShortest_J137 (s0 := 1) (s1 := x4) (m := m) hG h hK
    · replace h := it_n hc h
      refine aw_iload hG 5 rfl dX7_findShortest_117 ?_
      refine aw_if_gt (t := 132) hG dX7_findShortest_119 rfl (fun hc => ?_) (fun hc => ?_)
      · replace h := it_p hc h
        refine aw_iconst (v := 1) hG dX7_findShortest_132 rfl ?_
        refine aw_goto (t := 137) hG dX7_findShortest_133 rfl ?_
        refine aw_sub (L' := [(0, .ref (wad (cxw g) 17))]) [1] rfl ?_
        exact w_X7_findShortest_J137 (s0 := 1) (s1 := x4) (m := m) hG h hK
      · replace h := it_n hc h
        refine aw_iload hG 5 rfl dX7_findShortest_122 ?_
        refine aw_if_ne (t := 136) hG dX7_findShortest_124 rfl (fun hc => ?_) (fun hc => ?_)
        · replace h := it_n hc h
          refine aw_iconst (v := 0) hG dX7_findShortest_136 rfl ?_
          refine aw_sub (L' := [(0, .ref (wad (cxw g) 17))]) [1] rfl ?_
          exact w_X7_findShortest_J137 (s0 := 0) (s1 := x4) (m := m) hG h hK
        · replace h := it_p hc h
          refine aw_iload hG 0 rfl dX7_findShortest_127 ?_
          refine aw_if_eq (t := 136) hG dX7_findShortest_129 rfl (fun hc => ?_) (fun hc => ?_)
          · replace h := it_p hc h
            refine aw_iconst (v := 0) hG dX7_findShortest_136 rfl ?_
            refine aw_sub (L' := [(0, .ref (wad (cxw g) 17))]) [1] rfl ?_
            exact w_X7_findShortest_J137 (s0 := 0) (s1 := x4) (m := m) hG h hK
          · replace h := it_n hc h
            refine aw_iconst (v := 1) hG dX7_findShortest_132 rfl ?_
            refine aw_goto (t := 137) hG dX7_findShortest_133 rfl ?_
            refine aw_sub (L' := [(0, .ref (wad (cxw g) 17))]) [1] rfl ?_
            exact w_X7_findShortest_J137 (s0 := 1) (s1 := x4) (m := m) hG h hK
noncomputable def f_X7_findShortest (x1 : Int32) (x2 : Int64) (m : MS) : Option MS :=
  lt (f_X7_split x1 x2 m) fun v_1 =>
  Option.bind (f_X7_spell v_1) fun v_2 =>
  Option.bind (Lp (fun a => f_X7_findShortest_L13 x1 x2 a.1 a.2) (1, v_2)) fun e_12 =>
  Sum.elim (fun e_13 =>
    Option.bind (f_X7_behindHalf e_13.1 e_13.2.2.2) fun v_15 =>
    if vI (e_13.1 - 1) (mLen 6) then
      if (irm (mA e_13.2.2.2 6 (e_13.1 - 1).toNatClampNeg) 2) = 1 then
        f_X7_findShortest_J102 e_13.1 e_13.2.1 e_13.2.2.1 v_15 1 e_13.2.2.2
      else
        f_X7_findShortest_J102 e_13.1 e_13.2.1 e_13.2.2.1 v_15 0 e_13.2.2.2
    else none) (fun e_14 =>
    some e_14) e_12
set_option maxRecDepth 20000 in
theorem w_X7_findShortest {g : Cx} {mc ms : Nat} {c : CS} {m : MS} {z : Nat → Int64} {x1 : Int32} {x2 : Int64} {s : MS}  (hG : Gd g RX7 cX7_findShortest 9 7 mc ms) (h : f_X7_findShortest x1 x2 m = some s) (hK : FinV g cX7_findShortest mc ms (c, s, z)) : AW g 0 [(0, .ref (wad (cxw g) 17)), (1, .int x1), (2, .long x2)] [] (c, m, z) 0 0 := by
  unfold f_X7_findShortest at h
  refine aw_aload_n hG 0 rfl dX7_findShortest_0 rfl ?_
  refine aw_iload_n hG 1 rfl dX7_findShortest_1 rfl ?_
  refine aw_lload_n hG 2 rfl dX7_findShortest_2 rfl ?_
  obtain ⟨v_1, hv_1⟩ : ∃ y, y = f_X7_split x1 x2 m := ⟨_, rfl⟩
  replace h := lt_r hv_1 h
  refine aw_callVv (As := [.int x1, .long x2]) (rest := []) hG (c_X7_split (x1 := x1) (x2 := x2) (m := m)  hv_1.symm) l_825 wv_X7_split (rv_X7 hG) rfl rfl rfl (by decide) (Nat.zero_le _) (Nat.zero_le _) (Nat.le_of_ble_eq_true rfl) dX7_findShortest_3 ?_
  refine aw_aload_n hG 0 rfl dX7_findShortest_6 rfl ?_
  obtain ⟨v_2, hv_2, h⟩ := bd_o h
  refine aw_callVv (As := []) (rest := []) hG (c_X7_spell (m := v_1)  hv_2) l_830 wv_X7_spell (rv_X7 hG) rfl rfl rfl (by decide) (Nat.zero_le _) (Nat.zero_le _) (Nat.le_of_ble_eq_true rfl) dX7_findShortest_7 ?_
  refine aw_iconst (v := 1) hG dX7_findShortest_10 rfl ?_
  refine aw_istore (L' := [(4, .int 1), (0, .ref (wad (cxw g) 17)), (1, .int x1), (2, .long x2)]) hG dX7_findShortest_11 (by decide) rfl ?_
  obtain ⟨e_12, he, h⟩ := bd_o h
  refine aw_sub (L' := [(0, .ref (wad (cxw g) 17)), (1, .int x1), (2, .long x2), (4, .int 1)]) [1, 2, 3, 0] rfl ?_
  refine Lp_w (F := (fun a => f_X7_findShortest_L13 x1 x2 a.1 a.2)) (S := (fun a => AW g 13 [(0, .ref (wad (cxw g) 17)), (1, .int x1), (2, .long x2), (4, .int a.1)] [] (c, a.2, z) 0 0)) (E := (Sum.elim (fun e => AW g 74 [(0, .ref (wad (cxw g) 17)), (4, .int e.1), (5, .int e.2.1), (6, .int e.2.2.1)] [] (c, e.2.2.2, z) 0 0) (fun e => AW g 182 [] [] (c, e, z) 0 0))) (a := (1, v_2)) he (fun a s h hK => w_X7_findShortest_L13 (x1 := x1) (x2 := x2) (x4 := a.1) (m := a.2) hG h hK) ?_
  rcases e_12 with e_13 | e_14
  · replace h := el_l h
    show AW g 74 _ _ _ 0 0
    refine aw_aload_n hG 0 rfl dX7_findShortest_74 rfl ?_
    refine aw_iload hG 1 rfl dX7_findShortest_75 ?_
    obtain ⟨v_15, hv_15, h⟩ := bd_o h
    refine aw_callVi (As := [.int e_13.1]) (rest := []) hG (c_X7_behindHalf (x1 := e_13.1) (m := e_13.2.2.2)  hv_15) l_845 wv_X7_behindHalf (rv_X7 hG) rfl rfl rfl (by decide) (Nat.zero_le _) (Nat.zero_le _) (Nat.le_of_ble_eq_true rfl) dX7_findShortest_77 ?_
    refine aw_istore (L' := [(7, .int v_15), (0, .ref (wad (cxw g) 17)), (4, .int e_13.1), (5, .int e_13.2.1), (6, .int e_13.2.2.1)]) hG dX7_findShortest_80 (by decide) rfl ?_
    refine aw_aload_n hG 1 rfl dX7_findShortest_82 rfl ?_
    refine gt_m_exact hG l_788 dX7_findShortest_83 ?_
    refine aw_iload hG 2 rfl dX7_findShortest_86 ?_
    refine aw_iconst (v := 1) hG dX7_findShortest_88 rfl ?_
    refine aw_isub hG dX7_findShortest_89 ?_
    obtain ⟨hi_16, h⟩ := it_o h
    refine al_mA (x := 0) hG (by decide) hi_16 dX7_findShortest_90 ?_
    refine aw_iconst (v := 2) hG dX7_findShortest_91 rfl ?_
    refine aw_iremJ hG dX7_findShortest_92 (by decide) ?_
    refine aw_iconst (v := 1) hG dX7_findShortest_93 rfl ?_
    refine aw_icmp_ne (t := 101) hG dX7_findShortest_94 rfl (fun hc => ?_) (fun hc => ?_)
    · replace h := it_n hc h
      refine aw_iconst (v := 0) hG dX7_findShortest_101 rfl ?_
      refine aw_sub (L' := [(0, .ref (wad (cxw g) 17)), (4, .int e_13.1), (5, .int e_13.2.1), (6, .int e_13.2.2.1), (7, .int v_15)]) [1, 2, 3, 4, 0] rfl ?_
      exact w_X7_findShortest_J102 (x4 := e_13.1) (x5 := e_13.2.1) (x6 := e_13.2.2.1) (x7 := v_15) (s0 := 0) (m := e_13.2.2.2) hG h hK
    · replace h := it_p hc h
      refine aw_iconst (v := 1) hG dX7_findShortest_97 rfl ?_
      refine aw_goto (t := 102) hG dX7_findShortest_98 rfl ?_
      refine aw_sub (L' := [(0, .ref (wad (cxw g) 17)), (4, .int e_13.1), (5, .int e_13.2.1), (6, .int e_13.2.2.1), (7, .int v_15)]) [1, 2, 3, 4, 0] rfl ?_
      exact w_X7_findShortest_J102 (x4 := e_13.1) (x5 := e_13.2.1) (x6 := e_13.2.2.1) (x7 := v_15) (s0 := 1) (m := e_13.2.2.2) hG h hK
  · replace h := el_r h
    show AW g 182 _ _ _ 0 0
    obtain rfl := Option.some.inj h
    exact FinV.z hK dX7_findShortest_182
theorem c_X7_findShortest {c : CS} {m : MS} {z : Nat → Int64} {x1 : Int32} {x2 : Int64} {s : MS}  (h : f_X7_findShortest x1 x2 m = some s) : Ct yX7_findShortest cX7_findShortest 9 none 7 (fun w => [.ref (wad w 17), .int x1, .long x2]) (c, m, z) (fun _ => none) (c, s, z) := Ct_ofV (by decide +kernel) (fun _ => Nat.le_of_ble_eq_true rfl) (fun g hG hK => w_X7_findShortest hG h hK)
def f_X7_isForm (x0 : Int32) : Int32 :=
  (f_X7_in x0.toInt64 0 2)
set_option maxRecDepth 20000 in
theorem w_X7_isForm {g : Cx} {mc ms : Nat} {c : CS} {m : MS} {z : Nat → Int64} {x0 : Int32} {s : Int32}  (hG : Gd g RX7 cX7_isForm 1 2 mc ms) (h : f_X7_isForm x0 = s) (hK : FinZ g cX7_isForm mc ms s (c, m, z)) : AW g 0 [(0, .int x0)] [] (c, m, z) 0 0 := by
  unfold f_X7_isForm at h
  refine aw_iload_n hG 0 rfl dX7_isForm_0 rfl ?_
  refine aw_i2l hG dX7_isForm_1 ?_
  refine aw_lconst (v := 0) hG dX7_isForm_2 rfl ?_
  refine aw_ldc2 hG l_620 dX7_isForm_3 ?_
  refine aw_callSi (As := [.long x0.toInt64, .long 0, .long 2]) (rest := []) hG (c_X7_in (x0 := x0.toInt64) (x2 := 0) (x4 := 2) (m := m) ) l_626 ws_X7_in rfl rfl rfl (by decide) (Nat.zero_le _) (Nat.zero_le _) (Nat.le_of_ble_eq_true rfl) dX7_isForm_6 ?_
  subst h
  exact FinZ.z hK b_X7_in dX7_isForm_9
theorem c_X7_isForm {c : CS} {m : MS} {z : Nat → Int64} {x0 : Int32}  : Ct yX7_isForm cX7_isForm 1 (some .boolean) 2 (fun w => [.int x0]) (c, m, z) (fun _ => some (.int (f_X7_isForm x0))) (c, m, z) := Ct_ofZ (by decide +kernel) (fun _ => Nat.le_of_ble_eq_true rfl) (fun g hG hK => w_X7_isForm hG rfl hK)
theorem b_X7_isForm {x0 : Int32} : f_X7_isForm x0 = 0 ∨ f_X7_isForm x0 = 1 := by
  unfold f_X7_isForm
  repeat' split
  all_goals first | exact Or.inl rfl | exact Or.inr rfl | exact b_X7_in
noncomputable def f_X7_shortest_J73 (x4 : Int32) (m : MS) : Option (Int32 × MS) :=
  Option.bind (f_X7_write x4 m) fun v_5 =>
  some (v_5.1, v_5.2)
set_option maxRecDepth 20000 in
theorem w_X7_shortest_J73 {g : Cx} {mc ms : Nat} {c : CS} {m : MS} {z : Nat → Int64} {x4 : Int32} {s : (Int32 × MS)}  (hG : Gd g RX7 cX7_shortest 7 8 mc ms) (h : f_X7_shortest_J73 x4 m = some s) (hK : FinI g cX7_shortest mc ms s.1 (c, s.2, z)) : AW g 73 [(0, .ref (wad (cxw g) 17)), (4, .int x4)] [] (c, m, z) 0 0 := by
  unfold f_X7_shortest_J73 at h
  refine aw_aload_n hG 0 rfl dX7_shortest_73 rfl ?_
  refine aw_iload hG 1 rfl dX7_shortest_74 ?_
  obtain ⟨v_5, hv_5, h⟩ := bd_o h
  refine aw_callVi (As := [.int x4]) (rest := []) hG (c_X7_write (x1 := x4) (m := m)  hv_5) l_864 wv_X7_write (rv_X7 hG) rfl rfl rfl (by decide) (Nat.zero_le _) (Nat.zero_le _) (Nat.le_of_ble_eq_true rfl) dX7_shortest_76 ?_
  obtain rfl := Option.some.inj h
  exact FinI.z hK dX7_shortest_79
noncomputable def f_X7_shortest_J22 (x1 : Int32) (x2 : Int64) (x4 : Int32) (s0 : Int32) (m : MS) : Option (Int32 × MS) :=
  lt (f_X7_refuses s0 m) fun v_1 =>
  if v_1.1 = 0 then
    Option.bind (f_X7_isNoNumber x1 x2 v_1.2) fun v_2 =>
    if v_2.1 = 0 then
      lt (f_X7_sizeOf x1 x2) fun x5_3 =>
      if x5_3 = 0 then
        Option.bind (f_X7_zeros 1 v_2.2) fun v_6 =>
        f_X7_shortest_J73 x4 v_6
      else
        Option.bind (f_X7_findShortest x1 x5_3 v_2.2) fun v_4 =>
        f_X7_shortest_J73 x4 v_4
    else
      some (mI v_2.2 2, v_2.2)
  else
    some (0, v_1.2)
set_option maxRecDepth 20000 in
theorem w_X7_shortest_J22 {g : Cx} {mc ms : Nat} {c : CS} {m : MS} {z : Nat → Int64} {x1 : Int32} {x2 : Int64} {x4 : Int32} {s0 : Int32} {s : (Int32 × MS)}  (hG : Gd g RX7 cX7_shortest 7 8 mc ms) (h : f_X7_shortest_J22 x1 x2 x4 s0 m = some s) (hK : FinI g cX7_shortest mc ms s.1 (c, s.2, z)) : AW g 22 [(0, .ref (wad (cxw g) 17)), (1, .int x1), (2, .long x2), (4, .int x4)] [.int s0, .ref (wad (cxw g) 17)] (c, m, z) 0 0 := by
  unfold f_X7_shortest_J22 at h
  obtain ⟨v_1, hv_1⟩ : ∃ y, y = f_X7_refuses s0 m := ⟨_, rfl⟩
  replace h := lt_r hv_1 h
  refine aw_callVi (As := [.int s0]) (rest := []) hG (c_X7_refuses (x1 := s0) (m := m)  hv_1.symm) l_718 wv_X7_refuses (rv_X7 hG) rfl rfl rfl (by decide) (Nat.zero_le _) (Nat.zero_le _) (Nat.le_of_ble_eq_true rfl) dX7_shortest_22 ?_
  refine aw_if_eq (t := 30) hG dX7_shortest_25 rfl (fun hc => ?_) (fun hc => ?_)
  · replace h := it_p hc h
    refine aw_aload_n hG 0 rfl dX7_shortest_30 rfl ?_
    refine aw_iload_n hG 1 rfl dX7_shortest_31 rfl ?_
    refine aw_lload_n hG 2 rfl dX7_shortest_32 rfl ?_
    obtain ⟨v_2, hv_2, h⟩ := bd_o h
    refine aw_callVi (As := [.int x1, .long x2]) (rest := []) hG (c_X7_isNoNumber (x1 := x1) (x2 := x2) (m := v_1.2)  hv_2) l_854 wv_X7_isNoNumber (rv_X7 hG) rfl rfl rfl (by decide) (Nat.zero_le _) (Nat.zero_le _) (Nat.le_of_ble_eq_true rfl) dX7_shortest_33 ?_
    refine aw_if_eq (t := 44) hG dX7_shortest_36 rfl (fun hc => ?_) (fun hc => ?_)
    · replace h := it_p hc h
      refine aw_iload_n hG 1 rfl dX7_shortest_44 rfl ?_
      refine aw_lload_n hG 2 rfl dX7_shortest_45 rfl ?_
      refine aw_callSl (As := [.int x1, .long x2]) (rest := []) hG (c_X7_sizeOf (x0 := x1) (x1 := x2) (m := v_2.2) ) l_634 ws_X7_sizeOf rfl rfl rfl (by decide) (Nat.zero_le _) (Nat.zero_le _) (Nat.le_of_ble_eq_true rfl) dX7_shortest_46 ?_
      refine aw_topl (fun x5_3 hx5_3 => ?_)
      replace h := lt_r hx5_3 h
      refine aw_lstore (L' := [(5, .long x5_3), (0, .ref (wad (cxw g) 17)), (1, .int x1), (2, .long x2), (4, .int x4)]) hG dX7_shortest_49 (by decide) rfl ?_
      refine aw_lload hG 0 rfl dX7_shortest_51 ?_
      refine aw_lconst (v := 0) hG dX7_shortest_53 rfl ?_
      refine aw_lc_ne (t := 66) hG dX7_shortest_54 rfl dX7_shortest_55 rfl rfl (fun hc => ?_) (fun hc => ?_)
      · replace h := it_n hc h
        refine aw_aload_n hG 1 rfl dX7_shortest_66 rfl ?_
        refine aw_iload_n hG 2 rfl dX7_shortest_67 rfl ?_
        refine aw_lload hG 0 rfl dX7_shortest_68 ?_
        obtain ⟨v_4, hv_4, h⟩ := bd_o h
        refine aw_callVv (As := [.int x1, .long x5_3]) (rest := []) hG (c_X7_findShortest (x1 := x1) (x2 := x5_3) (m := v_2.2)  hv_4) l_859 wv_X7_findShortest (rv_X7 hG) rfl rfl rfl (by decide) (Nat.zero_le _) (Nat.zero_le _) (Nat.le_of_ble_eq_true rfl) dX7_shortest_70 ?_
        refine aw_sub (L' := [(0, .ref (wad (cxw g) 17)), (4, .int x4)]) [1, 4] rfl ?_
        exact w_X7_shortest_J73 (x4 := x4) (m := v_4) hG h hK
      · replace h := it_p hc h
        refine aw_aload_n hG 1 rfl dX7_shortest_58 rfl ?_
        refine aw_iconst (v := 1) hG dX7_shortest_59 rfl ?_
        obtain ⟨v_6, hv_6, h⟩ := bd_o h
        refine aw_callVv (As := [.int 1]) (rest := []) hG (c_X7_zeros (x1 := 1) (m := v_2.2)  hv_6) l_869 wv_X7_zeros (rv_X7 hG) rfl rfl rfl (by decide) (Nat.zero_le _) (Nat.zero_le _) (Nat.le_of_ble_eq_true rfl) dX7_shortest_60 ?_
        refine aw_goto (t := 73) hG dX7_shortest_63 rfl ?_
        refine aw_sub (L' := [(0, .ref (wad (cxw g) 17)), (4, .int x4)]) [1, 4] rfl ?_
        exact w_X7_shortest_J73 (x4 := x4) (m := v_6) hG h hK
    · replace h := it_n hc h
      refine aw_aload_n hG 0 rfl dX7_shortest_39 rfl ?_
      refine gt_m_outSize hG l_726 dX7_shortest_40 ?_
      obtain rfl := Option.some.inj h
      exact FinI.z hK dX7_shortest_43
  · replace h := it_n hc h
    refine aw_iconst (v := 0) hG dX7_shortest_28 rfl ?_
    obtain rfl := Option.some.inj h
    exact FinI.z hK dX7_shortest_29
noncomputable def f_X7_shortest (x1 : Int32) (x2 : Int64) (x4 : Int32) (m : MS) : Option (Int32 × MS) :=
  if (f_X7_isPattern x1 x2) = 0 then
    f_X7_shortest_J22 x1 x2 x4 0 m
  else
    if (f_X7_isForm x4) = 0 then
      f_X7_shortest_J22 x1 x2 x4 0 m
    else
      f_X7_shortest_J22 x1 x2 x4 1 m
set_option maxRecDepth 20000 in
theorem w_X7_shortest {g : Cx} {mc ms : Nat} {c : CS} {m : MS} {z : Nat → Int64} {x1 : Int32} {x2 : Int64} {x4 : Int32} {s : (Int32 × MS)}  (hG : Gd g RX7 cX7_shortest 7 8 mc ms) (h : f_X7_shortest x1 x2 x4 m = some s) (hK : FinI g cX7_shortest mc ms s.1 (c, s.2, z)) : AW g 0 [(0, .ref (wad (cxw g) 17)), (1, .int x1), (2, .long x2), (4, .int x4)] [] (c, m, z) 0 0 := by
  unfold f_X7_shortest at h
  refine aw_aload_n hG 0 rfl dX7_shortest_0 rfl ?_
  refine aw_iload_n hG 1 rfl dX7_shortest_1 rfl ?_
  refine aw_lload_n hG 2 rfl dX7_shortest_2 rfl ?_
  refine aw_callSi (As := [.int x1, .long x2]) (rest := [.ref (wad (cxw g) 17)]) hG (c_X7_isPattern (x0 := x1) (x1 := x2) (m := m) ) l_850 ws_X7_isPattern rfl rfl rfl (by decide) (Nat.zero_le _) (Nat.zero_le _) (Nat.le_of_ble_eq_true rfl) dX7_shortest_3 ?_
  refine aw_if_eq (t := 21) hG dX7_shortest_6 rfl (fun hc => ?_) (fun hc => ?_)
  · replace h := it_p hc h
    refine aw_iconst (v := 0) hG dX7_shortest_21 rfl ?_
    exact w_X7_shortest_J22 (x1 := x1) (x2 := x2) (x4 := x4) (s0 := 0) (m := m) hG h hK
  · replace h := it_n hc h
    refine aw_iload hG 3 rfl dX7_shortest_9 ?_
    refine aw_callSi (As := [.int x4]) (rest := [.ref (wad (cxw g) 17)]) hG (c_X7_isForm (x0 := x4) (m := m) ) l_874 ws_X7_isForm rfl rfl rfl (by decide) (Nat.zero_le _) (Nat.zero_le _) (Nat.le_of_ble_eq_true rfl) dX7_shortest_11 ?_
    refine aw_if_eq (t := 21) hG dX7_shortest_14 rfl (fun hc => ?_) (fun hc => ?_)
    · replace h := it_p hc h
      refine aw_iconst (v := 0) hG dX7_shortest_21 rfl ?_
      exact w_X7_shortest_J22 (x1 := x1) (x2 := x2) (x4 := x4) (s0 := 0) (m := m) hG h hK
    · replace h := it_n hc h
      refine aw_iconst (v := 1) hG dX7_shortest_17 rfl ?_
      refine aw_goto (t := 22) hG dX7_shortest_18 rfl ?_
      exact w_X7_shortest_J22 (x1 := x1) (x2 := x2) (x4 := x4) (s0 := 1) (m := m) hG h hK
theorem c_X7_shortest {c : CS} {m : MS} {z : Nat → Int64} {x1 : Int32} {x2 : Int64} {x4 : Int32} {s : Int32 × MS}  (h : f_X7_shortest x1 x2 x4 m = some s) : Ct yX7_shortest cX7_shortest 7 (some .int) 8 (fun w => [.ref (wad w 17), .int x1, .long x2, .int x4]) (c, m, z) (fun _ => some (.int s.1)) (c, s.2, z) := Ct_ofI (by decide +kernel) (fun _ => Nat.le_of_ble_eq_true rfl) (fun g hG hK => w_X7_shortest hG h hK)
noncomputable def f_X7_exact_J86 (x4 : Int32) (m : MS) : Option (Int32 × MS) :=
  Option.bind (f_X7_write x4 m) fun v_7 =>
  some (v_7.1, v_7.2)
set_option maxRecDepth 20000 in
theorem w_X7_exact_J86 {g : Cx} {mc ms : Nat} {c : CS} {m : MS} {z : Nat → Int64} {x4 : Int32} {s : (Int32 × MS)}  (hG : Gd g RX7 cX7_exact 7 7 mc ms) (h : f_X7_exact_J86 x4 m = some s) (hK : FinI g cX7_exact mc ms s.1 (c, s.2, z)) : AW g 86 [(0, .ref (wad (cxw g) 17)), (4, .int x4)] [] (c, m, z) 0 0 := by
  unfold f_X7_exact_J86 at h
  refine aw_aload_n hG 0 rfl dX7_exact_86 rfl ?_
  refine aw_iload hG 1 rfl dX7_exact_87 ?_
  obtain ⟨v_7, hv_7, h⟩ := bd_o h
  refine aw_callVi (As := [.int x4]) (rest := []) hG (c_X7_write (x1 := x4) (m := m)  hv_7) l_864 wv_X7_write (rv_X7 hG) rfl rfl rfl (by decide) (Nat.zero_le _) (Nat.zero_le _) (Nat.le_of_ble_eq_true rfl) dX7_exact_89 ?_
  obtain rfl := Option.some.inj h
  exact FinI.z hK dX7_exact_92
noncomputable def f_X7_exact_J22 (x1 : Int32) (x2 : Int64) (x4 : Int32) (s0 : Int32) (m : MS) : Option (Int32 × MS) :=
  lt (f_X7_refuses s0 m) fun v_1 =>
  if v_1.1 = 0 then
    Option.bind (f_X7_isNoNumber x1 x2 v_1.2) fun v_2 =>
    if v_2.1 = 0 then
      lt (f_X7_sizeOf x1 x2) fun x5_3 =>
      if x5_3 = 0 then
        Option.bind (f_X7_zeros 1 v_2.2) fun v_8 =>
        f_X7_exact_J86 x4 v_8
      else
        lt (f_X7_split x1 x5_3 v_2.2) fun v_4 =>
        Option.bind (f_X7_spell v_4) fun v_5 =>
        Option.bind (f_X7_takeDigits (mI v_5 8) 0 v_5) fun v_6 =>
        f_X7_exact_J86 x4 v_6
    else
      some (mI v_2.2 2, v_2.2)
  else
    some (0, v_1.2)
set_option maxRecDepth 20000 in
theorem w_X7_exact_J22 {g : Cx} {mc ms : Nat} {c : CS} {m : MS} {z : Nat → Int64} {x1 : Int32} {x2 : Int64} {x4 : Int32} {s0 : Int32} {s : (Int32 × MS)}  (hG : Gd g RX7 cX7_exact 7 7 mc ms) (h : f_X7_exact_J22 x1 x2 x4 s0 m = some s) (hK : FinI g cX7_exact mc ms s.1 (c, s.2, z)) : AW g 22 [(0, .ref (wad (cxw g) 17)), (1, .int x1), (2, .long x2), (4, .int x4)] [.int s0, .ref (wad (cxw g) 17)] (c, m, z) 0 0 := by
  unfold f_X7_exact_J22 at h
  obtain ⟨v_1, hv_1⟩ : ∃ y, y = f_X7_refuses s0 m := ⟨_, rfl⟩
  replace h := lt_r hv_1 h
  refine aw_callVi (As := [.int s0]) (rest := []) hG (c_X7_refuses (x1 := s0) (m := m)  hv_1.symm) l_718 wv_X7_refuses (rv_X7 hG) rfl rfl rfl (by decide) (Nat.zero_le _) (Nat.zero_le _) (Nat.le_of_ble_eq_true rfl) dX7_exact_22 ?_
  refine aw_if_eq (t := 30) hG dX7_exact_25 rfl (fun hc => ?_) (fun hc => ?_)
  · replace h := it_p hc h
    refine aw_aload_n hG 0 rfl dX7_exact_30 rfl ?_
    refine aw_iload_n hG 1 rfl dX7_exact_31 rfl ?_
    refine aw_lload_n hG 2 rfl dX7_exact_32 rfl ?_
    obtain ⟨v_2, hv_2, h⟩ := bd_o h
    refine aw_callVi (As := [.int x1, .long x2]) (rest := []) hG (c_X7_isNoNumber (x1 := x1) (x2 := x2) (m := v_1.2)  hv_2) l_854 wv_X7_isNoNumber (rv_X7 hG) rfl rfl rfl (by decide) (Nat.zero_le _) (Nat.zero_le _) (Nat.le_of_ble_eq_true rfl) dX7_exact_33 ?_
    refine aw_if_eq (t := 44) hG dX7_exact_36 rfl (fun hc => ?_) (fun hc => ?_)
    · replace h := it_p hc h
      refine aw_iload_n hG 1 rfl dX7_exact_44 rfl ?_
      refine aw_lload_n hG 2 rfl dX7_exact_45 rfl ?_
      refine aw_callSl (As := [.int x1, .long x2]) (rest := []) hG (c_X7_sizeOf (x0 := x1) (x1 := x2) (m := v_2.2) ) l_634 ws_X7_sizeOf rfl rfl rfl (by decide) (Nat.zero_le _) (Nat.zero_le _) (Nat.le_of_ble_eq_true rfl) dX7_exact_46 ?_
      refine aw_topl (fun x5_3 hx5_3 => ?_)
      replace h := lt_r hx5_3 h
      refine aw_lstore (L' := [(5, .long x5_3), (0, .ref (wad (cxw g) 17)), (1, .int x1), (2, .long x2), (4, .int x4)]) hG dX7_exact_49 (by decide) rfl ?_
      refine aw_lload hG 0 rfl dX7_exact_51 ?_
      refine aw_lconst (v := 0) hG dX7_exact_53 rfl ?_
      refine aw_lc_ne (t := 66) hG dX7_exact_54 rfl dX7_exact_55 rfl rfl (fun hc => ?_) (fun hc => ?_)
      · replace h := it_n hc h
        refine aw_aload_n hG 1 rfl dX7_exact_66 rfl ?_
        refine aw_iload_n hG 2 rfl dX7_exact_67 rfl ?_
        refine aw_lload hG 0 rfl dX7_exact_68 ?_
        obtain ⟨v_4, hv_4⟩ : ∃ y, y = f_X7_split x1 x5_3 v_2.2 := ⟨_, rfl⟩
        replace h := lt_r hv_4 h
        refine aw_callVv (As := [.int x1, .long x5_3]) (rest := []) hG (c_X7_split (x1 := x1) (x2 := x5_3) (m := v_2.2)  hv_4.symm) l_825 wv_X7_split (rv_X7 hG) rfl rfl rfl (by decide) (Nat.zero_le _) (Nat.zero_le _) (Nat.le_of_ble_eq_true rfl) dX7_exact_70 ?_
        refine aw_aload_n hG 1 rfl dX7_exact_73 rfl ?_
        obtain ⟨v_5, hv_5, h⟩ := bd_o h
        refine aw_callVv (As := []) (rest := []) hG (c_X7_spell (m := v_4)  hv_5) l_830 wv_X7_spell (rv_X7 hG) rfl rfl rfl (by decide) (Nat.zero_le _) (Nat.zero_le _) (Nat.le_of_ble_eq_true rfl) dX7_exact_74 ?_
        refine aw_aload_n hG 1 rfl dX7_exact_77 rfl ?_
        refine aw_aload_n hG 1 rfl dX7_exact_78 rfl ?_
        refine gt_m_exactMany hG l_791 dX7_exact_79 ?_
        refine aw_iconst (v := 0) hG dX7_exact_82 rfl ?_
        obtain ⟨v_6, hv_6, h⟩ := bd_o h
        refine aw_callVv (As := [.int (mI v_5 8), .int 0]) (rest := []) hG (c_X7_takeDigits (x1 := mI v_5 8) (x2 := 0) (m := v_5)  hv_6) l_835 wv_X7_takeDigits (rv_X7 hG) rfl rfl rfl (by decide) (Nat.zero_le _) (Nat.zero_le _) (Nat.le_of_ble_eq_true rfl) dX7_exact_83 ?_
        refine aw_sub (L' := [(0, .ref (wad (cxw g) 17)), (4, .int x4)]) [1, 4] rfl ?_
        exact w_X7_exact_J86 (x4 := x4) (m := v_6) hG h hK
      · replace h := it_p hc h
        refine aw_aload_n hG 1 rfl dX7_exact_58 rfl ?_
        refine aw_iconst (v := 1) hG dX7_exact_59 rfl ?_
        obtain ⟨v_8, hv_8, h⟩ := bd_o h
        refine aw_callVv (As := [.int 1]) (rest := []) hG (c_X7_zeros (x1 := 1) (m := v_2.2)  hv_8) l_869 wv_X7_zeros (rv_X7 hG) rfl rfl rfl (by decide) (Nat.zero_le _) (Nat.zero_le _) (Nat.le_of_ble_eq_true rfl) dX7_exact_60 ?_
        refine aw_goto (t := 86) hG dX7_exact_63 rfl ?_
        refine aw_sub (L' := [(0, .ref (wad (cxw g) 17)), (4, .int x4)]) [1, 4] rfl ?_
        exact w_X7_exact_J86 (x4 := x4) (m := v_8) hG h hK
    · replace h := it_n hc h
      refine aw_aload_n hG 0 rfl dX7_exact_39 rfl ?_
      refine gt_m_outSize hG l_726 dX7_exact_40 ?_
      obtain rfl := Option.some.inj h
      exact FinI.z hK dX7_exact_43
  · replace h := it_n hc h
    refine aw_iconst (v := 0) hG dX7_exact_28 rfl ?_
    obtain rfl := Option.some.inj h
    exact FinI.z hK dX7_exact_29
noncomputable def f_X7_exact (x1 : Int32) (x2 : Int64) (x4 : Int32) (m : MS) : Option (Int32 × MS) :=
  if (f_X7_isPattern x1 x2) = 0 then
    f_X7_exact_J22 x1 x2 x4 0 m
  else
    if (f_X7_isForm x4) = 0 then
      f_X7_exact_J22 x1 x2 x4 0 m
    else
      f_X7_exact_J22 x1 x2 x4 1 m
set_option maxRecDepth 20000 in
theorem w_X7_exact {g : Cx} {mc ms : Nat} {c : CS} {m : MS} {z : Nat → Int64} {x1 : Int32} {x2 : Int64} {x4 : Int32} {s : (Int32 × MS)}  (hG : Gd g RX7 cX7_exact 7 7 mc ms) (h : f_X7_exact x1 x2 x4 m = some s) (hK : FinI g cX7_exact mc ms s.1 (c, s.2, z)) : AW g 0 [(0, .ref (wad (cxw g) 17)), (1, .int x1), (2, .long x2), (4, .int x4)] [] (c, m, z) 0 0 := by
  unfold f_X7_exact at h
  refine aw_aload_n hG 0 rfl dX7_exact_0 rfl ?_
  refine aw_iload_n hG 1 rfl dX7_exact_1 rfl ?_
  refine aw_lload_n hG 2 rfl dX7_exact_2 rfl ?_
  refine aw_callSi (As := [.int x1, .long x2]) (rest := [.ref (wad (cxw g) 17)]) hG (c_X7_isPattern (x0 := x1) (x1 := x2) (m := m) ) l_850 ws_X7_isPattern rfl rfl rfl (by decide) (Nat.zero_le _) (Nat.zero_le _) (Nat.le_of_ble_eq_true rfl) dX7_exact_3 ?_
  refine aw_if_eq (t := 21) hG dX7_exact_6 rfl (fun hc => ?_) (fun hc => ?_)
  · replace h := it_p hc h
    refine aw_iconst (v := 0) hG dX7_exact_21 rfl ?_
    exact w_X7_exact_J22 (x1 := x1) (x2 := x2) (x4 := x4) (s0 := 0) (m := m) hG h hK
  · replace h := it_n hc h
    refine aw_iload hG 3 rfl dX7_exact_9 ?_
    refine aw_callSi (As := [.int x4]) (rest := [.ref (wad (cxw g) 17)]) hG (c_X7_isForm (x0 := x4) (m := m) ) l_874 ws_X7_isForm rfl rfl rfl (by decide) (Nat.zero_le _) (Nat.zero_le _) (Nat.le_of_ble_eq_true rfl) dX7_exact_11 ?_
    refine aw_if_eq (t := 21) hG dX7_exact_14 rfl (fun hc => ?_) (fun hc => ?_)
    · replace h := it_p hc h
      refine aw_iconst (v := 0) hG dX7_exact_21 rfl ?_
      exact w_X7_exact_J22 (x1 := x1) (x2 := x2) (x4 := x4) (s0 := 0) (m := m) hG h hK
    · replace h := it_n hc h
      refine aw_iconst (v := 1) hG dX7_exact_17 rfl ?_
      refine aw_goto (t := 22) hG dX7_exact_18 rfl ?_
      exact w_X7_exact_J22 (x1 := x1) (x2 := x2) (x4 := x4) (s0 := 1) (m := m) hG h hK
theorem c_X7_exact {c : CS} {m : MS} {z : Nat → Int64} {x1 : Int32} {x2 : Int64} {x4 : Int32} {s : Int32 × MS}  (h : f_X7_exact x1 x2 x4 m = some s) : Ct yX7_exact cX7_exact 7 (some .int) 7 (fun w => [.ref (wad w 17), .int x1, .long x2, .int x4]) (c, m, z) (fun _ => some (.int s.1)) (c, s.2, z) := Ct_ofI (by decide +kernel) (fun _ => Nat.le_of_ble_eq_true rfl) (fun g hG hK => w_X7_exact hG h hK)
noncomputable def f_X7_middle_J52 (x1 : Int32) (x2 : Int64) (x4 : Int32) (s0 : Int32) (m : MS) : Option (Int32 × MS) :=
  lt (smI m 5 s0) fun m_2 =>
  lt (f_X7_split x1 (f_X7_sizeOf x1 x2) m_2) fun v_3 =>
  lt (smJ v_3 1 ((2 * (mJ v_3 1)) + 1)) fun m_4 =>
  lt (smI m_4 7 ((mI m_4 7) - 1)) fun m_5 =>
  Option.bind (f_X7_spell m_5) fun v_6 =>
  Option.bind (f_X7_takeDigits (mI v_6 8) 0 v_6) fun v_7 =>
  Option.bind (f_X7_write x4 v_7) fun v_8 =>
  some (v_8.1, v_8.2)
set_option maxRecDepth 20000 in
theorem w_X7_middle_J52 {g : Cx} {mc ms : Nat} {c : CS} {m : MS} {z : Nat → Int64} {x1 : Int32} {x2 : Int64} {x4 : Int32} {s0 : Int32} {s : (Int32 × MS)}  (hG : Gd g RX7 cX7_middle 5 7 mc ms) (h : f_X7_middle_J52 x1 x2 x4 s0 m = some s) (hK : FinI g cX7_middle mc ms s.1 (c, s.2, z)) : AW g 52 [(0, .ref (wad (cxw g) 17)), (1, .int x1), (2, .long x2), (4, .int x4)] [.int s0, .ref (wad (cxw g) 17)] (c, m, z) 0 0 := by
  unfold f_X7_middle_J52 at h
  refine pt_m_minus hG l_800 dX7_middle_52 ?_
  refine aw_stm (fun m_2 hm_2 => ?_)
  replace h := lt_r hm_2 h
  refine aw_aload_n hG 0 rfl dX7_middle_55 rfl ?_
  refine aw_iload_n hG 1 rfl dX7_middle_56 rfl ?_
  refine aw_iload_n hG 1 rfl dX7_middle_57 rfl ?_
  refine aw_lload_n hG 2 rfl dX7_middle_58 rfl ?_
  refine aw_callSl (As := [.int x1, .long x2]) (rest := [.int x1, .ref (wad (cxw g) 17)]) hG (c_X7_sizeOf (x0 := x1) (x1 := x2) (m := m_2) ) l_634 ws_X7_sizeOf rfl rfl rfl (by decide) (Nat.zero_le _) (Nat.zero_le _) (Nat.le_of_ble_eq_true rfl) dX7_middle_59 ?_
  obtain ⟨v_3, hv_3⟩ : ∃ y, y = f_X7_split x1 (f_X7_sizeOf x1 x2) m_2 := ⟨_, rfl⟩
  replace h := lt_r hv_3 h
  refine aw_callVv (As := [.int x1, .long (f_X7_sizeOf x1 x2)]) (rest := []) hG (c_X7_split (x1 := x1) (x2 := f_X7_sizeOf x1 x2) (m := m_2)  hv_3.symm) l_825 wv_X7_split (rv_X7 hG) rfl rfl rfl (by decide) (Nat.zero_le _) (Nat.zero_le _) (Nat.le_of_ble_eq_true rfl) dX7_middle_62 ?_
  refine aw_aload_n hG 0 rfl dX7_middle_65 rfl ?_
  refine aw_ldc2 hG l_620 dX7_middle_66 ?_
  refine aw_aload_n hG 0 rfl dX7_middle_69 rfl ?_
  refine gt_m_whole hG l_642 dX7_middle_70 ?_
  refine aw_lmul hG dX7_middle_73 ?_
  refine aw_lconst (v := 1) hG dX7_middle_74 rfl ?_
  refine aw_ladd hG dX7_middle_75 ?_
  refine pt_m_whole hG l_642 dX7_middle_76 ?_
  refine aw_stm (fun m_4 hm_4 => ?_)
  replace h := lt_r hm_4 h
  refine aw_aload_n hG 0 rfl dX7_middle_79 rfl ?_
  refine aw_dup hG dX7_middle_80 rfl ?_
  refine gt_m_power hG l_647 dX7_middle_81 ?_
  refine aw_iconst (v := 1) hG dX7_middle_84 rfl ?_
  refine aw_isub hG dX7_middle_85 ?_
  refine pt_m_power hG l_647 dX7_middle_86 ?_
  refine aw_stm (fun m_5 hm_5 => ?_)
  replace h := lt_r hm_5 h
  refine aw_aload_n hG 0 rfl dX7_middle_89 rfl ?_
  obtain ⟨v_6, hv_6, h⟩ := bd_o h
  refine aw_callVv (As := []) (rest := []) hG (c_X7_spell (m := m_5)  hv_6) l_830 wv_X7_spell (rv_X7 hG) rfl rfl rfl (by decide) (Nat.zero_le _) (Nat.zero_le _) (Nat.le_of_ble_eq_true rfl) dX7_middle_90 ?_
  refine aw_aload_n hG 0 rfl dX7_middle_93 rfl ?_
  refine aw_aload_n hG 0 rfl dX7_middle_94 rfl ?_
  refine gt_m_exactMany hG l_791 dX7_middle_95 ?_
  refine aw_iconst (v := 0) hG dX7_middle_98 rfl ?_
  obtain ⟨v_7, hv_7, h⟩ := bd_o h
  refine aw_callVv (As := [.int (mI v_6 8), .int 0]) (rest := []) hG (c_X7_takeDigits (x1 := mI v_6 8) (x2 := 0) (m := v_6)  hv_7) l_835 wv_X7_takeDigits (rv_X7 hG) rfl rfl rfl (by decide) (Nat.zero_le _) (Nat.zero_le _) (Nat.le_of_ble_eq_true rfl) dX7_middle_99 ?_
  refine aw_aload_n hG 0 rfl dX7_middle_102 rfl ?_
  refine aw_iload hG 3 rfl dX7_middle_103 ?_
  obtain ⟨v_8, hv_8, h⟩ := bd_o h
  refine aw_callVi (As := [.int x4]) (rest := []) hG (c_X7_write (x1 := x4) (m := v_7)  hv_8) l_864 wv_X7_write (rv_X7 hG) rfl rfl rfl (by decide) (Nat.zero_le _) (Nat.zero_le _) (Nat.le_of_ble_eq_true rfl) dX7_middle_105 ?_
  obtain rfl := Option.some.inj h
  exact FinI.z hK dX7_middle_108
noncomputable def f_X7_middle_J30 (x1 : Int32) (x2 : Int64) (x4 : Int32) (s0 : Int32) (m : MS) : Option (Int32 × MS) :=
  lt (f_X7_refuses s0 m) fun v_1 =>
  if v_1.1 = 0 then
    if (f_X7_isMinus x1 x2) = 0 then
      f_X7_middle_J52 x1 x2 x4 0 v_1.2
    else
      f_X7_middle_J52 x1 x2 x4 1 v_1.2
  else
    some (0, v_1.2)
set_option maxRecDepth 20000 in
theorem w_X7_middle_J30 {g : Cx} {mc ms : Nat} {c : CS} {m : MS} {z : Nat → Int64} {x1 : Int32} {x2 : Int64} {x4 : Int32} {s0 : Int32} {s : (Int32 × MS)}  (hG : Gd g RX7 cX7_middle 5 7 mc ms) (h : f_X7_middle_J30 x1 x2 x4 s0 m = some s) (hK : FinI g cX7_middle mc ms s.1 (c, s.2, z)) : AW g 30 [(0, .ref (wad (cxw g) 17)), (1, .int x1), (2, .long x2), (4, .int x4)] [.int s0, .ref (wad (cxw g) 17)] (c, m, z) 0 0 := by
  unfold f_X7_middle_J30 at h
  obtain ⟨v_1, hv_1⟩ : ∃ y, y = f_X7_refuses s0 m := ⟨_, rfl⟩
  replace h := lt_r hv_1 h
  refine aw_callVi (As := [.int s0]) (rest := []) hG (c_X7_refuses (x1 := s0) (m := m)  hv_1.symm) l_718 wv_X7_refuses (rv_X7 hG) rfl rfl rfl (by decide) (Nat.zero_le _) (Nat.zero_le _) (Nat.le_of_ble_eq_true rfl) dX7_middle_30 ?_
  refine aw_if_eq (t := 38) hG dX7_middle_33 rfl (fun hc => ?_) (fun hc => ?_)
  · replace h := it_p hc h
    refine aw_aload_n hG 0 rfl dX7_middle_38 rfl ?_
    refine aw_iload_n hG 1 rfl dX7_middle_39 rfl ?_
    refine aw_lload_n hG 2 rfl dX7_middle_40 rfl ?_
    refine aw_callSi (As := [.int x1, .long x2]) (rest := [.ref (wad (cxw g) 17)]) hG (c_X7_isMinus (x0 := x1) (x1 := x2) (m := v_1.2) ) l_813 ws_X7_isMinus rfl rfl rfl (by decide) (Nat.zero_le _) (Nat.zero_le _) (Nat.le_of_ble_eq_true rfl) dX7_middle_41 ?_
    refine aw_if_eq (t := 51) hG dX7_middle_44 rfl (fun hc => ?_) (fun hc => ?_)
    · replace h := it_p hc h
      refine aw_iconst (v := 0) hG dX7_middle_51 rfl ?_
      exact w_X7_middle_J52 (x1 := x1) (x2 := x2) (x4 := x4) (s0 := 0) (m := v_1.2) hG h hK
    · replace h := it_n hc h
      refine aw_iconst (v := 1) hG dX7_middle_47 rfl ?_
      refine aw_goto (t := 52) hG dX7_middle_48 rfl ?_
      exact w_X7_middle_J52 (x1 := x1) (x2 := x2) (x4 := x4) (s0 := 1) (m := v_1.2) hG h hK
  · replace h := it_n hc h
    refine aw_iconst (v := 0) hG dX7_middle_36 rfl ?_
    obtain rfl := Option.some.inj h
    exact FinI.z hK dX7_middle_37
noncomputable def f_X7_middle (x1 : Int32) (x2 : Int64) (x4 : Int32) (m : MS) : Option (Int32 × MS) :=
  if (f_X7_isPattern x1 x2) = 0 then
    f_X7_middle_J30 x1 x2 x4 0 m
  else
    if (f_X7_isForm x4) = 0 then
      f_X7_middle_J30 x1 x2 x4 0 m
    else
      if (f_X7_isFinite x1 x2) = 0 then
        f_X7_middle_J30 x1 x2 x4 0 m
      else
        f_X7_middle_J30 x1 x2 x4 1 m
set_option maxRecDepth 20000 in
theorem w_X7_middle {g : Cx} {mc ms : Nat} {c : CS} {m : MS} {z : Nat → Int64} {x1 : Int32} {x2 : Int64} {x4 : Int32} {s : (Int32 × MS)}  (hG : Gd g RX7 cX7_middle 5 7 mc ms) (h : f_X7_middle x1 x2 x4 m = some s) (hK : FinI g cX7_middle mc ms s.1 (c, s.2, z)) : AW g 0 [(0, .ref (wad (cxw g) 17)), (1, .int x1), (2, .long x2), (4, .int x4)] [] (c, m, z) 0 0 := by
  unfold f_X7_middle at h
  refine aw_aload_n hG 0 rfl dX7_middle_0 rfl ?_
  refine aw_iload_n hG 1 rfl dX7_middle_1 rfl ?_
  refine aw_lload_n hG 2 rfl dX7_middle_2 rfl ?_
  refine aw_callSi (As := [.int x1, .long x2]) (rest := [.ref (wad (cxw g) 17)]) hG (c_X7_isPattern (x0 := x1) (x1 := x2) (m := m) ) l_850 ws_X7_isPattern rfl rfl rfl (by decide) (Nat.zero_le _) (Nat.zero_le _) (Nat.le_of_ble_eq_true rfl) dX7_middle_3 ?_
  refine aw_if_eq (t := 29) hG dX7_middle_6 rfl (fun hc => ?_) (fun hc => ?_)
  · replace h := it_p hc h
    refine aw_iconst (v := 0) hG dX7_middle_29 rfl ?_
    exact w_X7_middle_J30 (x1 := x1) (x2 := x2) (x4 := x4) (s0 := 0) (m := m) hG h hK
  · replace h := it_n hc h
    refine aw_iload hG 3 rfl dX7_middle_9 ?_
    refine aw_callSi (As := [.int x4]) (rest := [.ref (wad (cxw g) 17)]) hG (c_X7_isForm (x0 := x4) (m := m) ) l_874 ws_X7_isForm rfl rfl rfl (by decide) (Nat.zero_le _) (Nat.zero_le _) (Nat.le_of_ble_eq_true rfl) dX7_middle_11 ?_
    refine aw_if_eq (t := 29) hG dX7_middle_14 rfl (fun hc => ?_) (fun hc => ?_)
    · replace h := it_p hc h
      refine aw_iconst (v := 0) hG dX7_middle_29 rfl ?_
      exact w_X7_middle_J30 (x1 := x1) (x2 := x2) (x4 := x4) (s0 := 0) (m := m) hG h hK
    · replace h := it_n hc h
      refine aw_iload_n hG 1 rfl dX7_middle_17 rfl ?_
      refine aw_lload_n hG 2 rfl dX7_middle_18 rfl ?_
      refine aw_callSi (As := [.int x1, .long x2]) (rest := [.ref (wad (cxw g) 17)]) hG (c_X7_isFinite (x0 := x1) (x1 := x2) (m := m) ) l_817 ws_X7_isFinite rfl rfl rfl (by decide) (Nat.zero_le _) (Nat.zero_le _) (Nat.le_of_ble_eq_true rfl) dX7_middle_19 ?_
      refine aw_if_eq (t := 29) hG dX7_middle_22 rfl (fun hc => ?_) (fun hc => ?_)
      · replace h := it_p hc h
        refine aw_iconst (v := 0) hG dX7_middle_29 rfl ?_
        exact w_X7_middle_J30 (x1 := x1) (x2 := x2) (x4 := x4) (s0 := 0) (m := m) hG h hK
      · replace h := it_n hc h
        refine aw_iconst (v := 1) hG dX7_middle_25 rfl ?_
        refine aw_goto (t := 30) hG dX7_middle_26 rfl ?_
        exact w_X7_middle_J30 (x1 := x1) (x2 := x2) (x4 := x4) (s0 := 1) (m := m) hG h hK
theorem c_X7_middle {c : CS} {m : MS} {z : Nat → Int64} {x1 : Int32} {x2 : Int64} {x4 : Int32} {s : Int32 × MS}  (h : f_X7_middle x1 x2 x4 m = some s) : Ct yX7_middle cX7_middle 5 (some .int) 7 (fun w => [.ref (wad w 17), .int x1, .long x2, .int x4]) (c, m, z) (fun _ => some (.int s.1)) (c, s.2, z) := Ct_ofI (by decide +kernel) (fun _ => Nat.le_of_ble_eq_true rfl) (fun g hG hK => w_X7_middle hG h hK)
noncomputable def f_X7_digits_J167 (x6 : Int32) (m : MS) : Option (Int32 × MS) :=
  Option.bind (f_X7_write x6 m) fun v_8 =>
  some (v_8.1, v_8.2)
set_option maxRecDepth 20000 in
theorem w_X7_digits_J167 {g : Cx} {mc ms : Nat} {c : CS} {m : MS} {z : Nat → Int64} {x6 : Int32} {s : (Int32 × MS)}  (hG : Gd g RX7 cX7_digits 10 7 mc ms) (h : f_X7_digits_J167 x6 m = some s) (hK : FinI g cX7_digits mc ms s.1 (c, s.2, z)) : AW g 167 [(0, .ref (wad (cxw g) 17)), (6, .int x6)] [] (c, m, z) 0 0 := by
  unfold f_X7_digits_J167 at h
  refine aw_aload_n hG 0 rfl dX7_digits_167 rfl ?_
  refine aw_iload hG 1 rfl dX7_digits_168 ?_
  obtain ⟨v_8, hv_8, h⟩ := bd_o h
  refine aw_callVi (As := [.int x6]) (rest := []) hG (c_X7_write (x1 := x6) (m := m)  hv_8) l_864 wv_X7_write (rv_X7 hG) rfl rfl rfl (by decide) (Nat.zero_le _) (Nat.zero_le _) (Nat.le_of_ble_eq_true rfl) dX7_digits_170 ?_
  obtain rfl := Option.some.inj h
  exact FinI.z hK dX7_digits_173
noncomputable def f_X7_digits_J159 (x5 : Int32) (x6 : Int32) (s0 : Int32) (s1 : Int32) (s2 : Int32) (s3 : Int32) (m : MS) : Option (Int32 × MS) :=
  Option.bind (f_X7_takeDigits s3 (f_X7_goesUp s2 s1 s0 x5) m) fun v_7 =>
  f_X7_digits_J167 x6 v_7
set_option maxRecDepth 20000 in
theorem w_X7_digits_J159 {g : Cx} {mc ms : Nat} {c : CS} {m : MS} {z : Nat → Int64} {x5 : Int32} {x6 : Int32} {s0 : Int32} {s1 : Int32} {s2 : Int32} {s3 : Int32} {s : (Int32 × MS)}  (hG : Gd g RX7 cX7_digits 10 7 mc ms) (h : f_X7_digits_J159 x5 x6 s0 s1 s2 s3 m = some s) (hK : FinI g cX7_digits mc ms s.1 (c, s.2, z)) : AW g 159 [(0, .ref (wad (cxw g) 17)), (5, .int x5), (6, .int x6)] [.int s0, .int s1, .int s2, .int s3, .ref (wad (cxw g) 17)] (c, m, z) 0 0 := by
  unfold f_X7_digits_J159 at h
  refine aw_iload hG 1 rfl dX7_digits_159 ?_
  refine aw_callSi (As := [.int s2, .int s1, .int s0, .int x5]) (rest := [.int s3, .ref (wad (cxw g) 17)]) hG (c_X7_goesUp (x0 := s2) (x1 := s1) (x2 := s0) (x3 := x5) (m := m) ) l_878 ws_X7_goesUp rfl rfl rfl (by decide) (Nat.zero_le _) (Nat.zero_le _) (Nat.le_of_ble_eq_true rfl) dX7_digits_161 ?_
  obtain ⟨v_7, hv_7, h⟩ := bd_o h
  refine aw_callVv (As := [.int s3, .int (f_X7_goesUp s2 s1 s0 x5)]) (rest := []) hG (c_X7_takeDigits (x1 := s3) (x2 := f_X7_goesUp s2 s1 s0 x5) (m := m)  hv_7) l_835 wv_X7_takeDigits (rv_X7 hG) rfl rfl rfl (by decide) (Nat.zero_le _) (Nat.zero_le _) (Nat.le_of_ble_eq_true rfl) dX7_digits_164 ?_
  refine aw_sub (L' := [(0, .ref (wad (cxw g) 17)), (6, .int x6)]) [0, 2] rfl ?_
  exact w_X7_digits_J167 (x6 := x6) (m := v_7) hG h hK
noncomputable def f_X7_digits_J133 (x4 : Int32) (x5 : Int32) (x6 : Int32) (s0 : Int32) (m : MS) : Option (Int32 × MS) :=
  Option.bind (f_X7_behindHalf x4 m) fun v_6 =>
  if (mI m 5) = 1 then
    f_X7_digits_J159 x5 x6 1 s0 v_6 x4 m
  else
    f_X7_digits_J159 x5 x6 0 s0 v_6 x4 m
set_option maxRecDepth 20000 in
theorem w_X7_digits_J133 {g : Cx} {mc ms : Nat} {c : CS} {m : MS} {z : Nat → Int64} {x4 : Int32} {x5 : Int32} {x6 : Int32} {s0 : Int32} {s : (Int32 × MS)}  (hG : Gd g RX7 cX7_digits 10 7 mc ms) (h : f_X7_digits_J133 x4 x5 x6 s0 m = some s) (hK : FinI g cX7_digits mc ms s.1 (c, s.2, z)) : AW g 133 [(0, .ref (wad (cxw g) 17)), (4, .int x4), (5, .int x5), (6, .int x6)] [.int s0] (c, m, z) 0 0 := by
  unfold f_X7_digits_J133 at h
  refine aw_istore (L' := [(9, .int s0), (0, .ref (wad (cxw g) 17)), (4, .int x4), (5, .int x5), (6, .int x6)]) hG dX7_digits_133 (by decide) rfl ?_
  refine aw_aload_n hG 1 rfl dX7_digits_135 rfl ?_
  refine aw_iload hG 2 rfl dX7_digits_136 ?_
  refine aw_aload_n hG 1 rfl dX7_digits_138 rfl ?_
  refine aw_iload hG 2 rfl dX7_digits_139 ?_
  obtain ⟨v_6, hv_6, h⟩ := bd_o h
  refine aw_callVi (As := [.int x4]) (rest := [.int x4, .ref (wad (cxw g) 17)]) hG (c_X7_behindHalf (x1 := x4) (m := m)  hv_6) l_845 wv_X7_behindHalf (rv_X7 hG) rfl rfl rfl (by decide) (Nat.zero_le _) (Nat.zero_le _) (Nat.le_of_ble_eq_true rfl) dX7_digits_141 ?_
  refine aw_iload hG 0 rfl dX7_digits_144 ?_
  refine aw_aload_n hG 1 rfl dX7_digits_146 rfl ?_
  refine gt_m_minus hG l_800 dX7_digits_147 ?_
  refine aw_iconst (v := 1) hG dX7_digits_150 rfl ?_
  refine aw_icmp_ne (t := 158) hG dX7_digits_151 rfl (fun hc => ?_) (fun hc => ?_)
  · replace h := it_n hc h
    refine aw_iconst (v := 0) hG dX7_digits_158 rfl ?_
    refine aw_sub (L' := [(0, .ref (wad (cxw g) 17)), (5, .int x5), (6, .int x6)]) [1, 3, 4] rfl ?_
    exact w_X7_digits_J159 (x5 := x5) (x6 := x6) (s0 := 0) (s1 := s0) (s2 := v_6) (s3 := x4) (m := m) hG h hK
  · replace h := it_p hc h
    refine aw_iconst (v := 1) hG dX7_digits_154 rfl ?_
    refine aw_goto (t := 159) hG dX7_digits_155 rfl ?_
    refine aw_sub (L' := [(0, .ref (wad (cxw g) 17)), (5, .int x5), (6, .int x6)]) [1, 3, 4] rfl ?_
    exact w_X7_digits_J159 (x5 := x5) (x6 := x6) (s0 := 1) (s1 := s0) (s2 := v_6) (s3 := x4) (m := m) hG h hK
noncomputable def f_X7_digits_J48 (x1 : Int32) (x2 : Int64) (x4 : Int32) (x5 : Int32) (x6 : Int32) (s0 : Int32) (m : MS) : Option (Int32 × MS) :=
  lt (f_X7_refuses s0 m) fun v_1 =>
  if v_1.1 = 0 then
    Option.bind (f_X7_isNoNumber x1 x2 v_1.2) fun v_2 =>
    if v_2.1 = 0 then
      lt (f_X7_sizeOf x1 x2) fun x7_3 =>
      if x7_3 = 0 then
        Option.bind (f_X7_zeros x4 v_2.2) fun v_13 =>
        f_X7_digits_J167 x6 v_13
      else
        lt (f_X7_split x1 x7_3 v_2.2) fun v_4 =>
        Option.bind (f_X7_spell v_4) fun v_5 =>
        if (mI v_5 8) < x4 then
          f_X7_digits_J133 x4 x5 x6 0 v_5
        else
          if vI (x4 - 1) (mLen 6) then
            if (irm (mA v_5 6 (x4 - 1).toNatClampNeg) 2) = 1 then
              f_X7_digits_J133 x4 x5 x6 1 v_5
            else
              f_X7_digits_J133 x4 x5 x6 0 v_5
          else none
    else
      some (mI v_2.2 2, v_2.2)
  else
    some (0, v_1.2)
set_option maxRecDepth 20000 in
theorem w_X7_digits_J48 {g : Cx} {mc ms : Nat} {c : CS} {m : MS} {z : Nat → Int64} {x1 : Int32} {x2 : Int64} {x4 : Int32} {x5 : Int32} {x6 : Int32} {s0 : Int32} {s : (Int32 × MS)}  (hG : Gd g RX7 cX7_digits 10 7 mc ms) (h : f_X7_digits_J48 x1 x2 x4 x5 x6 s0 m = some s) (hK : FinI g cX7_digits mc ms s.1 (c, s.2, z)) : AW g 48 [(0, .ref (wad (cxw g) 17)), (1, .int x1), (2, .long x2), (4, .int x4), (5, .int x5), (6, .int x6)] [.int s0, .ref (wad (cxw g) 17)] (c, m, z) 0 0 := by
  unfold f_X7_digits_J48 at h
  obtain ⟨v_1, hv_1⟩ : ∃ y, y = f_X7_refuses s0 m := ⟨_, rfl⟩
  replace h := lt_r hv_1 h
  refine aw_callVi (As := [.int s0]) (rest := []) hG (c_X7_refuses (x1 := s0) (m := m)  hv_1.symm) l_718 wv_X7_refuses (rv_X7 hG) rfl rfl rfl (by decide) (Nat.zero_le _) (Nat.zero_le _) (Nat.le_of_ble_eq_true rfl) dX7_digits_48 ?_
  refine aw_if_eq (t := 56) hG dX7_digits_51 rfl (fun hc => ?_) (fun hc => ?_)
  · replace h := it_p hc h
    refine aw_aload_n hG 0 rfl dX7_digits_56 rfl ?_
    refine aw_iload_n hG 1 rfl dX7_digits_57 rfl ?_
    refine aw_lload_n hG 2 rfl dX7_digits_58 rfl ?_
    obtain ⟨v_2, hv_2, h⟩ := bd_o h
    refine aw_callVi (As := [.int x1, .long x2]) (rest := []) hG (c_X7_isNoNumber (x1 := x1) (x2 := x2) (m := v_1.2)  hv_2) l_854 wv_X7_isNoNumber (rv_X7 hG) rfl rfl rfl (by decide) (Nat.zero_le _) (Nat.zero_le _) (Nat.le_of_ble_eq_true rfl) dX7_digits_59 ?_
    refine aw_if_eq (t := 70) hG dX7_digits_62 rfl (fun hc => ?_) (fun hc => ?_)
    · replace h := it_p hc h
      refine aw_iload_n hG 1 rfl dX7_digits_70 rfl ?_
      refine aw_lload_n hG 2 rfl dX7_digits_71 rfl ?_
      refine aw_callSl (As := [.int x1, .long x2]) (rest := []) hG (c_X7_sizeOf (x0 := x1) (x1 := x2) (m := v_2.2) ) l_634 ws_X7_sizeOf rfl rfl rfl (by decide) (Nat.zero_le _) (Nat.zero_le _) (Nat.le_of_ble_eq_true rfl) dX7_digits_72 ?_
      refine aw_topl (fun x7_3 hx7_3 => ?_)
      replace h := lt_r hx7_3 h
      refine aw_lstore (L' := [(7, .long x7_3), (0, .ref (wad (cxw g) 17)), (1, .int x1), (2, .long x2), (4, .int x4), (5, .int x5), (6, .int x6)]) hG dX7_digits_75 (by decide) rfl ?_
      refine aw_lload hG 0 rfl dX7_digits_77 ?_
      refine aw_lconst (v := 0) hG dX7_digits_79 rfl ?_
      refine aw_lc_ne (t := 93) hG dX7_digits_80 rfl dX7_digits_81 rfl rfl (fun hc => ?_) (fun hc => ?_)
      · replace h := it_n hc h
        refine aw_aload_n hG 1 rfl dX7_digits_93 rfl ?_
        refine aw_iload_n hG 2 rfl dX7_digits_94 rfl ?_
        refine aw_lload hG 0 rfl dX7_digits_95 ?_
        obtain ⟨v_4, hv_4⟩ : ∃ y, y = f_X7_split x1 x7_3 v_2.2 := ⟨_, rfl⟩
        replace h := lt_r hv_4 h
        refine aw_callVv (As := [.int x1, .long x7_3]) (rest := []) hG (c_X7_split (x1 := x1) (x2 := x7_3) (m := v_2.2)  hv_4.symm) l_825 wv_X7_split (rv_X7 hG) rfl rfl rfl (by decide) (Nat.zero_le _) (Nat.zero_le _) (Nat.le_of_ble_eq_true rfl) dX7_digits_97 ?_
        refine aw_aload_n hG 1 rfl dX7_digits_100 rfl ?_
        obtain ⟨v_5, hv_5, h⟩ := bd_o h
        refine aw_callVv (As := []) (rest := []) hG (c_X7_spell (m := v_4)  hv_5) l_830 wv_X7_spell (rv_X7 hG) rfl rfl rfl (by decide) (Nat.zero_le _) (Nat.zero_le _) (Nat.le_of_ble_eq_true rfl) dX7_digits_101 ?_
        refine aw_iload hG 4 rfl dX7_digits_104 ?_
        refine aw_aload_n hG 1 rfl dX7_digits_106 rfl ?_
        refine gt_m_exactMany hG l_791 dX7_digits_107 ?_
        refine aw_icmp_gt (t := 132) hG dX7_digits_110 rfl (fun hc => ?_) (fun hc => ?_)
        · replace h := it_p hc h
          refine aw_iconst (v := 0) hG dX7_digits_132 rfl ?_
          refine aw_sub (L' := [(0, .ref (wad (cxw g) 17)), (4, .int x4), (5, .int x5), (6, .int x6)]) [1, 4, 5, 6] rfl ?_
          exact w_X7_digits_J133 (x4 := x4) (x5 := x5) (x6 := x6) (s0 := 0) (m := v_5) hG h hK
        · replace h := it_n hc h
          refine aw_aload_n hG 1 rfl dX7_digits_113 rfl ?_
          refine gt_m_exact hG l_788 dX7_digits_114 ?_
          refine aw_iload hG 4 rfl dX7_digits_117 ?_
          refine aw_iconst (v := 1) hG dX7_digits_119 rfl ?_
          refine aw_isub hG dX7_digits_120 ?_
          obtain ⟨hi_10, h⟩ := it_o h
          refine al_mA (x := 0) hG (by decide) hi_10 dX7_digits_121 ?_
          refine aw_iconst (v := 2) hG dX7_digits_122 rfl ?_
          refine aw_iremJ hG dX7_digits_123 (by decide) ?_
          refine aw_iconst (v := 1) hG dX7_digits_124 rfl ?_
          refine aw_icmp_ne (t := 132) hG dX7_digits_125 rfl (fun hc => ?_) (fun hc => ?_)
          · replace h := it_n hc h
            refine aw_iconst (v := 0) hG dX7_digits_132 rfl ?_
            refine aw_sub (L' := [(0, .ref (wad (cxw g) 17)), (4, .int x4), (5, .int x5), (6, .int x6)]) [1, 4, 5, 6] rfl ?_
            exact w_X7_digits_J133 (x4 := x4) (x5 := x5) (x6 := x6) (s0 := 0) (m := v_5) hG h hK
          · replace h := it_p hc h
            refine aw_iconst (v := 1) hG dX7_digits_128 rfl ?_
            refine aw_goto (t := 133) hG dX7_digits_129 rfl ?_
            refine aw_sub (L' := [(0, .ref (wad (cxw g) 17)), (4, .int x4), (5, .int x5), (6, .int x6)]) [1, 4, 5, 6] rfl ?_
            exact w_X7_digits_J133 (x4 := x4) (x5 := x5) (x6 := x6) (s0 := 1) (m := v_5) hG h hK
      · replace h := it_p hc h
        refine aw_aload_n hG 1 rfl dX7_digits_84 rfl ?_
        refine aw_iload hG 4 rfl dX7_digits_85 ?_
        obtain ⟨v_13, hv_13, h⟩ := bd_o h
        refine aw_callVv (As := [.int x4]) (rest := []) hG (c_X7_zeros (x1 := x4) (m := v_2.2)  hv_13) l_869 wv_X7_zeros (rv_X7 hG) rfl rfl rfl (by decide) (Nat.zero_le _) (Nat.zero_le _) (Nat.le_of_ble_eq_true rfl) dX7_digits_87 ?_
        refine aw_goto (t := 167) hG dX7_digits_90 rfl ?_
        refine aw_sub (L' := [(0, .ref (wad (cxw g) 17)), (6, .int x6)]) [1, 6] rfl ?_
        exact w_X7_digits_J167 (x6 := x6) (m := v_13) hG h hK
    · replace h := it_n hc h
      refine aw_aload_n hG 0 rfl dX7_digits_65 rfl ?_
      refine gt_m_outSize hG l_726 dX7_digits_66 ?_
      obtain rfl := Option.some.inj h
      exact FinI.z hK dX7_digits_69
  · replace h := it_n hc h
    refine aw_iconst (v := 0) hG dX7_digits_54 rfl ?_
    obtain rfl := Option.some.inj h
    exact FinI.z hK dX7_digits_55
noncomputable def f_X7_digits (x1 : Int32) (x2 : Int64) (x4 : Int32) (x5 : Int32) (x6 : Int32) (m : MS) : Option (Int32 × MS) :=
  if (f_X7_isPattern x1 x2) = 0 then
    f_X7_digits_J48 x1 x2 x4 x5 x6 0 m
  else
    if (f_X7_in x4.toInt64 1 800) = 0 then
      f_X7_digits_J48 x1 x2 x4 x5 x6 0 m
    else
      if (f_X7_in x5.toInt64 0 4) = 0 then
        f_X7_digits_J48 x1 x2 x4 x5 x6 0 m
      else
        if (f_X7_isForm x6) = 0 then
          f_X7_digits_J48 x1 x2 x4 x5 x6 0 m
        else
          f_X7_digits_J48 x1 x2 x4 x5 x6 1 m
set_option maxRecDepth 20000 in
theorem w_X7_digits {g : Cx} {mc ms : Nat} {c : CS} {m : MS} {z : Nat → Int64} {x1 : Int32} {x2 : Int64} {x4 : Int32} {x5 : Int32} {x6 : Int32} {s : (Int32 × MS)}  (hG : Gd g RX7 cX7_digits 10 7 mc ms) (h : f_X7_digits x1 x2 x4 x5 x6 m = some s) (hK : FinI g cX7_digits mc ms s.1 (c, s.2, z)) : AW g 0 [(0, .ref (wad (cxw g) 17)), (1, .int x1), (2, .long x2), (4, .int x4), (5, .int x5), (6, .int x6)] [] (c, m, z) 0 0 := by
  unfold f_X7_digits at h
  refine aw_aload_n hG 0 rfl dX7_digits_0 rfl ?_
  refine aw_iload_n hG 1 rfl dX7_digits_1 rfl ?_
  refine aw_lload_n hG 2 rfl dX7_digits_2 rfl ?_
  refine aw_callSi (As := [.int x1, .long x2]) (rest := [.ref (wad (cxw g) 17)]) hG (c_X7_isPattern (x0 := x1) (x1 := x2) (m := m) ) l_850 ws_X7_isPattern rfl rfl rfl (by decide) (Nat.zero_le _) (Nat.zero_le _) (Nat.le_of_ble_eq_true rfl) dX7_digits_3 ?_
  refine aw_if_eq (t := 47) hG dX7_digits_6 rfl (fun hc => ?_) (fun hc => ?_)
  · replace h := it_p hc h
    refine aw_iconst (v := 0) hG dX7_digits_47 rfl ?_
    exact w_X7_digits_J48 (x1 := x1) (x2 := x2) (x4 := x4) (x5 := x5) (x6 := x6) (s0 := 0) (m := m) hG h hK
  · replace h := it_n hc h
    refine aw_iload hG 3 rfl dX7_digits_9 ?_
    refine aw_i2l hG dX7_digits_11 ?_
    refine aw_lconst (v := 1) hG dX7_digits_12 rfl ?_
    refine aw_ldc2 hG l_882 dX7_digits_13 ?_
    refine aw_callSi (As := [.long x4.toInt64, .long 1, .long 800]) (rest := [.ref (wad (cxw g) 17)]) hG (c_X7_in (x0 := x4.toInt64) (x2 := 1) (x4 := 800) (m := m) ) l_626 ws_X7_in rfl rfl rfl (by decide) (Nat.zero_le _) (Nat.zero_le _) (Nat.le_of_ble_eq_true rfl) dX7_digits_16 ?_
    refine aw_if_eq (t := 47) hG dX7_digits_19 rfl (fun hc => ?_) (fun hc => ?_)
    · replace h := it_p hc h
      refine aw_iconst (v := 0) hG dX7_digits_47 rfl ?_
      exact w_X7_digits_J48 (x1 := x1) (x2 := x2) (x4 := x4) (x5 := x5) (x6 := x6) (s0 := 0) (m := m) hG h hK
    · replace h := it_n hc h
      refine aw_iload hG 4 rfl dX7_digits_22 ?_
      refine aw_i2l hG dX7_digits_24 ?_
      refine aw_lconst (v := 0) hG dX7_digits_25 rfl ?_
      refine aw_ldc2 hG l_781 dX7_digits_26 ?_
      refine aw_callSi (As := [.long x5.toInt64, .long 0, .long 4]) (rest := [.ref (wad (cxw g) 17)]) hG (c_X7_in (x0 := x5.toInt64) (x2 := 0) (x4 := 4) (m := m) ) l_626 ws_X7_in rfl rfl rfl (by decide) (Nat.zero_le _) (Nat.zero_le _) (Nat.le_of_ble_eq_true rfl) dX7_digits_29 ?_
      refine aw_if_eq (t := 47) hG dX7_digits_32 rfl (fun hc => ?_) (fun hc => ?_)
      · replace h := it_p hc h
        refine aw_iconst (v := 0) hG dX7_digits_47 rfl ?_
        exact w_X7_digits_J48 (x1 := x1) (x2 := x2) (x4 := x4) (x5 := x5) (x6 := x6) (s0 := 0) (m := m) hG h hK
      · replace h := it_n hc h
        refine aw_iload hG 5 rfl dX7_digits_35 ?_
        refine aw_callSi (As := [.int x6]) (rest := [.ref (wad (cxw g) 17)]) hG (c_X7_isForm (x0 := x6) (m := m) ) l_874 ws_X7_isForm rfl rfl rfl (by decide) (Nat.zero_le _) (Nat.zero_le _) (Nat.le_of_ble_eq_true rfl) dX7_digits_37 ?_
        refine aw_if_eq (t := 47) hG dX7_digits_40 rfl (fun hc => ?_) (fun hc => ?_)
        · replace h := it_p hc h
          refine aw_iconst (v := 0) hG dX7_digits_47 rfl ?_
          exact w_X7_digits_J48 (x1 := x1) (x2 := x2) (x4 := x4) (x5 := x5) (x6 := x6) (s0 := 0) (m := m) hG h hK
        · replace h := it_n hc h
          refine aw_iconst (v := 1) hG dX7_digits_43 rfl ?_
          refine aw_goto (t := 48) hG dX7_digits_44 rfl ?_
          exact w_X7_digits_J48 (x1 := x1) (x2 := x2) (x4 := x4) (x5 := x5) (x6 := x6) (s0 := 1) (m := m) hG h hK
theorem c_X7_digits {c : CS} {m : MS} {z : Nat → Int64} {x1 : Int32} {x2 : Int64} {x4 : Int32} {x5 : Int32} {x6 : Int32} {s : Int32 × MS}  (h : f_X7_digits x1 x2 x4 x5 x6 m = some s) : Ct yX7_digits cX7_digits 10 (some .int) 7 (fun w => [.ref (wad w 17), .int x1, .long x2, .int x4, .int x5, .int x6]) (c, m, z) (fun _ => some (.int s.1)) (c, s.2, z) := Ct_ofI (by decide +kernel) (fun _ => Nat.le_of_ble_eq_true rfl) (fun g hG hK => w_X7_digits hG h hK)
noncomputable def f_X7_fixed_J291 (m : MS) : Option (Int32 × MS) :=
  Option.bind (f_X7_write 1 m) fun v_9 =>
  some (v_9.1, v_9.2)
set_option maxRecDepth 20000 in
theorem w_X7_fixed_J291 {g : Cx} {mc ms : Nat} {c : CS} {m : MS} {z : Nat → Int64}  {s : (Int32 × MS)}  (hG : Gd g RX7 cX7_fixed 12 7 mc ms) (h : f_X7_fixed_J291 m = some s) (hK : FinI g cX7_fixed mc ms s.1 (c, s.2, z)) : AW g 291 [(0, .ref (wad (cxw g) 17))] [] (c, m, z) 0 0 := by
  unfold f_X7_fixed_J291 at h
  refine aw_aload_n hG 0 rfl dX7_fixed_291 rfl ?_
  refine aw_iconst (v := 1) hG dX7_fixed_292 rfl ?_
  obtain ⟨v_9, hv_9, h⟩ := bd_o h
  refine aw_callVi (As := [.int 1]) (rest := []) hG (c_X7_write (x1 := 1) (m := m)  hv_9) l_864 wv_X7_write (rv_X7 hG) rfl rfl rfl (by decide) (Nat.zero_le _) (Nat.zero_le _) (Nat.le_of_ble_eq_true rfl) dX7_fixed_293 ?_
  obtain rfl := Option.some.inj h
  exact FinI.z hK dX7_fixed_296
noncomputable def f_X7_fixed_J252 (x4 : Int32) (x5 : Int32) (s0 : Int32) (s1 : Int32) (s2 : Int32) (m : MS) : Option (Int32 × MS) :=
  if (f_X7_goesUp s2 s1 s0 x5) = 0 then
    Option.bind (f_X7_zeros (x4 + 1) m) fun v_8 =>
    f_X7_fixed_J291 v_8
  else
    lt (smI m 3 1) fun m_10 =>
    if vI 0 (mLen 2) then
      lt (smA m_10 2 (upd (mA m_10 2) (0 : Int32).toNatClampNeg 1)) fun m_12 =>
      lt (smI m_12 4 (1 - x4)) fun m_13 =>
      f_X7_fixed_J291 m_13
    else none
set_option maxRecDepth 20000 in
theorem w_X7_fixed_J252 {g : Cx} {mc ms : Nat} {c : CS} {m : MS} {z : Nat → Int64} {x4 : Int32} {x5 : Int32} {s0 : Int32} {s1 : Int32} {s2 : Int32} {s : (Int32 × MS)}  (hG : Gd g RX7 cX7_fixed 12 7 mc ms) (h : f_X7_fixed_J252 x4 x5 s0 s1 s2 m = some s) (hK : FinI g cX7_fixed mc ms s.1 (c, s.2, z)) : AW g 252 [(0, .ref (wad (cxw g) 17)), (4, .int x4), (5, .int x5)] [.int s0, .int s1, .int s2] (c, m, z) 0 0 := by
  unfold f_X7_fixed_J252 at h
  refine aw_iload hG 2 rfl dX7_fixed_252 ?_
  refine aw_callSi (As := [.int s2, .int s1, .int s0, .int x5]) (rest := []) hG (c_X7_goesUp (x0 := s2) (x1 := s1) (x2 := s0) (x3 := x5) (m := m) ) l_878 ws_X7_goesUp rfl rfl rfl (by decide) (Nat.zero_le _) (Nat.zero_le _) (Nat.le_of_ble_eq_true rfl) dX7_fixed_254 ?_
  refine aw_if_eq (t := 283) hG dX7_fixed_257 rfl (fun hc => ?_) (fun hc => ?_)
  · replace h := it_p hc h
    refine aw_aload_n hG 0 rfl dX7_fixed_283 rfl ?_
    refine aw_iload hG 1 rfl dX7_fixed_284 ?_
    refine aw_iconst (v := 1) hG dX7_fixed_286 rfl ?_
    refine aw_iadd hG dX7_fixed_287 ?_
    obtain ⟨v_8, hv_8, h⟩ := bd_o h
    refine aw_callVv (As := [.int (x4 + 1)]) (rest := []) hG (c_X7_zeros (x1 := x4 + 1) (m := m)  hv_8) l_869 wv_X7_zeros (rv_X7 hG) rfl rfl rfl (by decide) (Nat.zero_le _) (Nat.zero_le _) (Nat.le_of_ble_eq_true rfl) dX7_fixed_288 ?_
    refine aw_sub (L' := [(0, .ref (wad (cxw g) 17))]) [0] rfl ?_
    exact w_X7_fixed_J291 (m := v_8) hG h hK
  · replace h := it_n hc h
    refine aw_aload_n hG 0 rfl dX7_fixed_260 rfl ?_
    refine aw_iconst (v := 1) hG dX7_fixed_261 rfl ?_
    refine pt_m_many hG l_792 dX7_fixed_262 ?_
    refine aw_stm (fun m_10 hm_10 => ?_)
    replace h := lt_r hm_10 h
    refine aw_aload_n hG 0 rfl dX7_fixed_265 rfl ?_
    refine gt_m_digits hG l_794 dX7_fixed_266 ?_
    refine aw_iconst (v := 0) hG dX7_fixed_269 rfl ?_
    refine aw_iconst (v := 1) hG dX7_fixed_270 rfl ?_
    obtain ⟨hi_11, h⟩ := it_o h
    refine as_mA hG (by decide) hi_11 dX7_fixed_271 ?_
    refine aw_stm (fun m_12 hm_12 => ?_)
    replace h := lt_r hm_12 h
    refine aw_aload_n hG 0 rfl dX7_fixed_272 rfl ?_
    refine aw_iconst (v := 1) hG dX7_fixed_273 rfl ?_
    refine aw_iload hG 1 rfl dX7_fixed_274 ?_
    refine aw_isub hG dX7_fixed_276 ?_
    refine pt_m_point hG l_793 dX7_fixed_277 ?_
    refine aw_stm (fun m_13 hm_13 => ?_)
    replace h := lt_r hm_13 h
    refine aw_goto (t := 291) hG dX7_fixed_280 rfl ?_
    refine aw_sub (L' := [(0, .ref (wad (cxw g) 17))]) [0] rfl ?_
    exact w_X7_fixed_J291 (m := m_13) hG h hK
noncomputable def f_X7_fixed_J234 (x4 : Int32) (x5 : Int32) (s0 : Int32) (m : MS) : Option (Int32 × MS) :=
  if (mI m 5) = 1 then
    f_X7_fixed_J252 x4 x5 1 0 s0 m
  else
    f_X7_fixed_J252 x4 x5 0 0 s0 m
set_option maxRecDepth 20000 in
theorem w_X7_fixed_J234 {g : Cx} {mc ms : Nat} {c : CS} {m : MS} {z : Nat → Int64} {x4 : Int32} {x5 : Int32} {s0 : Int32} {s : (Int32 × MS)}  (hG : Gd g RX7 cX7_fixed 12 7 mc ms) (h : f_X7_fixed_J234 x4 x5 s0 m = some s) (hK : FinI g cX7_fixed mc ms s.1 (c, s.2, z)) : AW g 234 [(0, .ref (wad (cxw g) 17)), (4, .int x4), (5, .int x5)] [.int s0] (c, m, z) 0 0 := by
  unfold f_X7_fixed_J234 at h
  refine aw_istore (L' := [(9, .int s0), (0, .ref (wad (cxw g) 17)), (4, .int x4), (5, .int x5)]) hG dX7_fixed_234 (by decide) rfl ?_
  refine aw_iload hG 0 rfl dX7_fixed_236 ?_
  refine aw_iconst (v := 0) hG dX7_fixed_238 rfl ?_
  refine aw_aload_n hG 1 rfl dX7_fixed_239 rfl ?_
  refine gt_m_minus hG l_800 dX7_fixed_240 ?_
  refine aw_iconst (v := 1) hG dX7_fixed_243 rfl ?_
  refine aw_icmp_ne (t := 251) hG dX7_fixed_244 rfl (fun hc => ?_) (fun hc => ?_)
  · replace h := it_n hc h
    refine aw_iconst (v := 0) hG dX7_fixed_251 rfl ?_
    refine aw_sub (L' := [(0, .ref (wad (cxw g) 17)), (4, .int x4), (5, .int x5)]) [1, 2, 3] rfl ?_
    exact w_X7_fixed_J252 (x4 := x4) (x5 := x5) (s0 := 0) (s1 := 0) (s2 := s0) (m := m) hG h hK
  · replace h := it_p hc h
    refine aw_iconst (v := 1) hG dX7_fixed_247 rfl ?_
    refine aw_goto (t := 252) hG dX7_fixed_248 rfl ?_
    refine aw_sub (L' := [(0, .ref (wad (cxw g) 17)), (4, .int x4), (5, .int x5)]) [1, 2, 3] rfl ?_
    exact w_X7_fixed_J252 (x4 := x4) (x5 := x5) (s0 := 1) (s1 := 0) (s2 := s0) (m := m) hG h hK
noncomputable def f_X7_fixed_J167 (x5 : Int32) (x8 : Int32) (s0 : Int32) (s1 : Int32) (s2 : Int32) (m : MS) : Option (Int32 × MS) :=
  lt (f_X7_goesUp s2 s1 s0 x5) fun x10_18 =>
  lt (mI m 9) fun x11_19 =>
  Option.bind (f_X7_takeDigits x8 x10_18 m) fun v_20 =>
  if (mI v_20 4) ≤ x11_19 then
    f_X7_fixed_J291 v_20
  else
    if vI (mI v_20 3) (mLen 2) then
      lt (smA v_20 2 (upd (mA v_20 2) (mI v_20 3).toNatClampNeg 0)) fun m_22 =>
      lt (smI m_22 3 ((mI m_22 3) + 1)) fun m_23 =>
      f_X7_fixed_J291 m_23
    else none
set_option maxRecDepth 20000 in
theorem w_X7_fixed_J167 {g : Cx} {mc ms : Nat} {c : CS} {m : MS} {z : Nat → Int64} {x5 : Int32} {x8 : Int32} {s0 : Int32} {s1 : Int32} {s2 : Int32} {s : (Int32 × MS)}  (hG : Gd g RX7 cX7_fixed 12 7 mc ms) (h : f_X7_fixed_J167 x5 x8 s0 s1 s2 m = some s) (hK : FinI g cX7_fixed mc ms s.1 (c, s.2, z)) : AW g 167 [(0, .ref (wad (cxw g) 17)), (5, .int x5), (8, .int x8)] [.int s0, .int s1, .int s2] (c, m, z) 0 0 := by
  unfold f_X7_fixed_J167 at h
  refine aw_iload hG 1 rfl dX7_fixed_167 ?_
  refine aw_callSi (As := [.int s2, .int s1, .int s0, .int x5]) (rest := []) hG (c_X7_goesUp (x0 := s2) (x1 := s1) (x2 := s0) (x3 := x5) (m := m) ) l_878 ws_X7_goesUp rfl rfl rfl (by decide) (Nat.zero_le _) (Nat.zero_le _) (Nat.le_of_ble_eq_true rfl) dX7_fixed_169 ?_
  refine aw_topi (fun x10_18 hx10_18 => ?_)
  replace h := lt_r hx10_18 h
  refine aw_istore (L' := [(10, .int x10_18), (0, .ref (wad (cxw g) 17)), (5, .int x5), (8, .int x8)]) hG dX7_fixed_172 (by decide) rfl ?_
  refine aw_aload_n hG 1 rfl dX7_fixed_174 rfl ?_
  refine gt_m_exactPoint hG l_790 dX7_fixed_175 ?_
  refine aw_topi (fun x11_19 hx11_19 => ?_)
  replace h := lt_r hx11_19 h
  refine aw_istore (L' := [(11, .int x11_19), (10, .int x10_18), (0, .ref (wad (cxw g) 17)), (5, .int x5), (8, .int x8)]) hG dX7_fixed_178 (by decide) rfl ?_
  refine aw_aload_n hG 2 rfl dX7_fixed_180 rfl ?_
  refine aw_iload hG 4 rfl dX7_fixed_181 ?_
  refine aw_iload hG 1 rfl dX7_fixed_183 ?_
  obtain ⟨v_20, hv_20, h⟩ := bd_o h
  refine aw_callVv (As := [.int x8, .int x10_18]) (rest := []) hG (c_X7_takeDigits (x1 := x8) (x2 := x10_18) (m := m)  hv_20) l_835 wv_X7_takeDigits (rv_X7 hG) rfl rfl rfl (by decide) (Nat.zero_le _) (Nat.zero_le _) (Nat.le_of_ble_eq_true rfl) dX7_fixed_185 ?_
  refine aw_aload_n hG 2 rfl dX7_fixed_188 rfl ?_
  refine gt_m_point hG l_793 dX7_fixed_189 ?_
  refine aw_iload hG 0 rfl dX7_fixed_192 ?_
  refine aw_icmp_le (t := 217) hG dX7_fixed_194 rfl (fun hc => ?_) (fun hc => ?_)
  · replace h := it_p hc h
    refine aw_goto (t := 291) hG dX7_fixed_217 rfl ?_
    refine aw_sub (L' := [(0, .ref (wad (cxw g) 17))]) [2] rfl ?_
    exact w_X7_fixed_J291 (m := v_20) hG h hK
  · replace h := it_n hc h
    refine aw_aload_n hG 2 rfl dX7_fixed_197 rfl ?_
    refine gt_m_digits hG l_794 dX7_fixed_198 ?_
    refine aw_aload_n hG 2 rfl dX7_fixed_201 rfl ?_
    refine gt_m_many hG l_792 dX7_fixed_202 ?_
    refine aw_iconst (v := 0) hG dX7_fixed_205 rfl ?_
    obtain ⟨hi_21, h⟩ := it_o h
    refine as_mA hG (by decide) hi_21 dX7_fixed_206 ?_
    refine aw_stm (fun m_22 hm_22 => ?_)
    replace h := lt_r hm_22 h
    refine aw_aload_n hG 2 rfl dX7_fixed_207 rfl ?_
    refine aw_dup hG dX7_fixed_208 rfl ?_
    refine gt_m_many hG l_792 dX7_fixed_209 ?_
    refine aw_iconst (v := 1) hG dX7_fixed_212 rfl ?_
    refine aw_iadd hG dX7_fixed_213 ?_
    refine pt_m_many hG l_792 dX7_fixed_214 ?_
    refine aw_stm (fun m_23 hm_23 => ?_)
    replace h := lt_r hm_23 h
    refine aw_goto (t := 291) hG dX7_fixed_217 rfl ?_
    refine aw_sub (L' := [(0, .ref (wad (cxw g) 17))]) [2] rfl ?_
    exact w_X7_fixed_J291 (m := m_23) hG h hK
noncomputable def f_X7_fixed_J144 (x5 : Int32) (x8 : Int32) (s0 : Int32) (m : MS) : Option (Int32 × MS) :=
  Option.bind (f_X7_behindHalf x8 m) fun v_17 =>
  if (mI m 5) = 1 then
    f_X7_fixed_J167 x5 x8 1 s0 v_17 m
  else
    f_X7_fixed_J167 x5 x8 0 s0 v_17 m
set_option maxRecDepth 20000 in
theorem w_X7_fixed_J144 {g : Cx} {mc ms : Nat} {c : CS} {m : MS} {z : Nat → Int64} {x5 : Int32} {x8 : Int32} {s0 : Int32} {s : (Int32 × MS)}  (hG : Gd g RX7 cX7_fixed 12 7 mc ms) (h : f_X7_fixed_J144 x5 x8 s0 m = some s) (hK : FinI g cX7_fixed mc ms s.1 (c, s.2, z)) : AW g 144 [(0, .ref (wad (cxw g) 17)), (5, .int x5), (8, .int x8)] [.int s0] (c, m, z) 0 0 := by
  unfold f_X7_fixed_J144 at h
  refine aw_istore (L' := [(9, .int s0), (0, .ref (wad (cxw g) 17)), (5, .int x5), (8, .int x8)]) hG dX7_fixed_144 (by decide) rfl ?_
  refine aw_aload_n hG 1 rfl dX7_fixed_146 rfl ?_
  refine aw_iload hG 3 rfl dX7_fixed_147 ?_
  obtain ⟨v_17, hv_17, h⟩ := bd_o h
  refine aw_callVi (As := [.int x8]) (rest := []) hG (c_X7_behindHalf (x1 := x8) (m := m)  hv_17) l_845 wv_X7_behindHalf (rv_X7 hG) rfl rfl rfl (by decide) (Nat.zero_le _) (Nat.zero_le _) (Nat.le_of_ble_eq_true rfl) dX7_fixed_149 ?_
  refine aw_iload hG 0 rfl dX7_fixed_152 ?_
  refine aw_aload_n hG 1 rfl dX7_fixed_154 rfl ?_
  refine gt_m_minus hG l_800 dX7_fixed_155 ?_
  refine aw_iconst (v := 1) hG dX7_fixed_158 rfl ?_
  refine aw_icmp_ne (t := 166) hG dX7_fixed_159 rfl (fun hc => ?_) (fun hc => ?_)
  · replace h := it_n hc h
    refine aw_iconst (v := 0) hG dX7_fixed_166 rfl ?_
    refine aw_sub (L' := [(0, .ref (wad (cxw g) 17)), (5, .int x5), (8, .int x8)]) [1, 2, 3] rfl ?_
    exact w_X7_fixed_J167 (x5 := x5) (x8 := x8) (s0 := 0) (s1 := s0) (s2 := v_17) (m := m) hG h hK
  · replace h := it_p hc h
    refine aw_iconst (v := 1) hG dX7_fixed_162 rfl ?_
    refine aw_goto (t := 167) hG dX7_fixed_163 rfl ?_
    refine aw_sub (L' := [(0, .ref (wad (cxw g) 17)), (5, .int x5), (8, .int x8)]) [1, 2, 3] rfl ?_
    exact w_X7_fixed_J167 (x5 := x5) (x8 := x8) (s0 := 1) (s1 := s0) (s2 := v_17) (m := m) hG h hK
noncomputable def f_X7_fixed_J40 (x1 : Int32) (x2 : Int64) (x4 : Int32) (x5 : Int32) (s0 : Int32) (m : MS) : Option (Int32 × MS) :=
  lt (f_X7_refuses s0 m) fun v_1 =>
  if v_1.1 = 0 then
    Option.bind (f_X7_isNoNumber x1 x2 v_1.2) fun v_2 =>
    if v_2.1 = 0 then
      lt (f_X7_sizeOf x1 x2) fun x6_3 =>
      if x6_3 = 0 then
        Option.bind (f_X7_zeros (x4 + 1) v_2.2) fun v_30 =>
        Option.bind (f_X7_write 1 v_30) fun v_31 =>
        some (v_31.1, v_31.2)
      else
        lt (f_X7_split x1 x6_3 v_2.2) fun v_4 =>
        Option.bind (f_X7_spell v_4) fun v_5 =>
        lt ((mI v_5 9) + x4) fun x8_6 =>
        if x8_6 ≤ 0 then
          if 0 ≤ x8_6 then
            Option.bind (f_X7_behindHalf 0 v_5) fun v_7 =>
            f_X7_fixed_J234 x4 x5 v_7 v_5
          else
            f_X7_fixed_J234 x4 x5 (-1) v_5
        else
          if (mI v_5 8) < x8_6 then
            f_X7_fixed_J144 x5 x8_6 0 v_5
          else
            if vI (x8_6 - 1) (mLen 6) then
              if (irm (mA v_5 6 (x8_6 - 1).toNatClampNeg) 2) = 1 then
                f_X7_fixed_J144 x5 x8_6 1 v_5
              else
                f_X7_fixed_J144 x5 x8_6 0 v_5
            else none
    else
      some (mI v_2.2 2, v_2.2)
  else
    some (0, v_1.2)
set_option maxRecDepth 20000 in
theorem w_X7_fixed_J40 {g : Cx} {mc ms : Nat} {c : CS} {m : MS} {z : Nat → Int64} {x1 : Int32} {x2 : Int64} {x4 : Int32} {x5 : Int32} {s0 : Int32} {s : (Int32 × MS)}  (hG : Gd g RX7 cX7_fixed 12 7 mc ms) (h : f_X7_fixed_J40 x1 x2 x4 x5 s0 m = some s) (hK : FinI g cX7_fixed mc ms s.1 (c, s.2, z)) : AW g 40 [(0, .ref (wad (cxw g) 17)), (1, .int x1), (2, .long x2), (4, .int x4), (5, .int x5)] [.int s0, .ref (wad (cxw g) 17)] (c, m, z) 0 0 := by
  unfold f_X7_fixed_J40 at h
  obtain ⟨v_1, hv_1⟩ : ∃ y, y = f_X7_refuses s0 m := ⟨_, rfl⟩
  replace h := lt_r hv_1 h
  refine aw_callVi (As := [.int s0]) (rest := []) hG (c_X7_refuses (x1 := s0) (m := m)  hv_1.symm) l_718 wv_X7_refuses (rv_X7 hG) rfl rfl rfl (by decide) (Nat.zero_le _) (Nat.zero_le _) (Nat.le_of_ble_eq_true rfl) dX7_fixed_40 ?_
  refine aw_if_eq (t := 48) hG dX7_fixed_43 rfl (fun hc => ?_) (fun hc => ?_)
  · replace h := it_p hc h
    refine aw_aload_n hG 0 rfl dX7_fixed_48 rfl ?_
    refine aw_iload_n hG 1 rfl dX7_fixed_49 rfl ?_
    refine aw_lload_n hG 2 rfl dX7_fixed_50 rfl ?_
    obtain ⟨v_2, hv_2, h⟩ := bd_o h
    refine aw_callVi (As := [.int x1, .long x2]) (rest := []) hG (c_X7_isNoNumber (x1 := x1) (x2 := x2) (m := v_1.2)  hv_2) l_854 wv_X7_isNoNumber (rv_X7 hG) rfl rfl rfl (by decide) (Nat.zero_le _) (Nat.zero_le _) (Nat.le_of_ble_eq_true rfl) dX7_fixed_51 ?_
    refine aw_if_eq (t := 62) hG dX7_fixed_54 rfl (fun hc => ?_) (fun hc => ?_)
    · replace h := it_p hc h
      refine aw_iload_n hG 1 rfl dX7_fixed_62 rfl ?_
      refine aw_lload_n hG 2 rfl dX7_fixed_63 rfl ?_
      refine aw_callSl (As := [.int x1, .long x2]) (rest := []) hG (c_X7_sizeOf (x0 := x1) (x1 := x2) (m := v_2.2) ) l_634 ws_X7_sizeOf rfl rfl rfl (by decide) (Nat.zero_le _) (Nat.zero_le _) (Nat.le_of_ble_eq_true rfl) dX7_fixed_64 ?_
      refine aw_topl (fun x6_3 hx6_3 => ?_)
      replace h := lt_r hx6_3 h
      refine aw_lstore (L' := [(6, .long x6_3), (0, .ref (wad (cxw g) 17)), (1, .int x1), (2, .long x2), (4, .int x4), (5, .int x5)]) hG dX7_fixed_67 (by decide) rfl ?_
      refine aw_lload hG 0 rfl dX7_fixed_69 ?_
      refine aw_lconst (v := 0) hG dX7_fixed_71 rfl ?_
      refine aw_lc_ne (t := 90) hG dX7_fixed_72 rfl dX7_fixed_73 rfl rfl (fun hc => ?_) (fun hc => ?_)
      · replace h := it_n hc h
        refine aw_aload_n hG 1 rfl dX7_fixed_90 rfl ?_
        refine aw_iload_n hG 2 rfl dX7_fixed_91 rfl ?_
        refine aw_lload hG 0 rfl dX7_fixed_92 ?_
        obtain ⟨v_4, hv_4⟩ : ∃ y, y = f_X7_split x1 x6_3 v_2.2 := ⟨_, rfl⟩
        replace h := lt_r hv_4 h
        refine aw_callVv (As := [.int x1, .long x6_3]) (rest := []) hG (c_X7_split (x1 := x1) (x2 := x6_3) (m := v_2.2)  hv_4.symm) l_825 wv_X7_split (rv_X7 hG) rfl rfl rfl (by decide) (Nat.zero_le _) (Nat.zero_le _) (Nat.le_of_ble_eq_true rfl) dX7_fixed_94 ?_
        refine aw_aload_n hG 1 rfl dX7_fixed_97 rfl ?_
        obtain ⟨v_5, hv_5, h⟩ := bd_o h
        refine aw_callVv (As := []) (rest := []) hG (c_X7_spell (m := v_4)  hv_5) l_830 wv_X7_spell (rv_X7 hG) rfl rfl rfl (by decide) (Nat.zero_le _) (Nat.zero_le _) (Nat.le_of_ble_eq_true rfl) dX7_fixed_98 ?_
        refine aw_aload_n hG 1 rfl dX7_fixed_101 rfl ?_
        refine gt_m_exactPoint hG l_790 dX7_fixed_102 ?_
        refine aw_iload hG 4 rfl dX7_fixed_105 ?_
        refine aw_iadd hG dX7_fixed_107 ?_
        refine aw_topi (fun x8_6 hx8_6 => ?_)
        replace h := lt_r hx8_6 h
        refine aw_istore (L' := [(8, .int x8_6), (6, .long x6_3), (0, .ref (wad (cxw g) 17)), (1, .int x1), (2, .long x2), (4, .int x4), (5, .int x5)]) hG dX7_fixed_108 (by decide) rfl ?_
        refine aw_iload hG 0 rfl dX7_fixed_110 ?_
        refine aw_if_le (t := 220) hG dX7_fixed_112 rfl (fun hc => ?_) (fun hc => ?_)
        · replace h := it_p hc h
          refine aw_iload hG 0 rfl dX7_fixed_220 ?_
          refine aw_if_ge (t := 229) hG dX7_fixed_222 rfl (fun hc => ?_) (fun hc => ?_)
          · replace h := it_p hc h
            refine aw_aload_n hG 2 rfl dX7_fixed_229 rfl ?_
            refine aw_iconst (v := 0) hG dX7_fixed_230 rfl ?_
            obtain ⟨v_7, hv_7, h⟩ := bd_o h
            refine aw_callVi (As := [.int 0]) (rest := []) hG (c_X7_behindHalf (x1 := 0) (m := v_5)  hv_7) l_845 wv_X7_behindHalf (rv_X7 hG) rfl rfl rfl (by decide) (Nat.zero_le _) (Nat.zero_le _) (Nat.le_of_ble_eq_true rfl) dX7_fixed_231 ?_
            refine aw_sub (L' := [(0, .ref (wad (cxw g) 17)), (4, .int x4), (5, .int x5)]) [2, 5, 6] rfl ?_
            exact w_X7_fixed_J234 (x4 := x4) (x5 := x5) (s0 := v_7) (m := v_5) hG h hK
          · replace h := it_n hc h
            refine aw_iconst (v := (-1)) hG dX7_fixed_225 rfl ?_
            refine aw_goto (t := 234) hG dX7_fixed_226 rfl ?_
            refine aw_sub (L' := [(0, .ref (wad (cxw g) 17)), (4, .int x4), (5, .int x5)]) [2, 5, 6] rfl ?_
            exact w_X7_fixed_J234 (x4 := x4) (x5 := x5) (s0 := (-1)) (m := v_5) hG h hK
        · replace h := it_n hc h
          refine aw_iload hG 0 rfl dX7_fixed_115 ?_
          refine aw_aload_n hG 2 rfl dX7_fixed_117 rfl ?_
          refine gt_m_exactMany hG l_791 dX7_fixed_118 ?_
          refine aw_icmp_gt (t := 143) hG dX7_fixed_121 rfl (fun hc => ?_) (fun hc => ?_)
          · replace h := it_p hc h
            refine aw_iconst (v := 0) hG dX7_fixed_143 rfl ?_
            refine aw_sub (L' := [(0, .ref (wad (cxw g) 17)), (5, .int x5), (8, .int x8_6)]) [2, 6, 0] rfl ?_
            exact w_X7_fixed_J144 (x5 := x5) (x8 := x8_6) (s0 := 0) (m := v_5) hG h hK
          · replace h := it_n hc h
            refine aw_aload_n hG 2 rfl dX7_fixed_124 rfl ?_
            refine gt_m_exact hG l_788 dX7_fixed_125 ?_
            refine aw_iload hG 0 rfl dX7_fixed_128 ?_
            refine aw_iconst (v := 1) hG dX7_fixed_130 rfl ?_
            refine aw_isub hG dX7_fixed_131 ?_
            obtain ⟨hi_26, h⟩ := it_o h
            refine al_mA (x := 0) hG (by decide) hi_26 dX7_fixed_132 ?_
            refine aw_iconst (v := 2) hG dX7_fixed_133 rfl ?_
            refine aw_iremJ hG dX7_fixed_134 (by decide) ?_
            refine aw_iconst (v := 1) hG dX7_fixed_135 rfl ?_
            refine aw_icmp_ne (t := 143) hG dX7_fixed_136 rfl (fun hc => ?_) (fun hc => ?_)
            · replace h := it_n hc h
              refine aw_iconst (v := 0) hG dX7_fixed_143 rfl ?_
              refine aw_sub (L' := [(0, .ref (wad (cxw g) 17)), (5, .int x5), (8, .int x8_6)]) [2, 6, 0] rfl ?_
              exact w_X7_fixed_J144 (x5 := x5) (x8 := x8_6) (s0 := 0) (m := v_5) hG h hK
            · replace h := it_p hc h
              refine aw_iconst (v := 1) hG dX7_fixed_139 rfl ?_
              refine aw_goto (t := 144) hG dX7_fixed_140 rfl ?_
              refine aw_sub (L' := [(0, .ref (wad (cxw g) 17)), (5, .int x5), (8, .int x8_6)]) [2, 6, 0] rfl ?_
              exact w_X7_fixed_J144 (x5 := x5) (x8 := x8_6) (s0 := 1) (m := v_5) hG h hK
      · replace h := it_p hc h
        refine aw_aload_n hG 1 rfl dX7_fixed_76 rfl ?_
        refine aw_iload hG 4 rfl dX7_fixed_77 ?_
        refine aw_iconst (v := 1) hG dX7_fixed_79 rfl ?_
        refine aw_iadd hG dX7_fixed_80 ?_
        obtain ⟨v_30, hv_30, h⟩ := bd_o h
        refine aw_callVv (As := [.int (x4 + 1)]) (rest := []) hG (c_X7_zeros (x1 := x4 + 1) (m := v_2.2)  hv_30) l_869 wv_X7_zeros (rv_X7 hG) rfl rfl rfl (by decide) (Nat.zero_le _) (Nat.zero_le _) (Nat.le_of_ble_eq_true rfl) dX7_fixed_81 ?_
        refine aw_aload_n hG 1 rfl dX7_fixed_84 rfl ?_
        refine aw_iconst (v := 1) hG dX7_fixed_85 rfl ?_
        obtain ⟨v_31, hv_31, h⟩ := bd_o h
        refine aw_callVi (As := [.int 1]) (rest := []) hG (c_X7_write (x1 := 1) (m := v_30)  hv_31) l_864 wv_X7_write (rv_X7 hG) rfl rfl rfl (by decide) (Nat.zero_le _) (Nat.zero_le _) (Nat.le_of_ble_eq_true rfl) dX7_fixed_86 ?_
        obtain rfl := Option.some.inj h
        exact FinI.z hK dX7_fixed_89
    · replace h := it_n hc h
      refine aw_aload_n hG 0 rfl dX7_fixed_57 rfl ?_
      refine gt_m_outSize hG l_726 dX7_fixed_58 ?_
      obtain rfl := Option.some.inj h
      exact FinI.z hK dX7_fixed_61
  · replace h := it_n hc h
    refine aw_iconst (v := 0) hG dX7_fixed_46 rfl ?_
    obtain rfl := Option.some.inj h
    exact FinI.z hK dX7_fixed_47
noncomputable def f_X7_fixed (x1 : Int32) (x2 : Int64) (x4 : Int32) (x5 : Int32) (m : MS) : Option (Int32 × MS) :=
  if (f_X7_isPattern x1 x2) = 0 then
    f_X7_fixed_J40 x1 x2 x4 x5 0 m
  else
    if (f_X7_in x4.toInt64 0 1100) = 0 then
      f_X7_fixed_J40 x1 x2 x4 x5 0 m
    else
      if (f_X7_in x5.toInt64 0 4) = 0 then
        f_X7_fixed_J40 x1 x2 x4 x5 0 m
      else
        f_X7_fixed_J40 x1 x2 x4 x5 1 m
set_option maxRecDepth 20000 in
theorem w_X7_fixed {g : Cx} {mc ms : Nat} {c : CS} {m : MS} {z : Nat → Int64} {x1 : Int32} {x2 : Int64} {x4 : Int32} {x5 : Int32} {s : (Int32 × MS)}  (hG : Gd g RX7 cX7_fixed 12 7 mc ms) (h : f_X7_fixed x1 x2 x4 x5 m = some s) (hK : FinI g cX7_fixed mc ms s.1 (c, s.2, z)) : AW g 0 [(0, .ref (wad (cxw g) 17)), (1, .int x1), (2, .long x2), (4, .int x4), (5, .int x5)] [] (c, m, z) 0 0 := by
  unfold f_X7_fixed at h
  refine aw_aload_n hG 0 rfl dX7_fixed_0 rfl ?_
  refine aw_iload_n hG 1 rfl dX7_fixed_1 rfl ?_
  refine aw_lload_n hG 2 rfl dX7_fixed_2 rfl ?_
  refine aw_callSi (As := [.int x1, .long x2]) (rest := [.ref (wad (cxw g) 17)]) hG (c_X7_isPattern (x0 := x1) (x1 := x2) (m := m) ) l_850 ws_X7_isPattern rfl rfl rfl (by decide) (Nat.zero_le _) (Nat.zero_le _) (Nat.le_of_ble_eq_true rfl) dX7_fixed_3 ?_
  refine aw_if_eq (t := 39) hG dX7_fixed_6 rfl (fun hc => ?_) (fun hc => ?_)
  · replace h := it_p hc h
    refine aw_iconst (v := 0) hG dX7_fixed_39 rfl ?_
    exact w_X7_fixed_J40 (x1 := x1) (x2 := x2) (x4 := x4) (x5 := x5) (s0 := 0) (m := m) hG h hK
  · replace h := it_n hc h
    refine aw_iload hG 3 rfl dX7_fixed_9 ?_
    refine aw_i2l hG dX7_fixed_11 ?_
    refine aw_lconst (v := 0) hG dX7_fixed_12 rfl ?_
    refine aw_ldc2 hG l_713 dX7_fixed_13 ?_
    refine aw_callSi (As := [.long x4.toInt64, .long 0, .long 1100]) (rest := [.ref (wad (cxw g) 17)]) hG (c_X7_in (x0 := x4.toInt64) (x2 := 0) (x4 := 1100) (m := m) ) l_626 ws_X7_in rfl rfl rfl (by decide) (Nat.zero_le _) (Nat.zero_le _) (Nat.le_of_ble_eq_true rfl) dX7_fixed_16 ?_
    refine aw_if_eq (t := 39) hG dX7_fixed_19 rfl (fun hc => ?_) (fun hc => ?_)
    · replace h := it_p hc h
      refine aw_iconst (v := 0) hG dX7_fixed_39 rfl ?_
      exact w_X7_fixed_J40 (x1 := x1) (x2 := x2) (x4 := x4) (x5 := x5) (s0 := 0) (m := m) hG h hK
    · replace h := it_n hc h
      refine aw_iload hG 4 rfl dX7_fixed_22 ?_
      refine aw_i2l hG dX7_fixed_24 ?_
      refine aw_lconst (v := 0) hG dX7_fixed_25 rfl ?_
      refine aw_ldc2 hG l_781 dX7_fixed_26 ?_
      refine aw_callSi (As := [.long x5.toInt64, .long 0, .long 4]) (rest := [.ref (wad (cxw g) 17)]) hG (c_X7_in (x0 := x5.toInt64) (x2 := 0) (x4 := 4) (m := m) ) l_626 ws_X7_in rfl rfl rfl (by decide) (Nat.zero_le _) (Nat.zero_le _) (Nat.le_of_ble_eq_true rfl) dX7_fixed_29 ?_
      refine aw_if_eq (t := 39) hG dX7_fixed_32 rfl (fun hc => ?_) (fun hc => ?_)
      · replace h := it_p hc h
        refine aw_iconst (v := 0) hG dX7_fixed_39 rfl ?_
        exact w_X7_fixed_J40 (x1 := x1) (x2 := x2) (x4 := x4) (x5 := x5) (s0 := 0) (m := m) hG h hK
      · replace h := it_n hc h
        refine aw_iconst (v := 1) hG dX7_fixed_35 rfl ?_
        refine aw_goto (t := 40) hG dX7_fixed_36 rfl ?_
        exact w_X7_fixed_J40 (x1 := x1) (x2 := x2) (x4 := x4) (x5 := x5) (s0 := 1) (m := m) hG h hK
theorem c_X7_fixed {c : CS} {m : MS} {z : Nat → Int64} {x1 : Int32} {x2 : Int64} {x4 : Int32} {x5 : Int32} {s : Int32 × MS}  (h : f_X7_fixed x1 x2 x4 x5 m = some s) : Ct yX7_fixed cX7_fixed 12 (some .int) 7 (fun w => [.ref (wad w 17), .int x1, .long x2, .int x4, .int x5]) (c, m, z) (fun _ => some (.int s.1)) (c, s.2, z) := Ct_ofI (by decide +kernel) (fun _ => Nat.le_of_ble_eq_true rfl) (fun g hG hK => w_X7_fixed hG h hK)
def f_X7_putHex_L13 (x1 : Int64) (x3 : Int32) (m : MS) : Option ((Int64 × Int32) ⊕ ((Int64 × Int32))) :=
  if x1 ≤ 0 then
    some (.inr (x1, x3))
  else
    lt (jshl x1 1) fun x1_3 =>
    lt (x3 + (-1)) fun x3_4 =>
    some (.inl (x1_3, x3_4))
set_option maxRecDepth 20000 in
theorem w_X7_putHex_L13 {g : Cx} {mc ms : Nat} {c : CS} {m : MS} {z : Nat → Int64} {x1 : Int64} {x3 : Int32} {s : ((Int64 × Int32) ⊕ ((Int64 × Int32)))}  (hG : Gd g RX7 cX7_putHex 6 6 mc ms) (h : f_X7_putHex_L13 x1 x3 m = some s) (hK : Sum.elim (fun a => AW g 13 [(0, .ref (wad (cxw g) 17)), (1, .long a.1), (3, .int a.2)] [] (c, m, z) 0 0) (fun e => AW g 29 [(0, .ref (wad (cxw g) 17)), (1, .long e.1), (3, .int e.2)] [] (c, m, z) 0 0) s) : AW g 13 [(0, .ref (wad (cxw g) 17)), (1, .long x1), (3, .int x3)] [] (c, m, z) 0 0 := by
  unfold f_X7_putHex_L13 at h
  refine aw_lload_n hG 1 rfl dX7_putHex_13 rfl ?_
  refine aw_lconst (v := 0) hG dX7_putHex_14 rfl ?_
  refine aw_lc_le (t := 29) hG dX7_putHex_15 rfl dX7_putHex_16 rfl rfl (fun hc => ?_) (fun hc => ?_)
  · replace h := it_p hc h
    obtain rfl := Option.some.inj h
    exact hK
  · replace h := it_n hc h
    refine aw_lload_n hG 1 rfl dX7_putHex_19 rfl ?_
    refine aw_iconst (v := 1) hG dX7_putHex_20 rfl ?_
    refine aw_lshlJ hG dX7_putHex_21 ?_
    refine aw_topl (fun x1_3 hx1_3 => ?_)
    replace h := lt_r hx1_3 h
    refine aw_lstore_n (L' := [(1, .long x1_3), (0, .ref (wad (cxw g) 17)), (3, .int x3)]) hG dX7_putHex_22 rfl (by decide) rfl ?_
    obtain ⟨x3_4, hx3_4⟩ : ∃ y : Int32, y = x3 + (-1) := ⟨_, rfl⟩
    replace h := lt_r hx3_4 h
    refine aw_iinc (v := x3_4) (L' := [(3, .int x3_4), (1, .long x1_3), (0, .ref (wad (cxw g) 17))]) hG 2 rfl dX7_putHex_23 (by rw [hx3_4]; rfl) (by decide) rfl ?_
    refine aw_goto (t := 13) hG dX7_putHex_26 rfl ?_
    obtain rfl := Option.some.inj h
    refine aw_sub (L' := [(0, .ref (wad (cxw g) 17)), (1, .long x1_3), (3, .int x3_4)]) [2, 1, 0] rfl ?_
    exact hK
def f_X7_putHex_J94 (x1 : Int64) (x3 : Int32) (x4 : Int32) (s0 : Int32) (m : MS) : Option ((Int64 × Int32 × MS) ⊕ (MS)) :=
  Option.bind (f_X7_put s0 m) fun v_10 =>
  lt (jshl x1 4) fun x1_11 =>
  some (.inl (x1_11, x4, v_10))
set_option maxRecDepth 20000 in
theorem w_X7_putHex_J94 {g : Cx} {mc ms : Nat} {c : CS} {m : MS} {z : Nat → Int64} {x1 : Int64} {x3 : Int32} {x4 : Int32} {s0 : Int32} {s : ((Int64 × Int32 × MS) ⊕ (MS))}  (hG : Gd g RX7 cX7_putHex 6 6 mc ms) (h : f_X7_putHex_J94 x1 x3 x4 s0 m = some s) (hK : Sum.elim (fun a => AW g 43 [(0, .ref (wad (cxw g) 17)), (1, .long a.1), (3, .int x3), (4, .int a.2.1)] [] (c, a.2.2, z) 0 0) (fun e => AW g 104 [(0, .ref (wad (cxw g) 17)), (3, .int x3)] [] (c, e, z) 0 0) s) : AW g 94 [(0, .ref (wad (cxw g) 17)), (1, .long x1), (3, .int x3), (4, .int x4)] [.int s0, .ref (wad (cxw g) 17)] (c, m, z) 0 0 := by
  unfold f_X7_putHex_J94 at h
  obtain ⟨v_10, hv_10, h⟩ := bd_o h
  refine aw_callVv (As := [.int s0]) (rest := []) hG (c_X7_put (x1 := s0) (m := m)  hv_10) l_795 wv_X7_put (rv_X7 hG) rfl rfl rfl (by decide) (Nat.zero_le _) (Nat.zero_le _) (Nat.le_of_ble_eq_true rfl) dX7_putHex_94 ?_
  refine aw_lload_n hG 1 rfl dX7_putHex_97 rfl ?_
  refine aw_iconst (v := 4) hG dX7_putHex_98 rfl ?_
  refine aw_lshlJ hG dX7_putHex_99 ?_
  refine aw_topl (fun x1_11 hx1_11 => ?_)
  replace h := lt_r hx1_11 h
  refine aw_lstore_n (L' := [(1, .long x1_11), (0, .ref (wad (cxw g) 17)), (3, .int x3), (4, .int x4)]) hG dX7_putHex_100 rfl (by decide) rfl ?_
  refine aw_goto (t := 43) hG dX7_putHex_101 rfl ?_
  obtain rfl := Option.some.inj h
  refine aw_sub (L' := [(0, .ref (wad (cxw g) 17)), (1, .long x1_11), (3, .int x3), (4, .int x4)]) [1, 0, 2, 3] rfl ?_
  exact hK
def f_X7_putHex_J60 (x1 : Int64) (x3 : Int32) (m : MS) : Option ((Int64 × Int32 × MS) ⊕ (MS)) :=
  lt ((jushr x1 60).toInt32) fun x5_9 =>
  if 10 ≤ x5_9 then
    f_X7_putHex_J94 x1 x3 0 ((97 + x5_9) - 10) m
  else
    f_X7_putHex_J94 x1 x3 0 (48 + x5_9) m
set_option maxRecDepth 20000 in
theorem w_X7_putHex_J60 {g : Cx} {mc ms : Nat} {c : CS} {m : MS} {z : Nat → Int64} {x1 : Int64} {x3 : Int32} {s : ((Int64 × Int32 × MS) ⊕ (MS))}  (hG : Gd g RX7 cX7_putHex 6 6 mc ms) (h : f_X7_putHex_J60 x1 x3 m = some s) (hK : Sum.elim (fun a => AW g 43 [(0, .ref (wad (cxw g) 17)), (1, .long a.1), (3, .int x3), (4, .int a.2.1)] [] (c, a.2.2, z) 0 0) (fun e => AW g 104 [(0, .ref (wad (cxw g) 17)), (3, .int x3)] [] (c, e, z) 0 0) s) : AW g 60 [(0, .ref (wad (cxw g) 17)), (1, .long x1), (3, .int x3)] [] (c, m, z) 0 0 := by
  unfold f_X7_putHex_J60 at h
  refine aw_iconst (v := 0) hG dX7_putHex_60 rfl ?_
  refine aw_istore (L' := [(4, .int 0), (0, .ref (wad (cxw g) 17)), (1, .long x1), (3, .int x3)]) hG dX7_putHex_61 (by decide) rfl ?_
  refine aw_lload_n hG 2 rfl dX7_putHex_63 rfl ?_
  refine aw_bipush (v := 60) hG dX7_putHex_64 rfl ?_
  refine aw_lushrJ hG dX7_putHex_66 ?_
  refine aw_l2i hG dX7_putHex_67 ?_
  refine aw_topi (fun x5_9 hx5_9 => ?_)
  replace h := lt_r hx5_9 h
  refine aw_istore (L' := [(5, .int x5_9), (4, .int 0), (0, .ref (wad (cxw g) 17)), (1, .long x1), (3, .int x3)]) hG dX7_putHex_68 (by decide) rfl ?_
  refine aw_aload_n hG 2 rfl dX7_putHex_70 rfl ?_
  refine aw_iload hG 0 rfl dX7_putHex_71 ?_
  refine aw_bipush (v := 10) hG dX7_putHex_73 rfl ?_
  refine aw_icmp_ge (t := 86) hG dX7_putHex_75 rfl (fun hc => ?_) (fun hc => ?_)
  · replace h := it_p hc h
    refine aw_bipush (v := 97) hG dX7_putHex_86 rfl ?_
    refine aw_iload hG 0 rfl dX7_putHex_88 ?_
    refine aw_iadd hG dX7_putHex_90 ?_
    refine aw_bipush (v := 10) hG dX7_putHex_91 rfl ?_
    refine aw_isub hG dX7_putHex_93 ?_
    refine aw_sub (L' := [(0, .ref (wad (cxw g) 17)), (1, .long x1), (3, .int x3), (4, .int 0)]) [2, 3, 4, 1] rfl ?_
    exact w_X7_putHex_J94 (x1 := x1) (x3 := x3) (x4 := 0) (s0 := (97 + x5_9) - 10) (m := m) hG h hK
  · replace h := it_n hc h
    refine aw_bipush (v := 48) hG dX7_putHex_78 rfl ?_
    refine aw_iload hG 0 rfl dX7_putHex_80 ?_
    refine aw_iadd hG dX7_putHex_82 ?_
    refine aw_goto (t := 94) hG dX7_putHex_83 rfl ?_
    refine aw_sub (L' := [(0, .ref (wad (cxw g) 17)), (1, .long x1), (3, .int x3), (4, .int 0)]) [2, 3, 4, 1] rfl ?_
    exact w_X7_putHex_J94 (x1 := x1) (x3 := x3) (x4 := 0) (s0 := 48 + x5_9) (m := m) hG h hK
def f_X7_putHex_L43 (x1 : Int64) (x3 : Int32) (x4 : Int32) (m : MS) : Option ((Int64 × Int32 × MS) ⊕ (MS)) :=
  if x1 = 0 then
    some (.inr m)
  else
    if x4 = 0 then
      f_X7_putHex_J60 x1 x3 m
    else
      Option.bind (f_X7_put 46 m) fun v_13 =>
      f_X7_putHex_J60 x1 x3 v_13
set_option maxRecDepth 20000 in
theorem w_X7_putHex_L43 {g : Cx} {mc ms : Nat} {c : CS} {m : MS} {z : Nat → Int64} {x1 : Int64} {x3 : Int32} {x4 : Int32} {s : ((Int64 × Int32 × MS) ⊕ (MS))}  (hG : Gd g RX7 cX7_putHex 6 6 mc ms) (h : f_X7_putHex_L43 x1 x3 x4 m = some s) (hK : Sum.elim (fun a => AW g 43 [(0, .ref (wad (cxw g) 17)), (1, .long a.1), (3, .int x3), (4, .int a.2.1)] [] (c, a.2.2, z) 0 0) (fun e => AW g 104 [(0, .ref (wad (cxw g) 17)), (3, .int x3)] [] (c, e, z) 0 0) s) : AW g 43 [(0, .ref (wad (cxw g) 17)), (1, .long x1), (3, .int x3), (4, .int x4)] [] (c, m, z) 0 0 := by
  unfold f_X7_putHex_L43 at h
  refine aw_lload_n hG 1 rfl dX7_putHex_43 rfl ?_
  refine aw_lconst (v := 0) hG dX7_putHex_44 rfl ?_
  refine aw_lc_eq (t := 104) hG dX7_putHex_45 rfl dX7_putHex_46 rfl rfl (fun hc => ?_) (fun hc => ?_)
  · replace h := it_p hc h
    obtain rfl := Option.some.inj h
    refine aw_sub (L' := [(0, .ref (wad (cxw g) 17)), (3, .int x3)]) [0, 2] rfl ?_
    exact hK
  · replace h := it_n hc h
    refine aw_iload hG 3 rfl dX7_putHex_49 ?_
    refine aw_if_eq (t := 60) hG dX7_putHex_51 rfl (fun hc => ?_) (fun hc => ?_)
    · replace h := it_p hc h
      refine aw_sub (L' := [(0, .ref (wad (cxw g) 17)), (1, .long x1), (3, .int x3)]) [0, 1, 2] rfl ?_
      exact w_X7_putHex_J60 (x1 := x1) (x3 := x3) (m := m) hG h hK
    · replace h := it_n hc h
      refine aw_aload_n hG 0 rfl dX7_putHex_54 rfl ?_
      refine aw_bipush (v := 46) hG dX7_putHex_55 rfl ?_
      obtain ⟨v_13, hv_13, h⟩ := bd_o h
      refine aw_callVv (As := [.int 46]) (rest := []) hG (c_X7_put (x1 := 46) (m := m)  hv_13) l_795 wv_X7_put (rv_X7 hG) rfl rfl rfl (by decide) (Nat.zero_le _) (Nat.zero_le _) (Nat.le_of_ble_eq_true rfl) dX7_putHex_57 ?_
      refine aw_sub (L' := [(0, .ref (wad (cxw g) 17)), (1, .long x1), (3, .int x3)]) [0, 1, 2] rfl ?_
      exact w_X7_putHex_J60 (x1 := x1) (x3 := x3) (m := v_13) hG h hK
noncomputable def f_X7_putHex (m : MS) : Option MS :=
  lt (mJ m 1) fun x1_1 =>
  lt ((mI m 7) + 63) fun x3_2 =>
  Option.bind (Lp (fun a => f_X7_putHex_L13 a.1 a.2 m) (x1_1, x3_2)) fun e_6 =>
  Option.bind (f_X7_putWord 26 m) fun v_7 =>
  lt (jshl e_6.1 1) fun x1_8 =>
  Option.bind (Lp (fun a => f_X7_putHex_L43 a.1 e_6.2 a.2.1 a.2.2) (x1_8, 1, v_7)) fun e_16 =>
  Option.bind (f_X7_put 112 e_16) fun v_17 =>
  Option.bind (f_X7_putNumber e_6.2 v_17) fun v_18 =>
  some v_18
set_option maxRecDepth 20000 in
theorem w_X7_putHex {g : Cx} {mc ms : Nat} {c : CS} {m : MS} {z : Nat → Int64}  {s : MS}  (hG : Gd g RX7 cX7_putHex 6 6 mc ms) (h : f_X7_putHex m = some s) (hK : FinV g cX7_putHex mc ms (c, s, z)) : AW g 0 [(0, .ref (wad (cxw g) 17))] [] (c, m, z) 0 0 := by
  unfold f_X7_putHex at h
  refine aw_aload_n hG 0 rfl dX7_putHex_0 rfl ?_
  refine gt_m_whole hG l_642 dX7_putHex_1 ?_
  refine aw_topl (fun x1_1 hx1_1 => ?_)
  replace h := lt_r hx1_1 h
  refine aw_lstore_n (L' := [(1, .long x1_1), (0, .ref (wad (cxw g) 17))]) hG dX7_putHex_4 rfl (by decide) rfl ?_
  refine aw_aload_n hG 1 rfl dX7_putHex_5 rfl ?_
  refine gt_m_power hG l_647 dX7_putHex_6 ?_
  refine aw_bipush (v := 63) hG dX7_putHex_9 rfl ?_
  refine aw_iadd hG dX7_putHex_11 ?_
  refine aw_topi (fun x3_2 hx3_2 => ?_)
  replace h := lt_r hx3_2 h
  refine aw_istore_n (L' := [(3, .int x3_2), (1, .long x1_1), (0, .ref (wad (cxw g) 17))]) hG dX7_putHex_12 rfl (by decide) rfl ?_
  obtain ⟨e_6, he, h⟩ := bd_o h
  refine aw_sub (L' := [(0, .ref (wad (cxw g) 17)), (1, .long x1_1), (3, .int x3_2)]) [2, 1, 0] rfl ?_
  refine Lp_w (F := (fun a => f_X7_putHex_L13 a.1 a.2 m)) (S := (fun a => AW g 13 [(0, .ref (wad (cxw g) 17)), (1, .long a.1), (3, .int a.2)] [] (c, m, z) 0 0)) (E := (fun e => AW g 29 [(0, .ref (wad (cxw g) 17)), (1, .long e.1), (3, .int e.2)] [] (c, m, z) 0 0)) (a := (x1_1, x3_2)) he (fun a s h hK => w_X7_putHex_L13 (x1 := a.1) (x3 := a.2) (m := m) hG h hK) ?_
  show AW g 29 _ _ _ 0 0
  refine aw_aload_n hG 0 rfl dX7_putHex_29 rfl ?_
  refine aw_ldcSW (j := 26) hG rfl dX7_putHex_30 ?_
  obtain ⟨v_7, hv_7, h⟩ := bd_o h
  refine aw_callVv (As := [.ref (wad (cxw g) (40 + 26))]) (rest := []) hG (c_X7_putWord (j1 := 26) (m := m) (by decide) hv_7) l_801 wv_X7_putWord (rv_X7 hG) rfl rfl rfl (by decide) (Nat.zero_le _) (Nat.zero_le _) (Nat.le_of_ble_eq_true rfl) dX7_putHex_33 ?_
  refine aw_lload_n hG 1 rfl dX7_putHex_36 rfl ?_
  refine aw_iconst (v := 1) hG dX7_putHex_37 rfl ?_
  refine aw_lshlJ hG dX7_putHex_38 ?_
  refine aw_topl (fun x1_8 hx1_8 => ?_)
  replace h := lt_r hx1_8 h
  refine aw_lstore_n (L' := [(1, .long x1_8), (0, .ref (wad (cxw g) 17)), (3, .int e_6.2)]) hG dX7_putHex_39 rfl (by decide) rfl ?_
  refine aw_iconst (v := 1) hG dX7_putHex_40 rfl ?_
  refine aw_istore (L' := [(4, .int 1), (1, .long x1_8), (0, .ref (wad (cxw g) 17)), (3, .int e_6.2)]) hG dX7_putHex_41 (by decide) rfl ?_
  obtain ⟨e_16, he, h⟩ := bd_o h
  refine aw_sub (L' := [(0, .ref (wad (cxw g) 17)), (1, .long x1_8), (3, .int e_6.2), (4, .int 1)]) [2, 1, 3, 0] rfl ?_
  refine Lp_w (F := (fun a => f_X7_putHex_L43 a.1 e_6.2 a.2.1 a.2.2)) (S := (fun a => AW g 43 [(0, .ref (wad (cxw g) 17)), (1, .long a.1), (3, .int e_6.2), (4, .int a.2.1)] [] (c, a.2.2, z) 0 0)) (E := (fun e => AW g 104 [(0, .ref (wad (cxw g) 17)), (3, .int e_6.2)] [] (c, e, z) 0 0)) (a := (x1_8, 1, v_7)) he (fun a s h hK => w_X7_putHex_L43 (x1 := a.1) (x3 := e_6.2) (x4 := a.2.1) (m := a.2.2) hG h hK) ?_
  show AW g 104 _ _ _ 0 0
  refine aw_aload_n hG 0 rfl dX7_putHex_104 rfl ?_
  refine aw_bipush (v := 112) hG dX7_putHex_105 rfl ?_
  obtain ⟨v_17, hv_17, h⟩ := bd_o h
  refine aw_callVv (As := [.int 112]) (rest := []) hG (c_X7_put (x1 := 112) (m := e_16)  hv_17) l_795 wv_X7_put (rv_X7 hG) rfl rfl rfl (by decide) (Nat.zero_le _) (Nat.zero_le _) (Nat.le_of_ble_eq_true rfl) dX7_putHex_107 ?_
  refine aw_aload_n hG 0 rfl dX7_putHex_110 rfl ?_
  refine aw_iload_n hG 1 rfl dX7_putHex_111 rfl ?_
  obtain ⟨v_18, hv_18, h⟩ := bd_o h
  refine aw_callVv (As := [.int e_6.2]) (rest := []) hG (c_X7_putNumber (x1 := e_6.2) (m := v_17)  hv_18) l_806 wv_X7_putNumber (rv_X7 hG) rfl rfl rfl (by decide) (Nat.zero_le _) (Nat.zero_le _) (Nat.le_of_ble_eq_true rfl) dX7_putHex_112 ?_
  obtain rfl := Option.some.inj h
  exact FinV.z hK dX7_putHex_115
theorem c_X7_putHex {c : CS} {m : MS} {z : Nat → Int64}  {s : MS}  (h : f_X7_putHex m = some s) : Ct yX7_putHex cX7_putHex 6 none 6 (fun w => [.ref (wad w 17)]) (c, m, z) (fun _ => none) (c, s, z) := Ct_ofV (by decide +kernel) (fun _ => Nat.le_of_ble_eq_true rfl) (fun g hG hK => w_X7_putHex hG h hK)
def f_X7_hex_J77 (m : MS) : Option (Int32 × MS) :=
  lt (smI m 3 0) fun m_3 =>
  lt (smI m_3 4 0) fun m_4 =>
  some (mI m_4 2, m_4)
set_option maxRecDepth 20000 in
theorem w_X7_hex_J77 {g : Cx} {mc ms : Nat} {c : CS} {m : MS} {z : Nat → Int64}  {s : (Int32 × MS)}  (hG : Gd g RX7 cX7_hex 6 7 mc ms) (h : f_X7_hex_J77 m = some s) (hK : FinI g cX7_hex mc ms s.1 (c, s.2, z)) : AW g 77 [(0, .ref (wad (cxw g) 17))] [] (c, m, z) 0 0 := by
  unfold f_X7_hex_J77 at h
  refine aw_aload_n hG 0 rfl dX7_hex_77 rfl ?_
  refine aw_iconst (v := 0) hG dX7_hex_78 rfl ?_
  refine pt_m_many hG l_792 dX7_hex_79 ?_
  refine aw_stm (fun m_3 hm_3 => ?_)
  replace h := lt_r hm_3 h
  refine aw_aload_n hG 0 rfl dX7_hex_82 rfl ?_
  refine aw_iconst (v := 0) hG dX7_hex_83 rfl ?_
  refine pt_m_point hG l_793 dX7_hex_84 ?_
  refine aw_stm (fun m_4 hm_4 => ?_)
  replace h := lt_r hm_4 h
  refine aw_aload_n hG 0 rfl dX7_hex_87 rfl ?_
  refine gt_m_outSize hG l_726 dX7_hex_88 ?_
  obtain rfl := Option.some.inj h
  exact FinI.z hK dX7_hex_91
noncomputable def f_X7_hex_J42 (x1 : Int32) (x2 : Int64) (m : MS) : Option (Int32 × MS) :=
  lt (f_X7_sizeOf x1 x2) fun x4_6 =>
  if x4_6 = 0 then
    Option.bind (f_X7_putWord 25 m) fun v_9 =>
    f_X7_hex_J77 v_9
  else
    lt (f_X7_split x1 x4_6 m) fun v_7 =>
    Option.bind (f_X7_putHex v_7) fun v_8 =>
    f_X7_hex_J77 v_8
set_option maxRecDepth 20000 in
theorem w_X7_hex_J42 {g : Cx} {mc ms : Nat} {c : CS} {m : MS} {z : Nat → Int64} {x1 : Int32} {x2 : Int64} {s : (Int32 × MS)}  (hG : Gd g RX7 cX7_hex 6 7 mc ms) (h : f_X7_hex_J42 x1 x2 m = some s) (hK : FinI g cX7_hex mc ms s.1 (c, s.2, z)) : AW g 42 [(0, .ref (wad (cxw g) 17)), (1, .int x1), (2, .long x2)] [] (c, m, z) 0 0 := by
  unfold f_X7_hex_J42 at h
  refine aw_iload_n hG 1 rfl dX7_hex_42 rfl ?_
  refine aw_lload_n hG 2 rfl dX7_hex_43 rfl ?_
  refine aw_callSl (As := [.int x1, .long x2]) (rest := []) hG (c_X7_sizeOf (x0 := x1) (x1 := x2) (m := m) ) l_634 ws_X7_sizeOf rfl rfl rfl (by decide) (Nat.zero_le _) (Nat.zero_le _) (Nat.le_of_ble_eq_true rfl) dX7_hex_44 ?_
  refine aw_topl (fun x4_6 hx4_6 => ?_)
  replace h := lt_r hx4_6 h
  refine aw_lstore (L' := [(4, .long x4_6), (0, .ref (wad (cxw g) 17)), (1, .int x1), (2, .long x2)]) hG dX7_hex_47 (by decide) rfl ?_
  refine aw_lload hG 0 rfl dX7_hex_49 ?_
  refine aw_lconst (v := 0) hG dX7_hex_51 rfl ?_
  refine aw_lc_ne (t := 66) hG dX7_hex_52 rfl dX7_hex_53 rfl rfl (fun hc => ?_) (fun hc => ?_)
  · replace h := it_n hc h
    refine aw_aload_n hG 1 rfl dX7_hex_66 rfl ?_
    refine aw_iload_n hG 2 rfl dX7_hex_67 rfl ?_
    refine aw_lload hG 0 rfl dX7_hex_68 ?_
    obtain ⟨v_7, hv_7⟩ : ∃ y, y = f_X7_split x1 x4_6 m := ⟨_, rfl⟩
    replace h := lt_r hv_7 h
    refine aw_callVv (As := [.int x1, .long x4_6]) (rest := []) hG (c_X7_split (x1 := x1) (x2 := x4_6) (m := m)  hv_7.symm) l_825 wv_X7_split (rv_X7 hG) rfl rfl rfl (by decide) (Nat.zero_le _) (Nat.zero_le _) (Nat.le_of_ble_eq_true rfl) dX7_hex_70 ?_
    refine aw_aload_n hG 1 rfl dX7_hex_73 rfl ?_
    obtain ⟨v_8, hv_8, h⟩ := bd_o h
    refine aw_callVv (As := []) (rest := []) hG (c_X7_putHex (m := v_7)  hv_8) l_883 wv_X7_putHex (rv_X7 hG) rfl rfl rfl (by decide) (Nat.zero_le _) (Nat.zero_le _) (Nat.le_of_ble_eq_true rfl) dX7_hex_74 ?_
    refine aw_sub (L' := [(0, .ref (wad (cxw g) 17))]) [1] rfl ?_
    exact w_X7_hex_J77 (m := v_8) hG h hK
  · replace h := it_p hc h
    refine aw_aload_n hG 1 rfl dX7_hex_56 rfl ?_
    refine aw_ldcSW (j := 25) hG rfl dX7_hex_57 ?_
    obtain ⟨v_9, hv_9, h⟩ := bd_o h
    refine aw_callVv (As := [.ref (wad (cxw g) (40 + 25))]) (rest := []) hG (c_X7_putWord (j1 := 25) (m := m) (by decide) hv_9) l_801 wv_X7_putWord (rv_X7 hG) rfl rfl rfl (by decide) (Nat.zero_le _) (Nat.zero_le _) (Nat.le_of_ble_eq_true rfl) dX7_hex_60 ?_
    refine aw_goto (t := 77) hG dX7_hex_63 rfl ?_
    refine aw_sub (L' := [(0, .ref (wad (cxw g) 17))]) [1] rfl ?_
    exact w_X7_hex_J77 (m := v_9) hG h hK
noncomputable def f_X7_hex (x1 : Int32) (x2 : Int64) (m : MS) : Option (Int32 × MS) :=
  lt (f_X7_refuses (f_X7_isPattern x1 x2) m) fun v_1 =>
  if v_1.1 = 0 then
    Option.bind (f_X7_isNoNumber x1 x2 v_1.2) fun v_2 =>
    if v_2.1 = 0 then
      lt (smI v_2.2 2 0) fun m_5 =>
      if (mI m_5 5) = 1 then
        Option.bind (f_X7_put 45 m_5) fun v_11 =>
        f_X7_hex_J42 x1 x2 v_11
      else
        f_X7_hex_J42 x1 x2 m_5
    else
      f_X7_hex_J77 v_2.2
  else
    some (0, v_1.2)
set_option maxRecDepth 20000 in
theorem w_X7_hex {g : Cx} {mc ms : Nat} {c : CS} {m : MS} {z : Nat → Int64} {x1 : Int32} {x2 : Int64} {s : (Int32 × MS)}  (hG : Gd g RX7 cX7_hex 6 7 mc ms) (h : f_X7_hex x1 x2 m = some s) (hK : FinI g cX7_hex mc ms s.1 (c, s.2, z)) : AW g 0 [(0, .ref (wad (cxw g) 17)), (1, .int x1), (2, .long x2)] [] (c, m, z) 0 0 := by
  unfold f_X7_hex at h
  refine aw_aload_n hG 0 rfl dX7_hex_0 rfl ?_
  refine aw_iload_n hG 1 rfl dX7_hex_1 rfl ?_
  refine aw_lload_n hG 2 rfl dX7_hex_2 rfl ?_
  refine aw_callSi (As := [.int x1, .long x2]) (rest := [.ref (wad (cxw g) 17)]) hG (c_X7_isPattern (x0 := x1) (x1 := x2) (m := m) ) l_850 ws_X7_isPattern rfl rfl rfl (by decide) (Nat.zero_le _) (Nat.zero_le _) (Nat.le_of_ble_eq_true rfl) dX7_hex_3 ?_
  obtain ⟨v_1, hv_1⟩ : ∃ y, y = f_X7_refuses (f_X7_isPattern x1 x2) m := ⟨_, rfl⟩
  replace h := lt_r hv_1 h
  refine aw_callVi (As := [.int (f_X7_isPattern x1 x2)]) (rest := []) hG (c_X7_refuses (x1 := f_X7_isPattern x1 x2) (m := m)  hv_1.symm) l_718 wv_X7_refuses (rv_X7 hG) rfl rfl rfl (by decide) (Nat.zero_le _) (Nat.zero_le _) (Nat.le_of_ble_eq_true rfl) dX7_hex_6 ?_
  refine aw_if_eq (t := 14) hG dX7_hex_9 rfl (fun hc => ?_) (fun hc => ?_)
  · replace h := it_p hc h
    refine aw_aload_n hG 0 rfl dX7_hex_14 rfl ?_
    refine aw_iload_n hG 1 rfl dX7_hex_15 rfl ?_
    refine aw_lload_n hG 2 rfl dX7_hex_16 rfl ?_
    obtain ⟨v_2, hv_2, h⟩ := bd_o h
    refine aw_callVi (As := [.int x1, .long x2]) (rest := []) hG (c_X7_isNoNumber (x1 := x1) (x2 := x2) (m := v_1.2)  hv_2) l_854 wv_X7_isNoNumber (rv_X7 hG) rfl rfl rfl (by decide) (Nat.zero_le _) (Nat.zero_le _) (Nat.le_of_ble_eq_true rfl) dX7_hex_17 ?_
    refine aw_if_ne (t := 77) hG dX7_hex_20 rfl (fun hc => ?_) (fun hc => ?_)
    · replace h := it_n hc h
      refine aw_sub (L' := [(0, .ref (wad (cxw g) 17))]) [0] rfl ?_
      exact w_X7_hex_J77 (m := v_2.2) hG h hK
    · replace h := it_p hc h
      refine aw_aload_n hG 0 rfl dX7_hex_23 rfl ?_
      refine aw_iconst (v := 0) hG dX7_hex_24 rfl ?_
      refine pt_m_outSize hG l_726 dX7_hex_25 ?_
      refine aw_stm (fun m_5 hm_5 => ?_)
      replace h := lt_r hm_5 h
      refine aw_aload_n hG 0 rfl dX7_hex_28 rfl ?_
      refine gt_m_minus hG l_800 dX7_hex_29 ?_
      refine aw_iconst (v := 1) hG dX7_hex_32 rfl ?_
      refine aw_icmp_ne (t := 42) hG dX7_hex_33 rfl (fun hc => ?_) (fun hc => ?_)
      · replace h := it_n hc h
        exact w_X7_hex_J42 (x1 := x1) (x2 := x2) (m := m_5) hG h hK
      · replace h := it_p hc h
        refine aw_aload_n hG 0 rfl dX7_hex_36 rfl ?_
        refine aw_bipush (v := 45) hG dX7_hex_37 rfl ?_
        obtain ⟨v_11, hv_11, h⟩ := bd_o h
        refine aw_callVv (As := [.int 45]) (rest := []) hG (c_X7_put (x1 := 45) (m := m_5)  hv_11) l_795 wv_X7_put (rv_X7 hG) rfl rfl rfl (by decide) (Nat.zero_le _) (Nat.zero_le _) (Nat.le_of_ble_eq_true rfl) dX7_hex_39 ?_
        exact w_X7_hex_J42 (x1 := x1) (x2 := x2) (m := v_11) hG h hK
  · replace h := it_n hc h
    refine aw_iconst (v := 0) hG dX7_hex_12 rfl ?_
    obtain rfl := Option.some.inj h
    exact FinI.z hK dX7_hex_13
theorem c_X7_hex {c : CS} {m : MS} {z : Nat → Int64} {x1 : Int32} {x2 : Int64} {s : Int32 × MS}  (h : f_X7_hex x1 x2 m = some s) : Ct yX7_hex cX7_hex 6 (some .int) 7 (fun w => [.ref (wad w 17), .int x1, .long x2]) (c, m, z) (fun _ => some (.int s.1)) (c, s.2, z) := Ct_ofI (by decide +kernel) (fun _ => Nat.le_of_ble_eq_true rfl) (fun g hG hK => w_X7_hex hG h hK)
def f_X7_out (x1 : Int32) (m : MS) : Option (Int32 × MS) :=
  lt (f_X7_refuses (f_X7_in x1.toInt64 0 (((mI m 2) - 1).toInt64)) m) fun v_1 =>
  if v_1.1 = 0 then
    if vI x1 (mLen 1) then
      some (mA v_1.2 1 x1.toNatClampNeg, v_1.2)
    else none
  else
    some (0, v_1.2)
set_option maxRecDepth 20000 in
theorem w_X7_out {g : Cx} {mc ms : Nat} {c : CS} {m : MS} {z : Nat → Int64} {x1 : Int32} {s : (Int32 × MS)}  (hG : Gd g RX7 cX7_out 2 2 mc ms) (h : f_X7_out x1 m = some s) (hK : FinI g cX7_out mc ms s.1 (c, s.2, z)) : AW g 0 [(0, .ref (wad (cxw g) 17)), (1, .int x1)] [] (c, m, z) 0 0 := by
  unfold f_X7_out at h
  refine aw_aload_n hG 0 rfl dX7_out_0 rfl ?_
  refine aw_iload_n hG 1 rfl dX7_out_1 rfl ?_
  refine aw_i2l hG dX7_out_2 ?_
  refine aw_lconst (v := 0) hG dX7_out_3 rfl ?_
  refine aw_aload_n hG 0 rfl dX7_out_4 rfl ?_
  refine gt_m_outSize hG l_726 dX7_out_5 ?_
  refine aw_iconst (v := 1) hG dX7_out_8 rfl ?_
  refine aw_isub hG dX7_out_9 ?_
  refine aw_i2l hG dX7_out_10 ?_
  refine aw_callSi (As := [.long x1.toInt64, .long 0, .long (((mI m 2) - 1).toInt64)]) (rest := [.ref (wad (cxw g) 17)]) hG (c_X7_in (x0 := x1.toInt64) (x2 := 0) (x4 := ((mI m 2) - 1).toInt64) (m := m) ) l_626 ws_X7_in rfl rfl rfl (by decide) (Nat.zero_le _) (Nat.zero_le _) (Nat.le_of_ble_eq_true rfl) dX7_out_11 ?_
  obtain ⟨v_1, hv_1⟩ : ∃ y, y = f_X7_refuses (f_X7_in x1.toInt64 0 (((mI m 2) - 1).toInt64)) m := ⟨_, rfl⟩
  replace h := lt_r hv_1 h
  refine aw_callVi (As := [.int (f_X7_in x1.toInt64 0 (((mI m 2) - 1).toInt64))]) (rest := []) hG (c_X7_refuses (x1 := f_X7_in x1.toInt64 0 (((mI m 2) - 1).toInt64)) (m := m)  hv_1.symm) l_718 wv_X7_refuses (rv_X7 hG) rfl rfl rfl (by decide) (Nat.zero_le _) (Nat.zero_le _) (Nat.le_of_ble_eq_true rfl) dX7_out_14 ?_
  refine aw_if_eq (t := 24) hG dX7_out_17 rfl (fun hc => ?_) (fun hc => ?_)
  · replace h := it_p hc h
    refine aw_aload_n hG 0 rfl dX7_out_24 rfl ?_
    refine gt_m_out hG l_727 dX7_out_25 ?_
    refine aw_iload_n hG 1 rfl dX7_out_28 rfl ?_
    obtain ⟨hi_2, h⟩ := it_o h
    refine al_mA (x := 0) hG (by decide) hi_2 dX7_out_29 ?_
    obtain rfl := Option.some.inj h
    exact FinI.z hK dX7_out_30
  · replace h := it_n hc h
    refine aw_iconst (v := 0) hG dX7_out_20 rfl ?_
    refine aw_goto (t := 30) hG dX7_out_21 rfl ?_
    obtain rfl := Option.some.inj h
    exact FinI.z hK dX7_out_30
theorem c_X7_out {c : CS} {m : MS} {z : Nat → Int64} {x1 : Int32} {s : Int32 × MS}  (h : f_X7_out x1 m = some s) : Ct yX7_out cX7_out 2 (some .int) 2 (fun w => [.ref (wad w 17), .int x1]) (c, m, z) (fun _ => some (.int s.1)) (c, s.2, z) := Ct_ofI (by decide +kernel) (fun _ => Nat.le_of_ble_eq_true rfl) (fun g hG hK => w_X7_out hG h hK)
def f_X7_decimal (x1 : Int32) (m : MS) : Int32 × MS :=
  lt (f_X7_refuses (f_X7_in x1.toInt64 0 2) m) fun v_1 =>
  if v_1.1 = 0 then
    if x1 = 0 then
      (mI v_1.2 3, v_1.2)
    else
      if x1 = 1 then
        (mI v_1.2 4, v_1.2)
      else
        (mI v_1.2 5, v_1.2)
  else
    (0, v_1.2)
set_option maxRecDepth 20000 in
theorem w_X7_decimal {g : Cx} {mc ms : Nat} {c : CS} {m : MS} {z : Nat → Int64} {x1 : Int32} {s : Int32 × MS}  (hG : Gd g RX7 cX7_decimal 2 2 mc ms) (h : f_X7_decimal x1 m = s) (hK : FinI g cX7_decimal mc ms s.1 (c, s.2, z)) : AW g 0 [(0, .ref (wad (cxw g) 17)), (1, .int x1)] [] (c, m, z) 0 0 := by
  unfold f_X7_decimal at h
  refine aw_aload_n hG 0 rfl dX7_decimal_0 rfl ?_
  refine aw_iload_n hG 1 rfl dX7_decimal_1 rfl ?_
  refine aw_i2l hG dX7_decimal_2 ?_
  refine aw_lconst (v := 0) hG dX7_decimal_3 rfl ?_
  refine aw_ldc2 hG l_620 dX7_decimal_4 ?_
  refine aw_callSi (As := [.long x1.toInt64, .long 0, .long 2]) (rest := [.ref (wad (cxw g) 17)]) hG (c_X7_in (x0 := x1.toInt64) (x2 := 0) (x4 := 2) (m := m) ) l_626 ws_X7_in rfl rfl rfl (by decide) (Nat.zero_le _) (Nat.zero_le _) (Nat.le_of_ble_eq_true rfl) dX7_decimal_7 ?_
  obtain ⟨v_1, hv_1⟩ : ∃ y, y = f_X7_refuses (f_X7_in x1.toInt64 0 2) m := ⟨_, rfl⟩
  replace h := lt_r hv_1 h
  refine aw_callVi (As := [.int (f_X7_in x1.toInt64 0 2)]) (rest := []) hG (c_X7_refuses (x1 := f_X7_in x1.toInt64 0 2) (m := m)  hv_1.symm) l_718 wv_X7_refuses (rv_X7 hG) rfl rfl rfl (by decide) (Nat.zero_le _) (Nat.zero_le _) (Nat.le_of_ble_eq_true rfl) dX7_decimal_10 ?_
  refine aw_if_eq (t := 18) hG dX7_decimal_13 rfl (fun hc => ?_) (fun hc => ?_)
  · replace h := it_p hc h
    refine aw_iload_n hG 1 rfl dX7_decimal_18 rfl ?_
    refine aw_if_ne (t := 29) hG dX7_decimal_19 rfl (fun hc => ?_) (fun hc => ?_)
    · replace h := it_n hc h
      refine aw_iload_n hG 1 rfl dX7_decimal_29 rfl ?_
      refine aw_iconst (v := 1) hG dX7_decimal_30 rfl ?_
      refine aw_icmp_ne (t := 41) hG dX7_decimal_31 rfl (fun hc => ?_) (fun hc => ?_)
      · replace h := it_n hc h
        refine aw_aload_n hG 0 rfl dX7_decimal_41 rfl ?_
        refine gt_m_minus hG l_800 dX7_decimal_42 ?_
        subst h
        exact FinI.z hK dX7_decimal_45
      · replace h := it_p hc h
        refine aw_aload_n hG 0 rfl dX7_decimal_34 rfl ?_
        refine gt_m_point hG l_793 dX7_decimal_35 ?_
        refine aw_goto (t := 45) hG dX7_decimal_38 rfl ?_
        subst h
        exact FinI.z hK dX7_decimal_45
    · replace h := it_p hc h
      refine aw_aload_n hG 0 rfl dX7_decimal_22 rfl ?_
      refine gt_m_many hG l_792 dX7_decimal_23 ?_
      refine aw_goto (t := 45) hG dX7_decimal_26 rfl ?_
      subst h
      exact FinI.z hK dX7_decimal_45
  · replace h := it_n hc h
    refine aw_iconst (v := 0) hG dX7_decimal_16 rfl ?_
    subst h
    exact FinI.z hK dX7_decimal_17
theorem c_X7_decimal {c : CS} {m : MS} {z : Nat → Int64} {x1 : Int32} {s : Int32 × MS}  (h : f_X7_decimal x1 m = s) : Ct yX7_decimal cX7_decimal 2 (some .int) 2 (fun w => [.ref (wad w 17), .int x1]) (c, m, z) (fun _ => some (.int s.1)) (c, s.2, z) := Ct_ofI (by decide +kernel) (fun _ => Nat.le_of_ble_eq_true rfl) (fun g hG hK => w_X7_decimal hG h hK)
def f_X7_digit (x1 : Int32) (m : MS) : Option (Int32 × MS) :=
  lt (f_X7_refuses (f_X7_in x1.toInt64 0 (((mI m 3) - 1).toInt64)) m) fun v_1 =>
  if v_1.1 = 0 then
    if vI x1 (mLen 2) then
      some (mA v_1.2 2 x1.toNatClampNeg, v_1.2)
    else none
  else
    some (0, v_1.2)
set_option maxRecDepth 20000 in
theorem w_X7_digit {g : Cx} {mc ms : Nat} {c : CS} {m : MS} {z : Nat → Int64} {x1 : Int32} {s : (Int32 × MS)}  (hG : Gd g RX7 cX7_digit 2 2 mc ms) (h : f_X7_digit x1 m = some s) (hK : FinI g cX7_digit mc ms s.1 (c, s.2, z)) : AW g 0 [(0, .ref (wad (cxw g) 17)), (1, .int x1)] [] (c, m, z) 0 0 := by
  unfold f_X7_digit at h
  refine aw_aload_n hG 0 rfl dX7_digit_0 rfl ?_
  refine aw_iload_n hG 1 rfl dX7_digit_1 rfl ?_
  refine aw_i2l hG dX7_digit_2 ?_
  refine aw_lconst (v := 0) hG dX7_digit_3 rfl ?_
  refine aw_aload_n hG 0 rfl dX7_digit_4 rfl ?_
  refine gt_m_many hG l_792 dX7_digit_5 ?_
  refine aw_iconst (v := 1) hG dX7_digit_8 rfl ?_
  refine aw_isub hG dX7_digit_9 ?_
  refine aw_i2l hG dX7_digit_10 ?_
  refine aw_callSi (As := [.long x1.toInt64, .long 0, .long (((mI m 3) - 1).toInt64)]) (rest := [.ref (wad (cxw g) 17)]) hG (c_X7_in (x0 := x1.toInt64) (x2 := 0) (x4 := ((mI m 3) - 1).toInt64) (m := m) ) l_626 ws_X7_in rfl rfl rfl (by decide) (Nat.zero_le _) (Nat.zero_le _) (Nat.le_of_ble_eq_true rfl) dX7_digit_11 ?_
  obtain ⟨v_1, hv_1⟩ : ∃ y, y = f_X7_refuses (f_X7_in x1.toInt64 0 (((mI m 3) - 1).toInt64)) m := ⟨_, rfl⟩
  replace h := lt_r hv_1 h
  refine aw_callVi (As := [.int (f_X7_in x1.toInt64 0 (((mI m 3) - 1).toInt64))]) (rest := []) hG (c_X7_refuses (x1 := f_X7_in x1.toInt64 0 (((mI m 3) - 1).toInt64)) (m := m)  hv_1.symm) l_718 wv_X7_refuses (rv_X7 hG) rfl rfl rfl (by decide) (Nat.zero_le _) (Nat.zero_le _) (Nat.le_of_ble_eq_true rfl) dX7_digit_14 ?_
  refine aw_if_eq (t := 24) hG dX7_digit_17 rfl (fun hc => ?_) (fun hc => ?_)
  · replace h := it_p hc h
    refine aw_aload_n hG 0 rfl dX7_digit_24 rfl ?_
    refine gt_m_digits hG l_794 dX7_digit_25 ?_
    refine aw_iload_n hG 1 rfl dX7_digit_28 rfl ?_
    obtain ⟨hi_2, h⟩ := it_o h
    refine al_mA (x := 0) hG (by decide) hi_2 dX7_digit_29 ?_
    obtain rfl := Option.some.inj h
    exact FinI.z hK dX7_digit_30
  · replace h := it_n hc h
    refine aw_iconst (v := 0) hG dX7_digit_20 rfl ?_
    refine aw_goto (t := 30) hG dX7_digit_21 rfl ?_
    obtain rfl := Option.some.inj h
    exact FinI.z hK dX7_digit_30
theorem c_X7_digit {c : CS} {m : MS} {z : Nat → Int64} {x1 : Int32} {s : Int32 × MS}  (h : f_X7_digit x1 m = some s) : Ct yX7_digit cX7_digit 2 (some .int) 2 (fun w => [.ref (wad w 17), .int x1]) (c, m, z) (fun _ => some (.int s.1)) (c, s.2, z) := Ct_ofI (by decide +kernel) (fun _ => Nat.le_of_ble_eq_true rfl) (fun g hG hK => w_X7_digit hG h hK)
def f_X7_roundTens_L24 (x1 : Int32) (x2 : Int64) (x4 : Int32) (x5 : Int32) (x6 : Int64) (x8 : Int32) (m : MS) : Option ((Int64 × Int32 × MS) ⊕ (MS)) :=
  if x8 < 0 then
    some (.inr m)
  else
    if vI x8 (mLen 7) then
      lt (smA m 7 (upd (mA m 7) x8.toNatClampNeg ((f_JL_remainderUnsigned x6 10).toInt32))) fun m_3 =>
      lt (f_JL_divideUnsigned x6 10) fun x6_4 =>
      lt (x8 + (-1)) fun x8_5 =>
      some (.inl (x6_4, x8_5, m_3))
    else none
set_option maxRecDepth 20000 in
theorem w_X7_roundTens_L24 {g : Cx} {mc ms : Nat} {c : CS} {m : MS} {z : Nat → Int64} {x1 : Int32} {x2 : Int64} {x4 : Int32} {x5 : Int32} {x6 : Int64} {x8 : Int32} {s : ((Int64 × Int32 × MS) ⊕ (MS))}  (hG : Gd g RX7 cX7_roundTens 9 6 mc ms) (h : f_X7_roundTens_L24 x1 x2 x4 x5 x6 x8 m = some s) (hK : Sum.elim (fun a => AW g 24 [(0, .ref (wad (cxw g) 17)), (1, .int x1), (2, .long x2), (4, .int x4), (5, .int x5), (6, .long a.1), (8, .int a.2.1)] [] (c, a.2.2, z) 0 0) (fun e => AW g 61 [(0, .ref (wad (cxw g) 17)), (1, .int x1), (2, .long x2), (4, .int x4), (5, .int x5)] [] (c, e, z) 0 0) s) : AW g 24 [(0, .ref (wad (cxw g) 17)), (1, .int x1), (2, .long x2), (4, .int x4), (5, .int x5), (6, .long x6), (8, .int x8)] [] (c, m, z) 0 0 := by
  unfold f_X7_roundTens_L24 at h
  refine aw_iload hG 6 rfl dX7_roundTens_24 ?_
  refine aw_if_lt (t := 61) hG dX7_roundTens_26 rfl (fun hc => ?_) (fun hc => ?_)
  · replace h := it_p hc h
    obtain rfl := Option.some.inj h
    refine aw_sub (L' := [(0, .ref (wad (cxw g) 17)), (1, .int x1), (2, .long x2), (4, .int x4), (5, .int x5)]) [0, 1, 2, 3, 4] rfl ?_
    exact hK
  · replace h := it_n hc h
    refine aw_aload_n hG 0 rfl dX7_roundTens_29 rfl ?_
    refine gt_m_row hG l_699 dX7_roundTens_30 ?_
    refine aw_iload hG 6 rfl dX7_roundTens_33 ?_
    refine aw_lload hG 5 rfl dX7_roundTens_35 ?_
    refine aw_ldc2 hG l_789 dX7_roundTens_37 ?_
    refine aw_callSl (As := [.long x6, .long 10]) (rest := [.int x8, .ref (wad (cxw g) (18 + 7))]) hG (c_JL_remainderUnsigned (x0 := x6) (x2 := 10) (m := m) (by decide)) l_889 ws_JL_remainderUnsigned rfl rfl rfl (by decide) (Nat.zero_le _) (Nat.zero_le _) (Nat.le_of_ble_eq_true rfl) dX7_roundTens_40 ?_
    refine aw_l2i hG dX7_roundTens_43 ?_
    obtain ⟨hi_2, h⟩ := it_o h
    refine as_mA hG (by decide) hi_2 dX7_roundTens_44 ?_
    refine aw_stm (fun m_3 hm_3 => ?_)
    replace h := lt_r hm_3 h
    refine aw_lload hG 5 rfl dX7_roundTens_45 ?_
    refine aw_ldc2 hG l_789 dX7_roundTens_47 ?_
    refine aw_callSl (As := [.long x6, .long 10]) (rest := []) hG (c_JL_divideUnsigned (x0 := x6) (x2 := 10) (m := m_3) (by decide)) l_893 ws_JL_divideUnsigned rfl rfl rfl (by decide) (Nat.zero_le _) (Nat.zero_le _) (Nat.le_of_ble_eq_true rfl) dX7_roundTens_50 ?_
    refine aw_topl (fun x6_4 hx6_4 => ?_)
    replace h := lt_r hx6_4 h
    refine aw_lstore (L' := [(6, .long x6_4), (0, .ref (wad (cxw g) 17)), (1, .int x1), (2, .long x2), (4, .int x4), (5, .int x5), (8, .int x8)]) hG dX7_roundTens_53 (by decide) rfl ?_
    obtain ⟨x8_5, hx8_5⟩ : ∃ y : Int32, y = x8 + (-1) := ⟨_, rfl⟩
    replace h := lt_r hx8_5 h
    refine aw_iinc (v := x8_5) (L' := [(8, .int x8_5), (6, .long x6_4), (0, .ref (wad (cxw g) 17)), (1, .int x1), (2, .long x2), (4, .int x4), (5, .int x5)]) hG 6 rfl dX7_roundTens_55 (by rw [hx8_5]; rfl) (by decide) rfl ?_
    refine aw_goto (t := 24) hG dX7_roundTens_58 rfl ?_
    obtain rfl := Option.some.inj h
    refine aw_sub (L' := [(0, .ref (wad (cxw g) 17)), (1, .int x1), (2, .long x2), (4, .int x4), (5, .int x5), (6, .long x6_4), (8, .int x8_5)]) [2, 3, 4, 5, 6, 1, 0] rfl ?_
    exact hK
noncomputable def f_X7_roundTens_J74 (x4 : Int32) (x5 : Int32) (s0 : Int32) (s1 : Int32) (m : MS) : Option MS :=
  Option.bind (f_X7_roundDecimal s1 s0 x4 x5 m) fun v_8 =>
  some v_8
set_option maxRecDepth 20000 in
theorem w_X7_roundTens_J74 {g : Cx} {mc ms : Nat} {c : CS} {m : MS} {z : Nat → Int64} {x4 : Int32} {x5 : Int32} {s0 : Int32} {s1 : Int32} {s : MS}  (hG : Gd g RX7 cX7_roundTens 9 6 mc ms) (h : f_X7_roundTens_J74 x4 x5 s0 s1 m = some s) (hK : FinV g cX7_roundTens mc ms (c, s, z)) : AW g 74 [(4, .int x4), (5, .int x5)] [.int s0, .int s1, .ref (wad (cxw g) 17)] (c, m, z) 0 0 := by
  unfold f_X7_roundTens_J74 at h
  refine aw_iload hG 0 rfl dX7_roundTens_74 ?_
  refine aw_iload hG 1 rfl dX7_roundTens_76 ?_
  obtain ⟨v_8, hv_8, h⟩ := bd_o h
  refine aw_callVv (As := [.int s1, .int s0, .int x4, .int x5]) (rest := []) hG (c_X7_roundDecimal (x1 := s1) (x2 := s0) (x3 := x4) (x4 := x5) (m := m)  hv_8) l_776 wv_X7_roundDecimal (rv_X7 hG) rfl rfl rfl (by decide) (Nat.zero_le _) (Nat.zero_le _) (Nat.le_of_ble_eq_true rfl) dX7_roundTens_78 ?_
  obtain rfl := Option.some.inj h
  exact FinV.z hK dX7_roundTens_81
noncomputable def f_X7_roundTens_J12 (x1 : Int32) (x2 : Int64) (x4 : Int32) (x5 : Int32) (s0 : Int64) (m : MS) : Option MS :=
  lt (smI m 10 20) fun m_1 =>
  Option.bind (Lp (fun a => f_X7_roundTens_L24 x1 x2 x4 x5 a.1 a.2.1 a.2.2) (s0, 19, m_1)) fun e_7 =>
  if 0 ≤ x2 then
    f_X7_roundTens_J74 x4 x5 0 x1 e_7
  else
    f_X7_roundTens_J74 x4 x5 1 x1 e_7
set_option maxRecDepth 20000 in
theorem w_X7_roundTens_J12 {g : Cx} {mc ms : Nat} {c : CS} {m : MS} {z : Nat → Int64} {x1 : Int32} {x2 : Int64} {x4 : Int32} {x5 : Int32} {s0 : Int64} {s : MS}  (hG : Gd g RX7 cX7_roundTens 9 6 mc ms) (h : f_X7_roundTens_J12 x1 x2 x4 x5 s0 m = some s) (hK : FinV g cX7_roundTens mc ms (c, s, z)) : AW g 12 [(0, .ref (wad (cxw g) 17)), (1, .int x1), (2, .long x2), (4, .int x4), (5, .int x5)] [.long s0] (c, m, z) 0 0 := by
  unfold f_X7_roundTens_J12 at h
  refine aw_lstore (L' := [(6, .long s0), (0, .ref (wad (cxw g) 17)), (1, .int x1), (2, .long x2), (4, .int x4), (5, .int x5)]) hG dX7_roundTens_12 (by decide) rfl ?_
  refine aw_aload_n hG 1 rfl dX7_roundTens_14 rfl ?_
  refine aw_bipush (v := 20) hG dX7_roundTens_15 rfl ?_
  refine pt_m_rowMany hG l_698 dX7_roundTens_17 ?_
  refine aw_stm (fun m_1 hm_1 => ?_)
  replace h := lt_r hm_1 h
  refine aw_bipush (v := 19) hG dX7_roundTens_20 rfl ?_
  refine aw_istore (L' := [(8, .int 19), (6, .long s0), (0, .ref (wad (cxw g) 17)), (1, .int x1), (2, .long x2), (4, .int x4), (5, .int x5)]) hG dX7_roundTens_22 (by decide) rfl ?_
  obtain ⟨e_7, he, h⟩ := bd_o h
  refine aw_sub (L' := [(0, .ref (wad (cxw g) 17)), (1, .int x1), (2, .long x2), (4, .int x4), (5, .int x5), (6, .long s0), (8, .int 19)]) [2, 3, 4, 5, 6, 1, 0] rfl ?_
  refine Lp_w (F := (fun a => f_X7_roundTens_L24 x1 x2 x4 x5 a.1 a.2.1 a.2.2)) (S := (fun a => AW g 24 [(0, .ref (wad (cxw g) 17)), (1, .int x1), (2, .long x2), (4, .int x4), (5, .int x5), (6, .long a.1), (8, .int a.2.1)] [] (c, a.2.2, z) 0 0)) (E := (fun e => AW g 61 [(0, .ref (wad (cxw g) 17)), (1, .int x1), (2, .long x2), (4, .int x4), (5, .int x5)] [] (c, e, z) 0 0)) (a := (s0, 19, m_1)) he (fun a s h hK => w_X7_roundTens_L24 (x1 := x1) (x2 := x2) (x4 := x4) (x5 := x5) (x6 := a.1) (x8 := a.2.1) (m := a.2.2) hG h hK) ?_
  show AW g 61 _ _ _ 0 0
  refine aw_aload_n hG 0 rfl dX7_roundTens_61 rfl ?_
  refine aw_iload_n hG 1 rfl dX7_roundTens_62 rfl ?_
  refine aw_lload_n hG 2 rfl dX7_roundTens_63 rfl ?_
  refine aw_lconst (v := 0) hG dX7_roundTens_64 rfl ?_
  refine aw_lc_ge (t := 73) hG dX7_roundTens_65 rfl dX7_roundTens_66 rfl rfl (fun hc => ?_) (fun hc => ?_)
  · replace h := it_p hc h
    refine aw_iconst (v := 0) hG dX7_roundTens_73 rfl ?_
    refine aw_sub (L' := [(4, .int x4), (5, .int x5)]) [3, 4] rfl ?_
    exact w_X7_roundTens_J74 (x4 := x4) (x5 := x5) (s0 := 0) (s1 := x1) (m := e_7) hG h hK
  · replace h := it_n hc h
    refine aw_iconst (v := 1) hG dX7_roundTens_69 rfl ?_
    refine aw_goto (t := 74) hG dX7_roundTens_70 rfl ?_
    refine aw_sub (L' := [(4, .int x4), (5, .int x5)]) [3, 4] rfl ?_
    exact w_X7_roundTens_J74 (x4 := x4) (x5 := x5) (s0 := 1) (s1 := x1) (m := e_7) hG h hK
noncomputable def f_X7_roundTens (x1 : Int32) (x2 : Int64) (x4 : Int32) (x5 : Int32) (m : MS) : Option MS :=
  if 0 ≤ x2 then
    f_X7_roundTens_J12 x1 x2 x4 x5 x2 m
  else
    f_X7_roundTens_J12 x1 x2 x4 x5 (-x2) m
set_option maxRecDepth 20000 in
theorem w_X7_roundTens {g : Cx} {mc ms : Nat} {c : CS} {m : MS} {z : Nat → Int64} {x1 : Int32} {x2 : Int64} {x4 : Int32} {x5 : Int32} {s : MS}  (hG : Gd g RX7 cX7_roundTens 9 6 mc ms) (h : f_X7_roundTens x1 x2 x4 x5 m = some s) (hK : FinV g cX7_roundTens mc ms (c, s, z)) : AW g 0 [(0, .ref (wad (cxw g) 17)), (1, .int x1), (2, .long x2), (4, .int x4), (5, .int x5)] [] (c, m, z) 0 0 := by
  unfold f_X7_roundTens at h
  refine aw_lload_n hG 2 rfl dX7_roundTens_0 rfl ?_
  refine aw_lconst (v := 0) hG dX7_roundTens_1 rfl ?_
  refine aw_lc_ge (t := 11) hG dX7_roundTens_2 rfl dX7_roundTens_3 rfl rfl (fun hc => ?_) (fun hc => ?_)
  · replace h := it_p hc h
    refine aw_lload_n hG 2 rfl dX7_roundTens_11 rfl ?_
    exact w_X7_roundTens_J12 (x1 := x1) (x2 := x2) (x4 := x4) (x5 := x5) (s0 := x2) (m := m) hG h hK
  · replace h := it_n hc h
    refine aw_lload_n hG 2 rfl dX7_roundTens_6 rfl ?_
    refine aw_lneg hG dX7_roundTens_7 ?_
    refine aw_goto (t := 12) hG dX7_roundTens_8 rfl ?_
    exact w_X7_roundTens_J12 (x1 := x1) (x2 := x2) (x4 := x4) (x5 := x5) (s0 := -x2) (m := m) hG h hK
theorem c_X7_roundTens {c : CS} {m : MS} {z : Nat → Int64} {x1 : Int32} {x2 : Int64} {x4 : Int32} {x5 : Int32} {s : MS}  (h : f_X7_roundTens x1 x2 x4 x5 m = some s) : Ct yX7_roundTens cX7_roundTens 9 none 6 (fun w => [.ref (wad w 17), .int x1, .long x2, .int x4, .int x5]) (c, m, z) (fun _ => none) (c, s, z) := Ct_ofV (by decide +kernel) (fun _ => Nat.le_of_ble_eq_true rfl) (fun g hG hK => w_X7_roundTens hG h hK)
noncomputable def f_X7_nearest_J46 (x1 : Int32) (x2 : Int64) (x4 : Int32) (x5 : Int32) (s0 : Int32) (m : MS) : Option (Int64 × MS) :=
  lt (f_X7_refuses s0 m) fun v_1 =>
  if v_1.1 = 0 then
    Option.bind (f_X7_roundTens x1 x2 x4 x5 v_1.2) fun v_2 =>
    lt (f_X7_keep v_2) fun v_3 =>
    some (mJ v_3 0, v_3)
  else
    some (0, v_1.2)
set_option maxRecDepth 20000 in
theorem w_X7_nearest_J46 {g : Cx} {mc ms : Nat} {c : CS} {m : MS} {z : Nat → Int64} {x1 : Int32} {x2 : Int64} {x4 : Int32} {x5 : Int32} {s0 : Int32} {s : (Int64 × MS)}  (hG : Gd g RX7 cX7_nearest 6 7 mc ms) (h : f_X7_nearest_J46 x1 x2 x4 x5 s0 m = some s) (hK : FinJ g cX7_nearest mc ms s.1 (c, s.2, z)) : AW g 46 [(0, .ref (wad (cxw g) 17)), (1, .int x1), (2, .long x2), (4, .int x4), (5, .int x5)] [.int s0, .ref (wad (cxw g) 17)] (c, m, z) 0 0 := by
  unfold f_X7_nearest_J46 at h
  obtain ⟨v_1, hv_1⟩ : ∃ y, y = f_X7_refuses s0 m := ⟨_, rfl⟩
  replace h := lt_r hv_1 h
  refine aw_callVi (As := [.int s0]) (rest := []) hG (c_X7_refuses (x1 := s0) (m := m)  hv_1.symm) l_718 wv_X7_refuses (rv_X7 hG) rfl rfl rfl (by decide) (Nat.zero_le _) (Nat.zero_le _) (Nat.le_of_ble_eq_true rfl) dX7_nearest_46 ?_
  refine aw_if_eq (t := 54) hG dX7_nearest_49 rfl (fun hc => ?_) (fun hc => ?_)
  · replace h := it_p hc h
    refine aw_aload_n hG 0 rfl dX7_nearest_54 rfl ?_
    refine aw_iload_n hG 1 rfl dX7_nearest_55 rfl ?_
    refine aw_lload_n hG 2 rfl dX7_nearest_56 rfl ?_
    refine aw_iload hG 3 rfl dX7_nearest_57 ?_
    refine aw_iload hG 4 rfl dX7_nearest_59 ?_
    obtain ⟨v_2, hv_2, h⟩ := bd_o h
    refine aw_callVv (As := [.int x1, .long x2, .int x4, .int x5]) (rest := []) hG (c_X7_roundTens (x1 := x1) (x2 := x2) (x4 := x4) (x5 := x5) (m := v_1.2)  hv_2) l_897 wv_X7_roundTens (rv_X7 hG) rfl rfl rfl (by decide) (Nat.zero_le _) (Nat.zero_le _) (Nat.le_of_ble_eq_true rfl) dX7_nearest_61 ?_
    refine aw_aload_n hG 0 rfl dX7_nearest_64 rfl ?_
    obtain ⟨v_3, hv_3⟩ : ∃ y, y = f_X7_keep v_2 := ⟨_, rfl⟩
    replace h := lt_r hv_3 h
    refine aw_callVv (As := []) (rest := []) hG (c_X7_keep (m := v_2)  hv_3.symm) l_761 wv_X7_keep (rv_X7 hG) rfl rfl rfl (by decide) (Nat.zero_le _) (Nat.zero_le _) (Nat.le_of_ble_eq_true rfl) dX7_nearest_65 ?_
    refine aw_aload_n hG 0 rfl dX7_nearest_68 rfl ?_
    refine gt_m_result hG l_715 dX7_nearest_69 ?_
    obtain rfl := Option.some.inj h
    exact FinJ.z hK dX7_nearest_72
  · replace h := it_n hc h
    refine aw_lconst (v := 0) hG dX7_nearest_52 rfl ?_
    obtain rfl := Option.some.inj h
    exact FinJ.z hK dX7_nearest_53
noncomputable def f_X7_nearest (x1 : Int32) (x2 : Int64) (x4 : Int32) (x5 : Int32) (m : MS) : Option (Int64 × MS) :=
  if (f_X7_in x1.toInt64 0 3) = 0 then
    f_X7_nearest_J46 x1 x2 x4 x5 0 m
  else
    if (f_X7_in x5.toInt64 0 4) = 0 then
      f_X7_nearest_J46 x1 x2 x4 x5 0 m
    else
      if (f_X7_in x4.toInt64 (-5000) 5000) = 0 then
        f_X7_nearest_J46 x1 x2 x4 x5 0 m
      else
        f_X7_nearest_J46 x1 x2 x4 x5 1 m
set_option maxRecDepth 20000 in
theorem w_X7_nearest {g : Cx} {mc ms : Nat} {c : CS} {m : MS} {z : Nat → Int64} {x1 : Int32} {x2 : Int64} {x4 : Int32} {x5 : Int32} {s : (Int64 × MS)}  (hG : Gd g RX7 cX7_nearest 6 7 mc ms) (h : f_X7_nearest x1 x2 x4 x5 m = some s) (hK : FinJ g cX7_nearest mc ms s.1 (c, s.2, z)) : AW g 0 [(0, .ref (wad (cxw g) 17)), (1, .int x1), (2, .long x2), (4, .int x4), (5, .int x5)] [] (c, m, z) 0 0 := by
  unfold f_X7_nearest at h
  refine aw_aload_n hG 0 rfl dX7_nearest_0 rfl ?_
  refine aw_iload_n hG 1 rfl dX7_nearest_1 rfl ?_
  refine aw_i2l hG dX7_nearest_2 ?_
  refine aw_lconst (v := 0) hG dX7_nearest_3 rfl ?_
  refine aw_ldc2 hG l_625 dX7_nearest_4 ?_
  refine aw_callSi (As := [.long x1.toInt64, .long 0, .long 3]) (rest := [.ref (wad (cxw g) 17)]) hG (c_X7_in (x0 := x1.toInt64) (x2 := 0) (x4 := 3) (m := m) ) l_626 ws_X7_in rfl rfl rfl (by decide) (Nat.zero_le _) (Nat.zero_le _) (Nat.le_of_ble_eq_true rfl) dX7_nearest_7 ?_
  refine aw_if_eq (t := 45) hG dX7_nearest_10 rfl (fun hc => ?_) (fun hc => ?_)
  · replace h := it_p hc h
    refine aw_iconst (v := 0) hG dX7_nearest_45 rfl ?_
    exact w_X7_nearest_J46 (x1 := x1) (x2 := x2) (x4 := x4) (x5 := x5) (s0 := 0) (m := m) hG h hK
  · replace h := it_n hc h
    refine aw_iload hG 4 rfl dX7_nearest_13 ?_
    refine aw_i2l hG dX7_nearest_15 ?_
    refine aw_lconst (v := 0) hG dX7_nearest_16 rfl ?_
    refine aw_ldc2 hG l_781 dX7_nearest_17 ?_
    refine aw_callSi (As := [.long x5.toInt64, .long 0, .long 4]) (rest := [.ref (wad (cxw g) 17)]) hG (c_X7_in (x0 := x5.toInt64) (x2 := 0) (x4 := 4) (m := m) ) l_626 ws_X7_in rfl rfl rfl (by decide) (Nat.zero_le _) (Nat.zero_le _) (Nat.le_of_ble_eq_true rfl) dX7_nearest_20 ?_
    refine aw_if_eq (t := 45) hG dX7_nearest_23 rfl (fun hc => ?_) (fun hc => ?_)
    · replace h := it_p hc h
      refine aw_iconst (v := 0) hG dX7_nearest_45 rfl ?_
      exact w_X7_nearest_J46 (x1 := x1) (x2 := x2) (x4 := x4) (x5 := x5) (s0 := 0) (m := m) hG h hK
    · replace h := it_n hc h
      refine aw_iload hG 3 rfl dX7_nearest_26 ?_
      refine aw_i2l hG dX7_nearest_28 ?_
      refine aw_ldc2 hG l_902 dX7_nearest_29 ?_
      refine aw_ldc2 hG l_903 dX7_nearest_32 ?_
      refine aw_callSi (As := [.long x4.toInt64, .long (-5000), .long 5000]) (rest := [.ref (wad (cxw g) 17)]) hG (c_X7_in (x0 := x4.toInt64) (x2 := (-5000)) (x4 := 5000) (m := m) ) l_626 ws_X7_in rfl rfl rfl (by decide) (Nat.zero_le _) (Nat.zero_le _) (Nat.le_of_ble_eq_true rfl) dX7_nearest_35 ?_
      refine aw_if_eq (t := 45) hG dX7_nearest_38 rfl (fun hc => ?_) (fun hc => ?_)
      · replace h := it_p hc h
        refine aw_iconst (v := 0) hG dX7_nearest_45 rfl ?_
        exact w_X7_nearest_J46 (x1 := x1) (x2 := x2) (x4 := x4) (x5 := x5) (s0 := 0) (m := m) hG h hK
      · replace h := it_n hc h
        refine aw_iconst (v := 1) hG dX7_nearest_41 rfl ?_
        refine aw_goto (t := 46) hG dX7_nearest_42 rfl ?_
        exact w_X7_nearest_J46 (x1 := x1) (x2 := x2) (x4 := x4) (x5 := x5) (s0 := 1) (m := m) hG h hK
theorem c_X7_nearest {c : CS} {m : MS} {z : Nat → Int64} {x1 : Int32} {x2 : Int64} {x4 : Int32} {x5 : Int32} {s : Int64 × MS}  (h : f_X7_nearest x1 x2 x4 x5 m = some s) : Ct yX7_nearest cX7_nearest 6 (some .long) 7 (fun w => [.ref (wad w 17), .int x1, .long x2, .int x4, .int x5]) (c, m, z) (fun _ => some (.long s.1)) (c, s.2, z) := Ct_ofJ (by decide +kernel) (fun _ => Nat.le_of_ble_eq_true rfl) (fun g hG hK => w_X7_nearest hG h hK)
noncomputable def f_X7_power_J71 (x4 : Int32) (x5 : Int32) (s0 : Int32) (s1 : Int32) (m : MS) : Option (Int64 × MS) :=
  Option.bind (f_X7_roundBinary s1 s0 x4.toInt64 x5 m) fun v_3 =>
  lt (f_X7_keep v_3) fun v_4 =>
  some (mJ v_4 0, v_4)
set_option maxRecDepth 20000 in
theorem w_X7_power_J71 {g : Cx} {mc ms : Nat} {c : CS} {m : MS} {z : Nat → Int64} {x4 : Int32} {x5 : Int32} {s0 : Int32} {s1 : Int32} {s : (Int64 × MS)}  (hG : Gd g RX7 cX7_power 6 6 mc ms) (h : f_X7_power_J71 x4 x5 s0 s1 m = some s) (hK : FinJ g cX7_power mc ms s.1 (c, s.2, z)) : AW g 71 [(0, .ref (wad (cxw g) 17)), (4, .int x4), (5, .int x5)] [.int s0, .int s1, .ref (wad (cxw g) 17)] (c, m, z) 0 0 := by
  unfold f_X7_power_J71 at h
  refine aw_iload hG 1 rfl dX7_power_71 ?_
  refine aw_i2l hG dX7_power_73 ?_
  refine aw_iload hG 2 rfl dX7_power_74 ?_
  obtain ⟨v_3, hv_3, h⟩ := bd_o h
  refine aw_callVv (As := [.int s1, .int s0, .long x4.toInt64, .int x5]) (rest := []) hG (c_X7_roundBinary (x1 := s1) (x2 := s0) (x3 := x4.toInt64) (x5 := x5) (m := m)  hv_3) l_782 wv_X7_roundBinary (rv_X7 hG) rfl rfl rfl (by decide) (Nat.zero_le _) (Nat.zero_le _) (Nat.le_of_ble_eq_true rfl) dX7_power_76 ?_
  refine aw_aload_n hG 0 rfl dX7_power_79 rfl ?_
  obtain ⟨v_4, hv_4⟩ : ∃ y, y = f_X7_keep v_3 := ⟨_, rfl⟩
  replace h := lt_r hv_4 h
  refine aw_callVv (As := []) (rest := []) hG (c_X7_keep (m := v_3)  hv_4.symm) l_761 wv_X7_keep (rv_X7 hG) rfl rfl rfl (by decide) (Nat.zero_le _) (Nat.zero_le _) (Nat.le_of_ble_eq_true rfl) dX7_power_80 ?_
  refine aw_aload_n hG 0 rfl dX7_power_83 rfl ?_
  refine gt_m_result hG l_715 dX7_power_84 ?_
  obtain rfl := Option.some.inj h
  exact FinJ.z hK dX7_power_87
noncomputable def f_X7_power_J55 (x1 : Int32) (x2 : Int64) (x4 : Int32) (x5 : Int32) (s0 : Int64) (q1 : Nat) (m : MS) : Option (Int64 × MS) :=
  Option.bind (f_X7_set q1 s0 m) fun v_2 =>
  if 0 ≤ x2 then
    f_X7_power_J71 x4 x5 0 x1 v_2
  else
    f_X7_power_J71 x4 x5 1 x1 v_2
set_option maxRecDepth 20000 in
theorem w_X7_power_J55 {g : Cx} {mc ms : Nat} {c : CS} {m : MS} {z : Nat → Int64} {x1 : Int32} {x2 : Int64} {x4 : Int32} {x5 : Int32} {s0 : Int64} {q1 : Nat} {s : (Int64 × MS)} (hq1 : q1 < 8) (hG : Gd g RX7 cX7_power 6 6 mc ms) (h : f_X7_power_J55 x1 x2 x4 x5 s0 q1 m = some s) (hK : FinJ g cX7_power mc ms s.1 (c, s.2, z)) : AW g 55 [(0, .ref (wad (cxw g) 17)), (1, .int x1), (2, .long x2), (4, .int x4), (5, .int x5)] [.long s0, .ref (wad (cxw g) (18 + q1))] (c, m, z) 0 0 := by
  unfold f_X7_power_J55 at h
  obtain ⟨v_2, hv_2, h⟩ := bd_o h
  refine aw_callSv (As := [.ref (wad (cxw g) (18 + q1)), .long s0]) (rest := []) hG (c_X7_set (j0 := q1) (x1 := s0) (m := m) hq1 hv_2) l_700 ws_X7_set rfl rfl rfl (by decide) (Nat.zero_le _) (Nat.zero_le _) (Nat.le_of_ble_eq_true rfl) dX7_power_55 ?_
  refine aw_aload_n hG 0 rfl dX7_power_58 rfl ?_
  refine aw_iload_n hG 1 rfl dX7_power_59 rfl ?_
  refine aw_lload_n hG 2 rfl dX7_power_60 rfl ?_
  refine aw_lconst (v := 0) hG dX7_power_61 rfl ?_
  refine aw_lc_ge (t := 70) hG dX7_power_62 rfl dX7_power_63 rfl rfl (fun hc => ?_) (fun hc => ?_)
  · replace h := it_p hc h
    refine aw_iconst (v := 0) hG dX7_power_70 rfl ?_
    refine aw_sub (L' := [(0, .ref (wad (cxw g) 17)), (4, .int x4), (5, .int x5)]) [0, 3, 4] rfl ?_
    exact w_X7_power_J71 (x4 := x4) (x5 := x5) (s0 := 0) (s1 := x1) (m := v_2) hG h hK
  · replace h := it_n hc h
    refine aw_iconst (v := 1) hG dX7_power_66 rfl ?_
    refine aw_goto (t := 71) hG dX7_power_67 rfl ?_
    refine aw_sub (L' := [(0, .ref (wad (cxw g) 17)), (4, .int x4), (5, .int x5)]) [0, 3, 4] rfl ?_
    exact w_X7_power_J71 (x4 := x4) (x5 := x5) (s0 := 1) (s1 := x1) (m := v_2) hG h hK
noncomputable def f_X7_power_J31 (x1 : Int32) (x2 : Int64) (x4 : Int32) (x5 : Int32) (s0 : Int32) (m : MS) : Option (Int64 × MS) :=
  lt (f_X7_refuses s0 m) fun v_1 =>
  if v_1.1 = 0 then
    if 0 ≤ x2 then
      f_X7_power_J55 x1 x2 x4 x5 x2 3 v_1.2
    else
      f_X7_power_J55 x1 x2 x4 x5 (-x2) 3 v_1.2
  else
    some (0, v_1.2)
set_option maxRecDepth 20000 in
theorem w_X7_power_J31 {g : Cx} {mc ms : Nat} {c : CS} {m : MS} {z : Nat → Int64} {x1 : Int32} {x2 : Int64} {x4 : Int32} {x5 : Int32} {s0 : Int32} {s : (Int64 × MS)}  (hG : Gd g RX7 cX7_power 6 6 mc ms) (h : f_X7_power_J31 x1 x2 x4 x5 s0 m = some s) (hK : FinJ g cX7_power mc ms s.1 (c, s.2, z)) : AW g 31 [(0, .ref (wad (cxw g) 17)), (1, .int x1), (2, .long x2), (4, .int x4), (5, .int x5)] [.int s0, .ref (wad (cxw g) 17)] (c, m, z) 0 0 := by
  unfold f_X7_power_J31 at h
  obtain ⟨v_1, hv_1⟩ : ∃ y, y = f_X7_refuses s0 m := ⟨_, rfl⟩
  replace h := lt_r hv_1 h
  refine aw_callVi (As := [.int s0]) (rest := []) hG (c_X7_refuses (x1 := s0) (m := m)  hv_1.symm) l_718 wv_X7_refuses (rv_X7 hG) rfl rfl rfl (by decide) (Nat.zero_le _) (Nat.zero_le _) (Nat.le_of_ble_eq_true rfl) dX7_power_31 ?_
  refine aw_if_eq (t := 39) hG dX7_power_34 rfl (fun hc => ?_) (fun hc => ?_)
  · replace h := it_p hc h
    refine aw_aload_n hG 0 rfl dX7_power_39 rfl ?_
    refine gt_m_a hG l_659 dX7_power_40 ?_
    refine aw_lload_n hG 2 rfl dX7_power_43 rfl ?_
    refine aw_lconst (v := 0) hG dX7_power_44 rfl ?_
    refine aw_lc_ge (t := 54) hG dX7_power_45 rfl dX7_power_46 rfl rfl (fun hc => ?_) (fun hc => ?_)
    · replace h := it_p hc h
      refine aw_lload_n hG 2 rfl dX7_power_54 rfl ?_
      exact w_X7_power_J55 (x1 := x1) (x2 := x2) (x4 := x4) (x5 := x5) (s0 := x2) (q1 := 3) (m := v_1.2) (by decide) hG h hK
    · replace h := it_n hc h
      refine aw_lload_n hG 2 rfl dX7_power_49 rfl ?_
      refine aw_lneg hG dX7_power_50 ?_
      refine aw_goto (t := 55) hG dX7_power_51 rfl ?_
      exact w_X7_power_J55 (x1 := x1) (x2 := x2) (x4 := x4) (x5 := x5) (s0 := -x2) (q1 := 3) (m := v_1.2) (by decide) hG h hK
  · replace h := it_n hc h
    refine aw_lconst (v := 0) hG dX7_power_37 rfl ?_
    obtain rfl := Option.some.inj h
    exact FinJ.z hK dX7_power_38
noncomputable def f_X7_power (x1 : Int32) (x2 : Int64) (x4 : Int32) (x5 : Int32) (m : MS) : Option (Int64 × MS) :=
  if (f_X7_in x1.toInt64 0 3) = 0 then
    f_X7_power_J31 x1 x2 x4 x5 0 m
  else
    if (f_X7_in x5.toInt64 0 4) = 0 then
      f_X7_power_J31 x1 x2 x4 x5 0 m
    else
      f_X7_power_J31 x1 x2 x4 x5 1 m
set_option maxRecDepth 20000 in
theorem w_X7_power {g : Cx} {mc ms : Nat} {c : CS} {m : MS} {z : Nat → Int64} {x1 : Int32} {x2 : Int64} {x4 : Int32} {x5 : Int32} {s : (Int64 × MS)}  (hG : Gd g RX7 cX7_power 6 6 mc ms) (h : f_X7_power x1 x2 x4 x5 m = some s) (hK : FinJ g cX7_power mc ms s.1 (c, s.2, z)) : AW g 0 [(0, .ref (wad (cxw g) 17)), (1, .int x1), (2, .long x2), (4, .int x4), (5, .int x5)] [] (c, m, z) 0 0 := by
  unfold f_X7_power at h
  refine aw_aload_n hG 0 rfl dX7_power_0 rfl ?_
  refine aw_iload_n hG 1 rfl dX7_power_1 rfl ?_
  refine aw_i2l hG dX7_power_2 ?_
  refine aw_lconst (v := 0) hG dX7_power_3 rfl ?_
  refine aw_ldc2 hG l_625 dX7_power_4 ?_
  refine aw_callSi (As := [.long x1.toInt64, .long 0, .long 3]) (rest := [.ref (wad (cxw g) 17)]) hG (c_X7_in (x0 := x1.toInt64) (x2 := 0) (x4 := 3) (m := m) ) l_626 ws_X7_in rfl rfl rfl (by decide) (Nat.zero_le _) (Nat.zero_le _) (Nat.le_of_ble_eq_true rfl) dX7_power_7 ?_
  refine aw_if_eq (t := 30) hG dX7_power_10 rfl (fun hc => ?_) (fun hc => ?_)
  · replace h := it_p hc h
    refine aw_iconst (v := 0) hG dX7_power_30 rfl ?_
    exact w_X7_power_J31 (x1 := x1) (x2 := x2) (x4 := x4) (x5 := x5) (s0 := 0) (m := m) hG h hK
  · replace h := it_n hc h
    refine aw_iload hG 4 rfl dX7_power_13 ?_
    refine aw_i2l hG dX7_power_15 ?_
    refine aw_lconst (v := 0) hG dX7_power_16 rfl ?_
    refine aw_ldc2 hG l_781 dX7_power_17 ?_
    refine aw_callSi (As := [.long x5.toInt64, .long 0, .long 4]) (rest := [.ref (wad (cxw g) 17)]) hG (c_X7_in (x0 := x5.toInt64) (x2 := 0) (x4 := 4) (m := m) ) l_626 ws_X7_in rfl rfl rfl (by decide) (Nat.zero_le _) (Nat.zero_le _) (Nat.le_of_ble_eq_true rfl) dX7_power_20 ?_
    refine aw_if_eq (t := 30) hG dX7_power_23 rfl (fun hc => ?_) (fun hc => ?_)
    · replace h := it_p hc h
      refine aw_iconst (v := 0) hG dX7_power_30 rfl ?_
      exact w_X7_power_J31 (x1 := x1) (x2 := x2) (x4 := x4) (x5 := x5) (s0 := 0) (m := m) hG h hK
    · replace h := it_n hc h
      refine aw_iconst (v := 1) hG dX7_power_26 rfl ?_
      refine aw_goto (t := 31) hG dX7_power_27 rfl ?_
      exact w_X7_power_J31 (x1 := x1) (x2 := x2) (x4 := x4) (x5 := x5) (s0 := 1) (m := m) hG h hK
theorem c_X7_power {c : CS} {m : MS} {z : Nat → Int64} {x1 : Int32} {x2 : Int64} {x4 : Int32} {x5 : Int32} {s : Int64 × MS}  (h : f_X7_power x1 x2 x4 x5 m = some s) : Ct yX7_power cX7_power 6 (some .long) 6 (fun w => [.ref (wad w 17), .int x1, .long x2, .int x4, .int x5]) (c, m, z) (fun _ => some (.long s.1)) (c, s.2, z) := Ct_ofJ (by decide +kernel) (fun _ => Nat.le_of_ble_eq_true rfl) (fun g hG hK => w_X7_power hG h hK)
def f_X7_convert_J206 (m : MS) : Option (Int64 × MS) :=
  lt (f_X7_keep m) fun v_5 =>
  some (mJ v_5 0, v_5)
set_option maxRecDepth 20000 in
theorem w_X7_convert_J206 {g : Cx} {mc ms : Nat} {c : CS} {m : MS} {z : Nat → Int64}  {s : (Int64 × MS)}  (hG : Gd g RX7 cX7_convert 11 6 mc ms) (h : f_X7_convert_J206 m = some s) (hK : FinJ g cX7_convert mc ms s.1 (c, s.2, z)) : AW g 206 [(0, .ref (wad (cxw g) 17))] [] (c, m, z) 0 0 := by
  unfold f_X7_convert_J206 at h
  refine aw_aload_n hG 0 rfl dX7_convert_206 rfl ?_
  obtain ⟨v_5, hv_5⟩ : ∃ y, y = f_X7_keep m := ⟨_, rfl⟩
  replace h := lt_r hv_5 h
  refine aw_callVv (As := []) (rest := []) hG (c_X7_keep (m := m)  hv_5.symm) l_761 wv_X7_keep (rv_X7 hG) rfl rfl rfl (by decide) (Nat.zero_le _) (Nat.zero_le _) (Nat.le_of_ble_eq_true rfl) dX7_convert_207 ?_
  refine aw_aload_n hG 0 rfl dX7_convert_210 rfl ?_
  refine gt_m_result hG l_715 dX7_convert_211 ?_
  obtain rfl := Option.some.inj h
  exact FinJ.z hK dX7_convert_214
def f_X7_convert_J122 (x1 : Int32) (x2 : Int64) (x4 : Int32) (s0 : Int64) (s1 : Int64) (m : MS) : Option (Int64 × MS) :=
  lt (smJ m 2 (s1 ||| s0)) fun m_3 =>
  lt (smI m_3 11 0) fun m_4 =>
  if (f_X7_isNan x1 x2) = 0 then
    f_X7_convert_J206 m_4
  else
    lt (f_X7_precision x1) fun x7_6 =>
    lt (f_X7_precision x4) fun x8_7 =>
    lt (x2 &&& ((jshl 1 (x7_6 - 2)) - 1)) fun x9_8 =>
    if x8_7 < x7_6 then
      lt (smJ m_4 2 ((mJ m_4 2) ||| ((jshl 1 (x8_7 - 2)) ||| (jshr x9_8 (x7_6 - x8_7))))) fun m_9 =>
      f_X7_convert_J206 m_9
    else
      lt (smJ m_4 2 ((mJ m_4 2) ||| ((jshl 1 (x8_7 - 2)) ||| (jshl x9_8 (x8_7 - x7_6))))) fun m_10 =>
      f_X7_convert_J206 m_10
set_option maxRecDepth 20000 in
theorem w_X7_convert_J122 {g : Cx} {mc ms : Nat} {c : CS} {m : MS} {z : Nat → Int64} {x1 : Int32} {x2 : Int64} {x4 : Int32} {s0 : Int64} {s1 : Int64} {s : (Int64 × MS)}  (hG : Gd g RX7 cX7_convert 11 6 mc ms) (h : f_X7_convert_J122 x1 x2 x4 s0 s1 m = some s) (hK : FinJ g cX7_convert mc ms s.1 (c, s.2, z)) : AW g 122 [(0, .ref (wad (cxw g) 17)), (1, .int x1), (2, .long x2), (4, .int x4)] [.long s0, .long s1, .ref (wad (cxw g) 17)] (c, m, z) 0 0 := by
  unfold f_X7_convert_J122 at h
  refine aw_lor hG dX7_convert_122 ?_
  refine pt_m_rounded hG l_678 dX7_convert_123 ?_
  refine aw_stm (fun m_3 hm_3 => ?_)
  replace h := lt_r hm_3 h
  refine aw_aload_n hG 0 rfl dX7_convert_126 rfl ?_
  refine aw_iconst (v := 0) hG dX7_convert_127 rfl ?_
  refine pt_m_noted hG l_679 dX7_convert_128 ?_
  refine aw_stm (fun m_4 hm_4 => ?_)
  replace h := lt_r hm_4 h
  refine aw_iload_n hG 1 rfl dX7_convert_131 rfl ?_
  refine aw_lload_n hG 2 rfl dX7_convert_132 rfl ?_
  refine aw_callSi (As := [.int x1, .long x2]) (rest := []) hG (c_X7_isNan (x0 := x1) (x1 := x2) (m := m_4) ) l_821 ws_X7_isNan rfl rfl rfl (by decide) (Nat.zero_le _) (Nat.zero_le _) (Nat.le_of_ble_eq_true rfl) dX7_convert_133 ?_
  refine aw_if_eq (t := 206) hG dX7_convert_136 rfl (fun hc => ?_) (fun hc => ?_)
  · replace h := it_p hc h
    refine aw_sub (L' := [(0, .ref (wad (cxw g) 17))]) [0] rfl ?_
    exact w_X7_convert_J206 (m := m_4) hG h hK
  · replace h := it_n hc h
    refine aw_iload_n hG 1 rfl dX7_convert_139 rfl ?_
    refine aw_callSi (As := [.int x1]) (rest := []) hG (c_X7_precision (x0 := x1) (m := m_4) ) l_616 ws_X7_precision rfl rfl rfl (by decide) (Nat.zero_le _) (Nat.zero_le _) (Nat.le_of_ble_eq_true rfl) dX7_convert_140 ?_
    refine aw_topi (fun x7_6 hx7_6 => ?_)
    replace h := lt_r hx7_6 h
    refine aw_istore (L' := [(7, .int x7_6), (0, .ref (wad (cxw g) 17)), (1, .int x1), (2, .long x2), (4, .int x4)]) hG dX7_convert_143 (by decide) rfl ?_
    refine aw_iload hG 4 rfl dX7_convert_145 ?_
    refine aw_callSi (As := [.int x4]) (rest := []) hG (c_X7_precision (x0 := x4) (m := m_4) ) l_616 ws_X7_precision rfl rfl rfl (by decide) (Nat.zero_le _) (Nat.zero_le _) (Nat.le_of_ble_eq_true rfl) dX7_convert_147 ?_
    refine aw_topi (fun x8_7 hx8_7 => ?_)
    replace h := lt_r hx8_7 h
    refine aw_istore (L' := [(8, .int x8_7), (7, .int x7_6), (0, .ref (wad (cxw g) 17)), (1, .int x1), (2, .long x2), (4, .int x4)]) hG dX7_convert_150 (by decide) rfl ?_
    refine aw_lload_n hG 4 rfl dX7_convert_152 rfl ?_
    refine aw_lconst (v := 1) hG dX7_convert_153 rfl ?_
    refine aw_iload hG 1 rfl dX7_convert_154 ?_
    refine aw_iconst (v := 2) hG dX7_convert_156 rfl ?_
    refine aw_isub hG dX7_convert_157 ?_
    refine aw_lshlJ hG dX7_convert_158 ?_
    refine aw_lconst (v := 1) hG dX7_convert_159 rfl ?_
    refine aw_lsub hG dX7_convert_160 ?_
    refine aw_land hG dX7_convert_161 ?_
    refine aw_topl (fun x9_8 hx9_8 => ?_)
    replace h := lt_r hx9_8 h
    refine aw_lstore (L' := [(9, .long x9_8), (8, .int x8_7), (7, .int x7_6), (0, .ref (wad (cxw g) 17)), (1, .int x1), (2, .long x2), (4, .int x4)]) hG dX7_convert_162 (by decide) rfl ?_
    refine aw_aload_n hG 3 rfl dX7_convert_164 rfl ?_
    refine aw_dup hG dX7_convert_165 rfl ?_
    refine gt_m_rounded hG l_678 dX7_convert_166 ?_
    refine aw_lconst (v := 1) hG dX7_convert_169 rfl ?_
    refine aw_iload hG 1 rfl dX7_convert_170 ?_
    refine aw_iconst (v := 2) hG dX7_convert_172 rfl ?_
    refine aw_isub hG dX7_convert_173 ?_
    refine aw_lshlJ hG dX7_convert_174 ?_
    refine aw_iload hG 1 rfl dX7_convert_175 ?_
    refine aw_iload hG 2 rfl dX7_convert_177 ?_
    refine aw_icmp_lt (t := 193) hG dX7_convert_179 rfl (fun hc => ?_) (fun hc => ?_)
    · replace h := it_p hc h
      refine aw_lload hG 0 rfl dX7_convert_193 ?_
      refine aw_iload hG 2 rfl dX7_convert_195 ?_
      refine aw_iload hG 1 rfl dX7_convert_197 ?_
      refine aw_isub hG dX7_convert_199 ?_
      refine aw_lshrJ hG dX7_convert_200 ?_
      refine aw_lor hG dX7_convert_201 ?_
      refine aw_lor hG dX7_convert_202 ?_
      refine pt_m_rounded hG l_678 dX7_convert_203 ?_
      refine aw_stm (fun m_9 hm_9 => ?_)
      replace h := lt_r hm_9 h
      refine aw_sub (L' := [(0, .ref (wad (cxw g) 17))]) [3] rfl ?_
      exact w_X7_convert_J206 (m := m_9) hG h hK
    · replace h := it_n hc h
      refine aw_lload hG 0 rfl dX7_convert_182 ?_
      refine aw_iload hG 1 rfl dX7_convert_184 ?_
      refine aw_iload hG 2 rfl dX7_convert_186 ?_
      refine aw_isub hG dX7_convert_188 ?_
      refine aw_lshlJ hG dX7_convert_189 ?_
      refine aw_goto (t := 201) hG dX7_convert_190 rfl ?_
      refine aw_lor hG dX7_convert_201 ?_
      refine aw_lor hG dX7_convert_202 ?_
      refine pt_m_rounded hG l_678 dX7_convert_203 ?_
      refine aw_stm (fun m_10 hm_10 => ?_)
      replace h := lt_r hm_10 h
      refine aw_sub (L' := [(0, .ref (wad (cxw g) 17))]) [3] rfl ?_
      exact w_X7_convert_J206 (m := m_10) hG h hK
noncomputable def f_X7_convert_J40 (x1 : Int32) (x2 : Int64) (x4 : Int32) (x5 : Int32) (s0 : Int32) (m : MS) : Option (Int64 × MS) :=
  lt (f_X7_refuses s0 m) fun v_1 =>
  if v_1.1 = 0 then
    lt (f_X7_isMinus x1 x2) fun x6_2 =>
    if (f_X7_isFinite x1 x2) = 0 then
      if x6_2 = 0 then
        f_X7_convert_J122 x1 x2 x4 0 (f_X7_infinite x4) v_1.2
      else
        f_X7_convert_J122 x1 x2 x4 (f_X7_signBit x4) (f_X7_infinite x4) v_1.2
    else
      lt (f_X7_split x1 (f_X7_sizeOf x1 x2) v_1.2) fun v_14 =>
      Option.bind (f_X7_set 3 (mJ v_14 1) v_14) fun v_15 =>
      Option.bind (f_X7_roundBinary x4 x6_2 ((mI v_15 7).toInt64) x5 v_15) fun v_16 =>
      f_X7_convert_J206 v_16
  else
    some (0, v_1.2)
set_option maxRecDepth 20000 in
theorem w_X7_convert_J40 {g : Cx} {mc ms : Nat} {c : CS} {m : MS} {z : Nat → Int64} {x1 : Int32} {x2 : Int64} {x4 : Int32} {x5 : Int32} {s0 : Int32} {s : (Int64 × MS)}  (hG : Gd g RX7 cX7_convert 11 6 mc ms) (h : f_X7_convert_J40 x1 x2 x4 x5 s0 m = some s) (hK : FinJ g cX7_convert mc ms s.1 (c, s.2, z)) : AW g 40 [(0, .ref (wad (cxw g) 17)), (1, .int x1), (2, .long x2), (4, .int x4), (5, .int x5)] [.int s0, .ref (wad (cxw g) 17)] (c, m, z) 0 0 := by
  unfold f_X7_convert_J40 at h
  obtain ⟨v_1, hv_1⟩ : ∃ y, y = f_X7_refuses s0 m := ⟨_, rfl⟩
  replace h := lt_r hv_1 h
  refine aw_callVi (As := [.int s0]) (rest := []) hG (c_X7_refuses (x1 := s0) (m := m)  hv_1.symm) l_718 wv_X7_refuses (rv_X7 hG) rfl rfl rfl (by decide) (Nat.zero_le _) (Nat.zero_le _) (Nat.le_of_ble_eq_true rfl) dX7_convert_40 ?_
  refine aw_if_eq (t := 48) hG dX7_convert_43 rfl (fun hc => ?_) (fun hc => ?_)
  · replace h := it_p hc h
    refine aw_iload_n hG 1 rfl dX7_convert_48 rfl ?_
    refine aw_lload_n hG 2 rfl dX7_convert_49 rfl ?_
    refine aw_callSi (As := [.int x1, .long x2]) (rest := []) hG (c_X7_isMinus (x0 := x1) (x1 := x2) (m := v_1.2) ) l_813 ws_X7_isMinus rfl rfl rfl (by decide) (Nat.zero_le _) (Nat.zero_le _) (Nat.le_of_ble_eq_true rfl) dX7_convert_50 ?_
    refine aw_topi (fun x6_2 hx6_2 => ?_)
    replace h := lt_r hx6_2 h
    refine aw_istore (L' := [(6, .int x6_2), (0, .ref (wad (cxw g) 17)), (1, .int x1), (2, .long x2), (4, .int x4), (5, .int x5)]) hG dX7_convert_53 (by decide) rfl ?_
    refine aw_iload_n hG 2 rfl dX7_convert_55 rfl ?_
    refine aw_lload_n hG 3 rfl dX7_convert_56 rfl ?_
    refine aw_callSi (As := [.int x1, .long x2]) (rest := []) hG (c_X7_isFinite (x0 := x1) (x1 := x2) (m := v_1.2) ) l_817 ws_X7_isFinite rfl rfl rfl (by decide) (Nat.zero_le _) (Nat.zero_le _) (Nat.le_of_ble_eq_true rfl) dX7_convert_57 ?_
    refine aw_if_eq (t := 102) hG dX7_convert_60 rfl (fun hc => ?_) (fun hc => ?_)
    · replace h := it_p hc h
      refine aw_aload_n hG 1 rfl dX7_convert_102 rfl ?_
      refine aw_iload hG 4 rfl dX7_convert_103 ?_
      refine aw_callSl (As := [.int x4]) (rest := [.ref (wad (cxw g) 17)]) hG (c_X7_infinite (x0 := x4) (m := v_1.2) ) l_638 ws_X7_infinite rfl rfl rfl (by decide) (Nat.zero_le _) (Nat.zero_le _) (Nat.le_of_ble_eq_true rfl) dX7_convert_105 ?_
      refine aw_iload hG 0 rfl dX7_convert_108 ?_
      refine aw_if_eq (t := 121) hG dX7_convert_110 rfl (fun hc => ?_) (fun hc => ?_)
      · replace h := it_p hc h
        refine aw_lconst (v := 0) hG dX7_convert_121 rfl ?_
        refine aw_sub (L' := [(0, .ref (wad (cxw g) 17)), (1, .int x1), (2, .long x2), (4, .int x4)]) [1, 2, 3, 4] rfl ?_
        exact w_X7_convert_J122 (x1 := x1) (x2 := x2) (x4 := x4) (s0 := 0) (s1 := f_X7_infinite x4) (m := v_1.2) hG h hK
      · replace h := it_n hc h
        refine aw_iload hG 4 rfl dX7_convert_113 ?_
        refine aw_callSl (As := [.int x4]) (rest := [.long (f_X7_infinite x4), .ref (wad (cxw g) 17)]) hG (c_X7_signBit (x0 := x4) (m := v_1.2) ) l_630 ws_X7_signBit rfl rfl rfl (by decide) (Nat.zero_le _) (Nat.zero_le _) (Nat.le_of_ble_eq_true rfl) dX7_convert_115 ?_
        refine aw_goto (t := 122) hG dX7_convert_118 rfl ?_
        refine aw_sub (L' := [(0, .ref (wad (cxw g) 17)), (1, .int x1), (2, .long x2), (4, .int x4)]) [1, 2, 3, 4] rfl ?_
        exact w_X7_convert_J122 (x1 := x1) (x2 := x2) (x4 := x4) (s0 := f_X7_signBit x4) (s1 := f_X7_infinite x4) (m := v_1.2) hG h hK
    · replace h := it_n hc h
      refine aw_aload_n hG 1 rfl dX7_convert_63 rfl ?_
      refine aw_iload_n hG 2 rfl dX7_convert_64 rfl ?_
      refine aw_iload_n hG 2 rfl dX7_convert_65 rfl ?_
      refine aw_lload_n hG 3 rfl dX7_convert_66 rfl ?_
      refine aw_callSl (As := [.int x1, .long x2]) (rest := [.int x1, .ref (wad (cxw g) 17)]) hG (c_X7_sizeOf (x0 := x1) (x1 := x2) (m := v_1.2) ) l_634 ws_X7_sizeOf rfl rfl rfl (by decide) (Nat.zero_le _) (Nat.zero_le _) (Nat.le_of_ble_eq_true rfl) dX7_convert_67 ?_
      obtain ⟨v_14, hv_14⟩ : ∃ y, y = f_X7_split x1 (f_X7_sizeOf x1 x2) v_1.2 := ⟨_, rfl⟩
      replace h := lt_r hv_14 h
      refine aw_callVv (As := [.int x1, .long (f_X7_sizeOf x1 x2)]) (rest := []) hG (c_X7_split (x1 := x1) (x2 := f_X7_sizeOf x1 x2) (m := v_1.2)  hv_14.symm) l_825 wv_X7_split (rv_X7 hG) rfl rfl rfl (by decide) (Nat.zero_le _) (Nat.zero_le _) (Nat.le_of_ble_eq_true rfl) dX7_convert_70 ?_
      refine aw_aload_n hG 1 rfl dX7_convert_73 rfl ?_
      refine gt_m_a hG l_659 dX7_convert_74 ?_
      refine aw_aload_n hG 1 rfl dX7_convert_77 rfl ?_
      refine gt_m_whole hG l_642 dX7_convert_78 ?_
      obtain ⟨v_15, hv_15, h⟩ := bd_o h
      refine aw_callSv (As := [.ref (wad (cxw g) (18 + 3)), .long (mJ v_14 1)]) (rest := []) hG (c_X7_set (j0 := 3) (x1 := mJ v_14 1) (m := v_14) (by decide) hv_15) l_700 ws_X7_set rfl rfl rfl (by decide) (Nat.zero_le _) (Nat.zero_le _) (Nat.le_of_ble_eq_true rfl) dX7_convert_81 ?_
      refine aw_aload_n hG 1 rfl dX7_convert_84 rfl ?_
      refine aw_iload hG 4 rfl dX7_convert_85 ?_
      refine aw_iload hG 0 rfl dX7_convert_87 ?_
      refine aw_aload_n hG 1 rfl dX7_convert_89 rfl ?_
      refine gt_m_power hG l_647 dX7_convert_90 ?_
      refine aw_i2l hG dX7_convert_93 ?_
      refine aw_iload hG 5 rfl dX7_convert_94 ?_
      obtain ⟨v_16, hv_16, h⟩ := bd_o h
      refine aw_callVv (As := [.int x4, .int x6_2, .long ((mI v_15 7).toInt64), .int x5]) (rest := []) hG (c_X7_roundBinary (x1 := x4) (x2 := x6_2) (x3 := (mI v_15 7).toInt64) (x5 := x5) (m := v_15)  hv_16) l_782 wv_X7_roundBinary (rv_X7 hG) rfl rfl rfl (by decide) (Nat.zero_le _) (Nat.zero_le _) (Nat.le_of_ble_eq_true rfl) dX7_convert_96 ?_
      refine aw_goto (t := 206) hG dX7_convert_99 rfl ?_
      refine aw_sub (L' := [(0, .ref (wad (cxw g) 17))]) [1] rfl ?_
      exact w_X7_convert_J206 (m := v_16) hG h hK
  · replace h := it_n hc h
    refine aw_lconst (v := 0) hG dX7_convert_46 rfl ?_
    obtain rfl := Option.some.inj h
    exact FinJ.z hK dX7_convert_47
noncomputable def f_X7_convert (x1 : Int32) (x2 : Int64) (x4 : Int32) (x5 : Int32) (m : MS) : Option (Int64 × MS) :=
  if (f_X7_isPattern x1 x2) = 0 then
    f_X7_convert_J40 x1 x2 x4 x5 0 m
  else
    if (f_X7_in x4.toInt64 0 3) = 0 then
      f_X7_convert_J40 x1 x2 x4 x5 0 m
    else
      if (f_X7_in x5.toInt64 0 4) = 0 then
        f_X7_convert_J40 x1 x2 x4 x5 0 m
      else
        f_X7_convert_J40 x1 x2 x4 x5 1 m
set_option maxRecDepth 20000 in
theorem w_X7_convert {g : Cx} {mc ms : Nat} {c : CS} {m : MS} {z : Nat → Int64} {x1 : Int32} {x2 : Int64} {x4 : Int32} {x5 : Int32} {s : (Int64 × MS)}  (hG : Gd g RX7 cX7_convert 11 6 mc ms) (h : f_X7_convert x1 x2 x4 x5 m = some s) (hK : FinJ g cX7_convert mc ms s.1 (c, s.2, z)) : AW g 0 [(0, .ref (wad (cxw g) 17)), (1, .int x1), (2, .long x2), (4, .int x4), (5, .int x5)] [] (c, m, z) 0 0 := by
  unfold f_X7_convert at h
  refine aw_aload_n hG 0 rfl dX7_convert_0 rfl ?_
  refine aw_iload_n hG 1 rfl dX7_convert_1 rfl ?_
  refine aw_lload_n hG 2 rfl dX7_convert_2 rfl ?_
  refine aw_callSi (As := [.int x1, .long x2]) (rest := [.ref (wad (cxw g) 17)]) hG (c_X7_isPattern (x0 := x1) (x1 := x2) (m := m) ) l_850 ws_X7_isPattern rfl rfl rfl (by decide) (Nat.zero_le _) (Nat.zero_le _) (Nat.le_of_ble_eq_true rfl) dX7_convert_3 ?_
  refine aw_if_eq (t := 39) hG dX7_convert_6 rfl (fun hc => ?_) (fun hc => ?_)
  · replace h := it_p hc h
    refine aw_iconst (v := 0) hG dX7_convert_39 rfl ?_
    exact w_X7_convert_J40 (x1 := x1) (x2 := x2) (x4 := x4) (x5 := x5) (s0 := 0) (m := m) hG h hK
  · replace h := it_n hc h
    refine aw_iload hG 3 rfl dX7_convert_9 ?_
    refine aw_i2l hG dX7_convert_11 ?_
    refine aw_lconst (v := 0) hG dX7_convert_12 rfl ?_
    refine aw_ldc2 hG l_625 dX7_convert_13 ?_
    refine aw_callSi (As := [.long x4.toInt64, .long 0, .long 3]) (rest := [.ref (wad (cxw g) 17)]) hG (c_X7_in (x0 := x4.toInt64) (x2 := 0) (x4 := 3) (m := m) ) l_626 ws_X7_in rfl rfl rfl (by decide) (Nat.zero_le _) (Nat.zero_le _) (Nat.le_of_ble_eq_true rfl) dX7_convert_16 ?_
    refine aw_if_eq (t := 39) hG dX7_convert_19 rfl (fun hc => ?_) (fun hc => ?_)
    · replace h := it_p hc h
      refine aw_iconst (v := 0) hG dX7_convert_39 rfl ?_
      exact w_X7_convert_J40 (x1 := x1) (x2 := x2) (x4 := x4) (x5 := x5) (s0 := 0) (m := m) hG h hK
    · replace h := it_n hc h
      refine aw_iload hG 4 rfl dX7_convert_22 ?_
      refine aw_i2l hG dX7_convert_24 ?_
      refine aw_lconst (v := 0) hG dX7_convert_25 rfl ?_
      refine aw_ldc2 hG l_781 dX7_convert_26 ?_
      refine aw_callSi (As := [.long x5.toInt64, .long 0, .long 4]) (rest := [.ref (wad (cxw g) 17)]) hG (c_X7_in (x0 := x5.toInt64) (x2 := 0) (x4 := 4) (m := m) ) l_626 ws_X7_in rfl rfl rfl (by decide) (Nat.zero_le _) (Nat.zero_le _) (Nat.le_of_ble_eq_true rfl) dX7_convert_29 ?_
      refine aw_if_eq (t := 39) hG dX7_convert_32 rfl (fun hc => ?_) (fun hc => ?_)
      · replace h := it_p hc h
        refine aw_iconst (v := 0) hG dX7_convert_39 rfl ?_
        exact w_X7_convert_J40 (x1 := x1) (x2 := x2) (x4 := x4) (x5 := x5) (s0 := 0) (m := m) hG h hK
      · replace h := it_n hc h
        refine aw_iconst (v := 1) hG dX7_convert_35 rfl ?_
        refine aw_goto (t := 40) hG dX7_convert_36 rfl ?_
        exact w_X7_convert_J40 (x1 := x1) (x2 := x2) (x4 := x4) (x5 := x5) (s0 := 1) (m := m) hG h hK
theorem c_X7_convert {c : CS} {m : MS} {z : Nat → Int64} {x1 : Int32} {x2 : Int64} {x4 : Int32} {x5 : Int32} {s : Int64 × MS}  (h : f_X7_convert x1 x2 x4 x5 m = some s) : Ct yX7_convert cX7_convert 11 (some .long) 6 (fun w => [.ref (wad w 17), .int x1, .long x2, .int x4, .int x5]) (c, m, z) (fun _ => some (.long s.1)) (c, s.2, z) := Ct_ofJ (by decide +kernel) (fun _ => Nat.le_of_ble_eq_true rfl) (fun g hG hK => w_X7_convert hG h hK)
def f_X7_next_J69 (x1 : Int32) (x2 : Int64) (x5 : Int64) (s0 : Int32) (m : MS) : Int64 × MS :=
  if s0 = 0 then
    (x2 - 1, m)
  else
    if x5 = (f_X7_infinite x1) then
      (x2, m)
    else
      (x2 + 1, m)
set_option maxRecDepth 20000 in
theorem w_X7_next_J69 {g : Cx} {mc ms : Nat} {c : CS} {m : MS} {z : Nat → Int64} {x1 : Int32} {x2 : Int64} {x5 : Int64} {s0 : Int32} {s : Int64 × MS}  (hG : Gd g RX7 cX7_next 8 5 mc ms) (h : f_X7_next_J69 x1 x2 x5 s0 m = s) (hK : FinJ g cX7_next mc ms s.1 (c, s.2, z)) : AW g 69 [(1, .int x1), (2, .long x2), (5, .long x5)] [.int s0] (c, m, z) 0 0 := by
  unfold f_X7_next_J69 at h
  refine aw_istore (L' := [(7, .int s0), (1, .int x1), (2, .long x2), (5, .long x5)]) hG dX7_next_69 (by decide) rfl ?_
  refine aw_iload hG 0 rfl dX7_next_71 ?_
  refine aw_if_eq (t := 96) hG dX7_next_73 rfl (fun hc => ?_) (fun hc => ?_)
  · replace h := it_p hc h
    refine aw_lload_n hG 2 rfl dX7_next_96 rfl ?_
    refine aw_lconst (v := 1) hG dX7_next_97 rfl ?_
    refine aw_lsub hG dX7_next_98 ?_
    subst h
    exact FinJ.z hK dX7_next_99
  · replace h := it_n hc h
    refine aw_lload hG 3 rfl dX7_next_76 ?_
    refine aw_iload_n hG 1 rfl dX7_next_78 rfl ?_
    refine aw_callSl (As := [.int x1]) (rest := [.long x5]) hG (c_X7_infinite (x0 := x1) (m := m) ) l_638 ws_X7_infinite rfl rfl rfl (by decide) (Nat.zero_le _) (Nat.zero_le _) (Nat.le_of_ble_eq_true rfl) dX7_next_79 ?_
    refine aw_lc_ne (t := 90) hG dX7_next_82 rfl dX7_next_83 rfl rfl (fun hc => ?_) (fun hc => ?_)
    · replace h := it_n hc h
      refine aw_lload_n hG 2 rfl dX7_next_90 rfl ?_
      refine aw_lconst (v := 1) hG dX7_next_91 rfl ?_
      refine aw_ladd hG dX7_next_92 ?_
      refine aw_goto (t := 99) hG dX7_next_93 rfl ?_
      subst h
      exact FinJ.z hK dX7_next_99
    · replace h := it_p hc h
      refine aw_lload_n hG 2 rfl dX7_next_86 rfl ?_
      refine aw_goto (t := 99) hG dX7_next_87 rfl ?_
      subst h
      exact FinJ.z hK dX7_next_99
def f_X7_next (x1 : Int32) (x2 : Int64) (x4 : Int32) (m : MS) : Int64 × MS :=
  lt (f_X7_refuses (f_X7_isPattern x1 x2) m) fun v_1 =>
  if v_1.1 = 0 then
    lt (f_X7_sizeOf x1 x2) fun x5_2 =>
    if (f_X7_isNan x1 x2) = 0 then
      if x5_2 = 0 then
        if x4 = 0 then
          ((f_X7_signBit x1) ||| 1, v_1.2)
        else
          (1, v_1.2)
      else
        if (f_X7_isMinus x1 x2) = x4 then
          f_X7_next_J69 x1 x2 x5_2 0 v_1.2
        else
          f_X7_next_J69 x1 x2 x5_2 1 v_1.2
    else
      (x2, v_1.2)
  else
    (0, v_1.2)
set_option maxRecDepth 20000 in
theorem w_X7_next {g : Cx} {mc ms : Nat} {c : CS} {m : MS} {z : Nat → Int64} {x1 : Int32} {x2 : Int64} {x4 : Int32} {s : Int64 × MS}  (hG : Gd g RX7 cX7_next 8 5 mc ms) (h : f_X7_next x1 x2 x4 m = s) (hK : FinJ g cX7_next mc ms s.1 (c, s.2, z)) : AW g 0 [(0, .ref (wad (cxw g) 17)), (1, .int x1), (2, .long x2), (4, .int x4)] [] (c, m, z) 0 0 := by
  unfold f_X7_next at h
  refine aw_aload_n hG 0 rfl dX7_next_0 rfl ?_
  refine aw_iload_n hG 1 rfl dX7_next_1 rfl ?_
  refine aw_lload_n hG 2 rfl dX7_next_2 rfl ?_
  refine aw_callSi (As := [.int x1, .long x2]) (rest := [.ref (wad (cxw g) 17)]) hG (c_X7_isPattern (x0 := x1) (x1 := x2) (m := m) ) l_850 ws_X7_isPattern rfl rfl rfl (by decide) (Nat.zero_le _) (Nat.zero_le _) (Nat.le_of_ble_eq_true rfl) dX7_next_3 ?_
  obtain ⟨v_1, hv_1⟩ : ∃ y, y = f_X7_refuses (f_X7_isPattern x1 x2) m := ⟨_, rfl⟩
  replace h := lt_r hv_1 h
  refine aw_callVi (As := [.int (f_X7_isPattern x1 x2)]) (rest := []) hG (c_X7_refuses (x1 := f_X7_isPattern x1 x2) (m := m)  hv_1.symm) l_718 wv_X7_refuses (rv_X7 hG) rfl rfl rfl (by decide) (Nat.zero_le _) (Nat.zero_le _) (Nat.le_of_ble_eq_true rfl) dX7_next_6 ?_
  refine aw_if_eq (t := 14) hG dX7_next_9 rfl (fun hc => ?_) (fun hc => ?_)
  · replace h := it_p hc h
    refine aw_iload_n hG 1 rfl dX7_next_14 rfl ?_
    refine aw_lload_n hG 2 rfl dX7_next_15 rfl ?_
    refine aw_callSl (As := [.int x1, .long x2]) (rest := []) hG (c_X7_sizeOf (x0 := x1) (x1 := x2) (m := v_1.2) ) l_634 ws_X7_sizeOf rfl rfl rfl (by decide) (Nat.zero_le _) (Nat.zero_le _) (Nat.le_of_ble_eq_true rfl) dX7_next_16 ?_
    refine aw_topl (fun x5_2 hx5_2 => ?_)
    replace h := lt_r hx5_2 h
    refine aw_lstore (L' := [(5, .long x5_2), (0, .ref (wad (cxw g) 17)), (1, .int x1), (2, .long x2), (4, .int x4)]) hG dX7_next_19 (by decide) rfl ?_
    refine aw_iload_n hG 2 rfl dX7_next_21 rfl ?_
    refine aw_lload_n hG 3 rfl dX7_next_22 rfl ?_
    refine aw_callSi (As := [.int x1, .long x2]) (rest := []) hG (c_X7_isNan (x0 := x1) (x1 := x2) (m := v_1.2) ) l_821 ws_X7_isNan rfl rfl rfl (by decide) (Nat.zero_le _) (Nat.zero_le _) (Nat.le_of_ble_eq_true rfl) dX7_next_23 ?_
    refine aw_if_eq (t := 31) hG dX7_next_26 rfl (fun hc => ?_) (fun hc => ?_)
    · replace h := it_p hc h
      refine aw_lload hG 0 rfl dX7_next_31 ?_
      refine aw_lconst (v := 0) hG dX7_next_33 rfl ?_
      refine aw_lc_ne (t := 54) hG dX7_next_34 rfl dX7_next_35 rfl rfl (fun hc => ?_) (fun hc => ?_)
      · replace h := it_n hc h
        refine aw_iload_n hG 2 rfl dX7_next_54 rfl ?_
        refine aw_lload_n hG 3 rfl dX7_next_55 rfl ?_
        refine aw_callSi (As := [.int x1, .long x2]) (rest := []) hG (c_X7_isMinus (x0 := x1) (x1 := x2) (m := v_1.2) ) l_813 ws_X7_isMinus rfl rfl rfl (by decide) (Nat.zero_le _) (Nat.zero_le _) (Nat.le_of_ble_eq_true rfl) dX7_next_56 ?_
        refine aw_iload hG 4 rfl dX7_next_59 ?_
        refine aw_icmp_eq (t := 68) hG dX7_next_61 rfl (fun hc => ?_) (fun hc => ?_)
        · replace h := it_p hc h
          refine aw_iconst (v := 0) hG dX7_next_68 rfl ?_
          refine aw_sub (L' := [(1, .int x1), (2, .long x2), (5, .long x5_2)]) [2, 3, 0] rfl ?_
          exact w_X7_next_J69 (x1 := x1) (x2 := x2) (x5 := x5_2) (s0 := 0) (m := v_1.2) hG h hK
        · replace h := it_n hc h
          refine aw_iconst (v := 1) hG dX7_next_64 rfl ?_
          refine aw_goto (t := 69) hG dX7_next_65 rfl ?_
          refine aw_sub (L' := [(1, .int x1), (2, .long x2), (5, .long x5_2)]) [2, 3, 0] rfl ?_
          exact w_X7_next_J69 (x1 := x1) (x2 := x2) (x5 := x5_2) (s0 := 1) (m := v_1.2) hG h hK
      · replace h := it_p hc h
        refine aw_iload hG 4 rfl dX7_next_38 ?_
        refine aw_if_eq (t := 47) hG dX7_next_40 rfl (fun hc => ?_) (fun hc => ?_)
        · replace h := it_p hc h
          refine aw_iload_n hG 2 rfl dX7_next_47 rfl ?_
          refine aw_callSl (As := [.int x1]) (rest := []) hG (c_X7_signBit (x0 := x1) (m := v_1.2) ) l_630 ws_X7_signBit rfl rfl rfl (by decide) (Nat.zero_le _) (Nat.zero_le _) (Nat.le_of_ble_eq_true rfl) dX7_next_48 ?_
          refine aw_lconst (v := 1) hG dX7_next_51 rfl ?_
          refine aw_lor hG dX7_next_52 ?_
          subst h
          exact FinJ.z hK dX7_next_53
        · replace h := it_n hc h
          refine aw_lconst (v := 1) hG dX7_next_43 rfl ?_
          refine aw_goto (t := 53) hG dX7_next_44 rfl ?_
          subst h
          exact FinJ.z hK dX7_next_53
    · replace h := it_n hc h
      refine aw_lload_n hG 3 rfl dX7_next_29 rfl ?_
      subst h
      exact FinJ.z hK dX7_next_30
  · replace h := it_n hc h
    refine aw_lconst (v := 0) hG dX7_next_12 rfl ?_
    subst h
    exact FinJ.z hK dX7_next_13
theorem c_X7_next {c : CS} {m : MS} {z : Nat → Int64} {x1 : Int32} {x2 : Int64} {x4 : Int32} {s : Int64 × MS}  (h : f_X7_next x1 x2 x4 m = s) : Ct yX7_next cX7_next 8 (some .long) 5 (fun w => [.ref (wad w 17), .int x1, .long x2, .int x4]) (c, m, z) (fun _ => some (.long s.1)) (c, s.2, z) := Ct_ofJ (by decide +kernel) (fun _ => Nat.le_of_ble_eq_true rfl) (fun g hG hK => w_X7_next hG h hK)
def f_X7_placeOf (x0 : Int32) (x1 : Int64) : Int64 :=
  if (f_X7_isMinus x0 x1) = 0 then
    (f_X7_sizeOf x0 x1)
  else
    (-(f_X7_sizeOf x0 x1))
set_option maxRecDepth 20000 in
theorem w_X7_placeOf {g : Cx} {mc ms : Nat} {c : CS} {m : MS} {z : Nat → Int64} {x0 : Int32} {x1 : Int64} {s : Int64}  (hG : Gd g RX7 cX7_placeOf 3 4 mc ms) (h : f_X7_placeOf x0 x1 = s) (hK : FinJ g cX7_placeOf mc ms s (c, m, z)) : AW g 0 [(0, .int x0), (1, .long x1)] [] (c, m, z) 0 0 := by
  unfold f_X7_placeOf at h
  refine aw_iload_n hG 0 rfl dX7_placeOf_0 rfl ?_
  refine aw_lload_n hG 1 rfl dX7_placeOf_1 rfl ?_
  refine aw_callSi (As := [.int x0, .long x1]) (rest := []) hG (c_X7_isMinus (x0 := x0) (x1 := x1) (m := m) ) l_813 ws_X7_isMinus rfl rfl rfl (by decide) (Nat.zero_le _) (Nat.zero_le _) (Nat.le_of_ble_eq_true rfl) dX7_placeOf_2 ?_
  refine aw_if_eq (t := 17) hG dX7_placeOf_5 rfl (fun hc => ?_) (fun hc => ?_)
  · replace h := it_p hc h
    refine aw_iload_n hG 0 rfl dX7_placeOf_17 rfl ?_
    refine aw_lload_n hG 1 rfl dX7_placeOf_18 rfl ?_
    refine aw_callSl (As := [.int x0, .long x1]) (rest := []) hG (c_X7_sizeOf (x0 := x0) (x1 := x1) (m := m) ) l_634 ws_X7_sizeOf rfl rfl rfl (by decide) (Nat.zero_le _) (Nat.zero_le _) (Nat.le_of_ble_eq_true rfl) dX7_placeOf_19 ?_
    subst h
    exact FinJ.z hK dX7_placeOf_22
  · replace h := it_n hc h
    refine aw_iload_n hG 0 rfl dX7_placeOf_8 rfl ?_
    refine aw_lload_n hG 1 rfl dX7_placeOf_9 rfl ?_
    refine aw_callSl (As := [.int x0, .long x1]) (rest := []) hG (c_X7_sizeOf (x0 := x0) (x1 := x1) (m := m) ) l_634 ws_X7_sizeOf rfl rfl rfl (by decide) (Nat.zero_le _) (Nat.zero_le _) (Nat.le_of_ble_eq_true rfl) dX7_placeOf_10 ?_
    refine aw_lneg hG dX7_placeOf_13 ?_
    refine aw_goto (t := 22) hG dX7_placeOf_14 rfl ?_
    subst h
    exact FinJ.z hK dX7_placeOf_22
theorem c_X7_placeOf {c : CS} {m : MS} {z : Nat → Int64} {x0 : Int32} {x1 : Int64}  : Ct yX7_placeOf cX7_placeOf 3 (some .long) 4 (fun w => [.int x0, .long x1]) (c, m, z) (fun _ => some (.long (f_X7_placeOf x0 x1))) (c, m, z) := Ct_ofJ (by decide +kernel) (fun _ => Nat.le_of_ble_eq_true rfl) (fun g hG hK => w_X7_placeOf hG rfl hK)
def f_X7_steps_J129 (x8 : Int64) (x10 : Int64) (s0 : Int32) (m : MS) : Int64 × MS :=
  if s0 = 0 then
    (x10, m)
  else
    if x8 < 0 then
      ((-9223372036854775808), m)
    else
      (9223372036854775807, m)
set_option maxRecDepth 20000 in
theorem w_X7_steps_J129 {g : Cx} {mc ms : Nat} {c : CS} {m : MS} {z : Nat → Int64} {x8 : Int64} {x10 : Int64} {s0 : Int32} {s : Int64 × MS}  (hG : Gd g RX7 cX7_steps 13 5 mc ms) (h : f_X7_steps_J129 x8 x10 s0 m = s) (hK : FinJ g cX7_steps mc ms s.1 (c, s.2, z)) : AW g 129 [(8, .long x8), (10, .long x10)] [.int s0] (c, m, z) 0 0 := by
  unfold f_X7_steps_J129 at h
  refine aw_istore (L' := [(12, .int s0), (8, .long x8), (10, .long x10)]) hG dX7_steps_129 (by decide) rfl ?_
  refine aw_iload hG 0 rfl dX7_steps_131 ?_
  refine aw_if_eq (t := 155) hG dX7_steps_133 rfl (fun hc => ?_) (fun hc => ?_)
  · replace h := it_p hc h
    refine aw_lload hG 2 rfl dX7_steps_155 ?_
    subst h
    exact FinJ.z hK dX7_steps_157
  · replace h := it_n hc h
    refine aw_lload hG 1 rfl dX7_steps_136 ?_
    refine aw_lconst (v := 0) hG dX7_steps_138 rfl ?_
    refine aw_lc_lt (t := 149) hG dX7_steps_139 rfl dX7_steps_140 rfl rfl (fun hc => ?_) (fun hc => ?_)
    · replace h := it_p hc h
      refine aw_ldc2 hG l_908 dX7_steps_149 ?_
      refine aw_goto (t := 157) hG dX7_steps_152 rfl ?_
      subst h
      exact FinJ.z hK dX7_steps_157
    · replace h := it_n hc h
      refine aw_ldc2 hG l_909 dX7_steps_143 ?_
      refine aw_goto (t := 157) hG dX7_steps_146 rfl ?_
      subst h
      exact FinJ.z hK dX7_steps_157
def f_X7_steps_J121 (x8 : Int64) (x10 : Int64) (s0 : Int32) (s1 : Int32) (m : MS) : Int64 × MS :=
  if s1 = s0 then
    f_X7_steps_J129 x8 x10 0 m
  else
    f_X7_steps_J129 x8 x10 1 m
set_option maxRecDepth 20000 in
theorem w_X7_steps_J121 {g : Cx} {mc ms : Nat} {c : CS} {m : MS} {z : Nat → Int64} {x8 : Int64} {x10 : Int64} {s0 : Int32} {s1 : Int32} {s : Int64 × MS}  (hG : Gd g RX7 cX7_steps 13 5 mc ms) (h : f_X7_steps_J121 x8 x10 s0 s1 m = s) (hK : FinJ g cX7_steps mc ms s.1 (c, s.2, z)) : AW g 121 [(8, .long x8), (10, .long x10)] [.int s0, .int s1] (c, m, z) 0 0 := by
  unfold f_X7_steps_J121 at h
  refine aw_icmp_eq (t := 128) hG dX7_steps_121 rfl (fun hc => ?_) (fun hc => ?_)
  · replace h := it_p hc h
    refine aw_iconst (v := 0) hG dX7_steps_128 rfl ?_
    exact w_X7_steps_J129 (x8 := x8) (x10 := x10) (s0 := 0) (m := m) hG h hK
  · replace h := it_n hc h
    refine aw_iconst (v := 1) hG dX7_steps_124 rfl ?_
    refine aw_goto (t := 129) hG dX7_steps_125 rfl ?_
    exact w_X7_steps_J129 (x8 := x8) (x10 := x10) (s0 := 1) (m := m) hG h hK
def f_X7_steps_J109 (x8 : Int64) (x10 : Int64) (s0 : Int32) (m : MS) : Int64 × MS :=
  if x8 < 0 then
    f_X7_steps_J121 x8 x10 0 s0 m
  else
    f_X7_steps_J121 x8 x10 1 s0 m
set_option maxRecDepth 20000 in
theorem w_X7_steps_J109 {g : Cx} {mc ms : Nat} {c : CS} {m : MS} {z : Nat → Int64} {x8 : Int64} {x10 : Int64} {s0 : Int32} {s : Int64 × MS}  (hG : Gd g RX7 cX7_steps 13 5 mc ms) (h : f_X7_steps_J109 x8 x10 s0 m = s) (hK : FinJ g cX7_steps mc ms s.1 (c, s.2, z)) : AW g 109 [(8, .long x8), (10, .long x10)] [.int s0] (c, m, z) 0 0 := by
  unfold f_X7_steps_J109 at h
  refine aw_lload hG 0 rfl dX7_steps_109 ?_
  refine aw_lconst (v := 0) hG dX7_steps_111 rfl ?_
  refine aw_lc_lt (t := 120) hG dX7_steps_112 rfl dX7_steps_113 rfl rfl (fun hc => ?_) (fun hc => ?_)
  · replace h := it_p hc h
    refine aw_iconst (v := 0) hG dX7_steps_120 rfl ?_
    exact w_X7_steps_J121 (x8 := x8) (x10 := x10) (s0 := 0) (s1 := s0) (m := m) hG h hK
  · replace h := it_n hc h
    refine aw_iconst (v := 1) hG dX7_steps_116 rfl ?_
    refine aw_goto (t := 121) hG dX7_steps_117 rfl ?_
    exact w_X7_steps_J121 (x8 := x8) (x10 := x10) (s0 := 1) (s1 := s0) (m := m) hG h hK
def f_X7_steps_J94 (x8 : Int64) (x10 : Int64) (s0 : Int32) (s1 : Int32) (m : MS) : Int64 × MS :=
  if s1 = s0 then
    f_X7_steps_J129 x8 x10 0 m
  else
    if x10 < 0 then
      f_X7_steps_J109 x8 x10 0 m
    else
      f_X7_steps_J109 x8 x10 1 m
set_option maxRecDepth 20000 in
theorem w_X7_steps_J94 {g : Cx} {mc ms : Nat} {c : CS} {m : MS} {z : Nat → Int64} {x8 : Int64} {x10 : Int64} {s0 : Int32} {s1 : Int32} {s : Int64 × MS}  (hG : Gd g RX7 cX7_steps 13 5 mc ms) (h : f_X7_steps_J94 x8 x10 s0 s1 m = s) (hK : FinJ g cX7_steps mc ms s.1 (c, s.2, z)) : AW g 94 [(8, .long x8), (10, .long x10)] [.int s0, .int s1] (c, m, z) 0 0 := by
  unfold f_X7_steps_J94 at h
  refine aw_icmp_eq (t := 128) hG dX7_steps_94 rfl (fun hc => ?_) (fun hc => ?_)
  · replace h := it_p hc h
    refine aw_iconst (v := 0) hG dX7_steps_128 rfl ?_
    exact w_X7_steps_J129 (x8 := x8) (x10 := x10) (s0 := 0) (m := m) hG h hK
  · replace h := it_n hc h
    refine aw_lload hG 1 rfl dX7_steps_97 ?_
    refine aw_lconst (v := 0) hG dX7_steps_99 rfl ?_
    refine aw_lc_lt (t := 108) hG dX7_steps_100 rfl dX7_steps_101 rfl rfl (fun hc => ?_) (fun hc => ?_)
    · replace h := it_p hc h
      refine aw_iconst (v := 0) hG dX7_steps_108 rfl ?_
      exact w_X7_steps_J109 (x8 := x8) (x10 := x10) (s0 := 0) (m := m) hG h hK
    · replace h := it_n hc h
      refine aw_iconst (v := 1) hG dX7_steps_104 rfl ?_
      refine aw_goto (t := 109) hG dX7_steps_105 rfl ?_
      exact w_X7_steps_J109 (x8 := x8) (x10 := x10) (s0 := 1) (m := m) hG h hK
def f_X7_steps_J82 (x6 : Int64) (x8 : Int64) (x10 : Int64) (s0 : Int32) (m : MS) : Int64 × MS :=
  if x6 < 0 then
    f_X7_steps_J94 x8 x10 0 s0 m
  else
    f_X7_steps_J94 x8 x10 1 s0 m
set_option maxRecDepth 20000 in
theorem w_X7_steps_J82 {g : Cx} {mc ms : Nat} {c : CS} {m : MS} {z : Nat → Int64} {x6 : Int64} {x8 : Int64} {x10 : Int64} {s0 : Int32} {s : Int64 × MS}  (hG : Gd g RX7 cX7_steps 13 5 mc ms) (h : f_X7_steps_J82 x6 x8 x10 s0 m = s) (hK : FinJ g cX7_steps mc ms s.1 (c, s.2, z)) : AW g 82 [(6, .long x6), (8, .long x8), (10, .long x10)] [.int s0] (c, m, z) 0 0 := by
  unfold f_X7_steps_J82 at h
  refine aw_lload hG 0 rfl dX7_steps_82 ?_
  refine aw_lconst (v := 0) hG dX7_steps_84 rfl ?_
  refine aw_lc_lt (t := 93) hG dX7_steps_85 rfl dX7_steps_86 rfl rfl (fun hc => ?_) (fun hc => ?_)
  · replace h := it_p hc h
    refine aw_iconst (v := 0) hG dX7_steps_93 rfl ?_
    refine aw_sub (L' := [(8, .long x8), (10, .long x10)]) [1, 2] rfl ?_
    exact w_X7_steps_J94 (x8 := x8) (x10 := x10) (s0 := 0) (s1 := s0) (m := m) hG h hK
  · replace h := it_n hc h
    refine aw_iconst (v := 1) hG dX7_steps_89 rfl ?_
    refine aw_goto (t := 94) hG dX7_steps_90 rfl ?_
    refine aw_sub (L' := [(8, .long x8), (10, .long x10)]) [1, 2] rfl ?_
    exact w_X7_steps_J94 (x8 := x8) (x10 := x10) (s0 := 1) (s1 := s0) (m := m) hG h hK
def f_X7_steps_J40 (x1 : Int32) (x2 : Int64) (x4 : Int64) (s0 : Int32) (m : MS) : Int64 × MS :=
  lt (f_X7_refuses s0 m) fun v_1 =>
  if v_1.1 = 0 then
    lt (f_X7_placeOf x1 x2) fun x6_2 =>
    lt (f_X7_placeOf x1 x4) fun x8_3 =>
    lt (x8_3 - x6_2) fun x10_4 =>
    if x8_3 < 0 then
      f_X7_steps_J82 x6_2 x8_3 x10_4 0 v_1.2
    else
      f_X7_steps_J82 x6_2 x8_3 x10_4 1 v_1.2
  else
    (0, v_1.2)
set_option maxRecDepth 20000 in
theorem w_X7_steps_J40 {g : Cx} {mc ms : Nat} {c : CS} {m : MS} {z : Nat → Int64} {x1 : Int32} {x2 : Int64} {x4 : Int64} {s0 : Int32} {s : Int64 × MS}  (hG : Gd g RX7 cX7_steps 13 5 mc ms) (h : f_X7_steps_J40 x1 x2 x4 s0 m = s) (hK : FinJ g cX7_steps mc ms s.1 (c, s.2, z)) : AW g 40 [(1, .int x1), (2, .long x2), (4, .long x4)] [.int s0, .ref (wad (cxw g) 17)] (c, m, z) 0 0 := by
  unfold f_X7_steps_J40 at h
  obtain ⟨v_1, hv_1⟩ : ∃ y, y = f_X7_refuses s0 m := ⟨_, rfl⟩
  replace h := lt_r hv_1 h
  refine aw_callVi (As := [.int s0]) (rest := []) hG (c_X7_refuses (x1 := s0) (m := m)  hv_1.symm) l_718 wv_X7_refuses (rv_X7 hG) rfl rfl rfl (by decide) (Nat.zero_le _) (Nat.zero_le _) (Nat.le_of_ble_eq_true rfl) dX7_steps_40 ?_
  refine aw_if_eq (t := 48) hG dX7_steps_43 rfl (fun hc => ?_) (fun hc => ?_)
  · replace h := it_p hc h
    refine aw_iload_n hG 0 rfl dX7_steps_48 rfl ?_
    refine aw_lload_n hG 1 rfl dX7_steps_49 rfl ?_
    refine aw_callSl (As := [.int x1, .long x2]) (rest := []) hG (c_X7_placeOf (x0 := x1) (x1 := x2) (m := v_1.2) ) l_904 ws_X7_placeOf rfl rfl rfl (by decide) (Nat.zero_le _) (Nat.zero_le _) (Nat.le_of_ble_eq_true rfl) dX7_steps_50 ?_
    refine aw_topl (fun x6_2 hx6_2 => ?_)
    replace h := lt_r hx6_2 h
    refine aw_lstore (L' := [(6, .long x6_2), (1, .int x1), (2, .long x2), (4, .long x4)]) hG dX7_steps_53 (by decide) rfl ?_
    refine aw_iload_n hG 1 rfl dX7_steps_55 rfl ?_
    refine aw_lload hG 3 rfl dX7_steps_56 ?_
    refine aw_callSl (As := [.int x1, .long x4]) (rest := []) hG (c_X7_placeOf (x0 := x1) (x1 := x4) (m := v_1.2) ) l_904 ws_X7_placeOf rfl rfl rfl (by decide) (Nat.zero_le _) (Nat.zero_le _) (Nat.le_of_ble_eq_true rfl) dX7_steps_58 ?_
    refine aw_topl (fun x8_3 hx8_3 => ?_)
    replace h := lt_r hx8_3 h
    refine aw_lstore (L' := [(8, .long x8_3), (6, .long x6_2), (1, .int x1), (2, .long x2), (4, .long x4)]) hG dX7_steps_61 (by decide) rfl ?_
    refine aw_lload hG 0 rfl dX7_steps_63 ?_
    refine aw_lload hG 1 rfl dX7_steps_65 ?_
    refine aw_lsub hG dX7_steps_67 ?_
    refine aw_topl (fun x10_4 hx10_4 => ?_)
    replace h := lt_r hx10_4 h
    refine aw_lstore (L' := [(10, .long x10_4), (8, .long x8_3), (6, .long x6_2), (1, .int x1), (2, .long x2), (4, .long x4)]) hG dX7_steps_68 (by decide) rfl ?_
    refine aw_lload hG 1 rfl dX7_steps_70 ?_
    refine aw_lconst (v := 0) hG dX7_steps_72 rfl ?_
    refine aw_lc_lt (t := 81) hG dX7_steps_73 rfl dX7_steps_74 rfl rfl (fun hc => ?_) (fun hc => ?_)
    · replace h := it_p hc h
      refine aw_iconst (v := 0) hG dX7_steps_81 rfl ?_
      refine aw_sub (L' := [(6, .long x6_2), (8, .long x8_3), (10, .long x10_4)]) [2, 1, 0] rfl ?_
      exact w_X7_steps_J82 (x6 := x6_2) (x8 := x8_3) (x10 := x10_4) (s0 := 0) (m := v_1.2) hG h hK
    · replace h := it_n hc h
      refine aw_iconst (v := 1) hG dX7_steps_77 rfl ?_
      refine aw_goto (t := 82) hG dX7_steps_78 rfl ?_
      refine aw_sub (L' := [(6, .long x6_2), (8, .long x8_3), (10, .long x10_4)]) [2, 1, 0] rfl ?_
      exact w_X7_steps_J82 (x6 := x6_2) (x8 := x8_3) (x10 := x10_4) (s0 := 1) (m := v_1.2) hG h hK
  · replace h := it_n hc h
    refine aw_lconst (v := 0) hG dX7_steps_46 rfl ?_
    subst h
    exact FinJ.z hK dX7_steps_47
def f_X7_steps (x1 : Int32) (x2 : Int64) (x4 : Int64) (m : MS) : Int64 × MS :=
  if (f_X7_isPattern x1 x2) = 0 then
    f_X7_steps_J40 x1 x2 x4 0 m
  else
    if (f_X7_isPattern x1 x4) = 0 then
      f_X7_steps_J40 x1 x2 x4 0 m
    else
      if (f_X7_isNan x1 x2) = 0 then
        if (f_X7_isNan x1 x4) = 0 then
          f_X7_steps_J40 x1 x2 x4 1 m
        else
          f_X7_steps_J40 x1 x2 x4 0 m
      else
        f_X7_steps_J40 x1 x2 x4 0 m
set_option maxRecDepth 20000 in
theorem w_X7_steps {g : Cx} {mc ms : Nat} {c : CS} {m : MS} {z : Nat → Int64} {x1 : Int32} {x2 : Int64} {x4 : Int64} {s : Int64 × MS}  (hG : Gd g RX7 cX7_steps 13 5 mc ms) (h : f_X7_steps x1 x2 x4 m = s) (hK : FinJ g cX7_steps mc ms s.1 (c, s.2, z)) : AW g 0 [(0, .ref (wad (cxw g) 17)), (1, .int x1), (2, .long x2), (4, .long x4)] [] (c, m, z) 0 0 := by
  unfold f_X7_steps at h
  refine aw_aload_n hG 0 rfl dX7_steps_0 rfl ?_
  refine aw_iload_n hG 1 rfl dX7_steps_1 rfl ?_
  refine aw_lload_n hG 2 rfl dX7_steps_2 rfl ?_
  refine aw_callSi (As := [.int x1, .long x2]) (rest := [.ref (wad (cxw g) 17)]) hG (c_X7_isPattern (x0 := x1) (x1 := x2) (m := m) ) l_850 ws_X7_isPattern rfl rfl rfl (by decide) (Nat.zero_le _) (Nat.zero_le _) (Nat.le_of_ble_eq_true rfl) dX7_steps_3 ?_
  refine aw_if_eq (t := 39) hG dX7_steps_6 rfl (fun hc => ?_) (fun hc => ?_)
  · replace h := it_p hc h
    refine aw_iconst (v := 0) hG dX7_steps_39 rfl ?_
    refine aw_sub (L' := [(1, .int x1), (2, .long x2), (4, .long x4)]) [1, 2, 3] rfl ?_
    exact w_X7_steps_J40 (x1 := x1) (x2 := x2) (x4 := x4) (s0 := 0) (m := m) hG h hK
  · replace h := it_n hc h
    refine aw_iload_n hG 1 rfl dX7_steps_9 rfl ?_
    refine aw_lload hG 3 rfl dX7_steps_10 ?_
    refine aw_callSi (As := [.int x1, .long x4]) (rest := [.ref (wad (cxw g) 17)]) hG (c_X7_isPattern (x0 := x1) (x1 := x4) (m := m) ) l_850 ws_X7_isPattern rfl rfl rfl (by decide) (Nat.zero_le _) (Nat.zero_le _) (Nat.le_of_ble_eq_true rfl) dX7_steps_12 ?_
    refine aw_if_eq (t := 39) hG dX7_steps_15 rfl (fun hc => ?_) (fun hc => ?_)
    · replace h := it_p hc h
      refine aw_iconst (v := 0) hG dX7_steps_39 rfl ?_
      refine aw_sub (L' := [(1, .int x1), (2, .long x2), (4, .long x4)]) [1, 2, 3] rfl ?_
      exact w_X7_steps_J40 (x1 := x1) (x2 := x2) (x4 := x4) (s0 := 0) (m := m) hG h hK
    · replace h := it_n hc h
      refine aw_iload_n hG 1 rfl dX7_steps_18 rfl ?_
      refine aw_lload_n hG 2 rfl dX7_steps_19 rfl ?_
      refine aw_callSi (As := [.int x1, .long x2]) (rest := [.ref (wad (cxw g) 17)]) hG (c_X7_isNan (x0 := x1) (x1 := x2) (m := m) ) l_821 ws_X7_isNan rfl rfl rfl (by decide) (Nat.zero_le _) (Nat.zero_le _) (Nat.le_of_ble_eq_true rfl) dX7_steps_20 ?_
      refine aw_if_ne (t := 39) hG dX7_steps_23 rfl (fun hc => ?_) (fun hc => ?_)
      · replace h := it_n hc h
        refine aw_iconst (v := 0) hG dX7_steps_39 rfl ?_
        refine aw_sub (L' := [(1, .int x1), (2, .long x2), (4, .long x4)]) [1, 2, 3] rfl ?_
        exact w_X7_steps_J40 (x1 := x1) (x2 := x2) (x4 := x4) (s0 := 0) (m := m) hG h hK
      · replace h := it_p hc h
        refine aw_iload_n hG 1 rfl dX7_steps_26 rfl ?_
        refine aw_lload hG 3 rfl dX7_steps_27 ?_
        refine aw_callSi (As := [.int x1, .long x4]) (rest := [.ref (wad (cxw g) 17)]) hG (c_X7_isNan (x0 := x1) (x1 := x4) (m := m) ) l_821 ws_X7_isNan rfl rfl rfl (by decide) (Nat.zero_le _) (Nat.zero_le _) (Nat.le_of_ble_eq_true rfl) dX7_steps_29 ?_
        refine aw_if_ne (t := 39) hG dX7_steps_32 rfl (fun hc => ?_) (fun hc => ?_)
        · replace h := it_n hc h
          refine aw_iconst (v := 0) hG dX7_steps_39 rfl ?_
          refine aw_sub (L' := [(1, .int x1), (2, .long x2), (4, .long x4)]) [1, 2, 3] rfl ?_
          exact w_X7_steps_J40 (x1 := x1) (x2 := x2) (x4 := x4) (s0 := 0) (m := m) hG h hK
        · replace h := it_p hc h
          refine aw_iconst (v := 1) hG dX7_steps_35 rfl ?_
          refine aw_goto (t := 40) hG dX7_steps_36 rfl ?_
          refine aw_sub (L' := [(1, .int x1), (2, .long x2), (4, .long x4)]) [1, 2, 3] rfl ?_
          exact w_X7_steps_J40 (x1 := x1) (x2 := x2) (x4 := x4) (s0 := 1) (m := m) hG h hK
theorem c_X7_steps {c : CS} {m : MS} {z : Nat → Int64} {x1 : Int32} {x2 : Int64} {x4 : Int64} {s : Int64 × MS}  (h : f_X7_steps x1 x2 x4 m = s) : Ct yX7_steps cX7_steps 13 (some .long) 5 (fun w => [.ref (wad w 17), .int x1, .long x2, .long x4]) (c, m, z) (fun _ => some (.long s.1)) (c, s.2, z) := Ct_ofJ (by decide +kernel) (fun _ => Nat.le_of_ble_eq_true rfl) (fun g hG hK => w_X7_steps hG h hK)
def f_X7_compare_J23 (x1 : Int32) (x2 : Int64) (x4 : Int64) (s0 : Int32) (m : MS) : Int32 × MS :=
  lt (f_X7_refuses s0 m) fun v_1 =>
  if v_1.1 = 0 then
    if (f_X7_isNan x1 x2) = 0 then
      if (f_X7_isNan x1 x4) = 0 then
        lt (f_X7_placeOf x1 x2) fun x6_2 =>
        lt (f_X7_placeOf x1 x4) fun x8_3 =>
        if x8_3 ≤ x6_2 then
          if x6_2 ≤ x8_3 then
            (0, v_1.2)
          else
            (1, v_1.2)
        else
          ((-1), v_1.2)
      else
        (2, v_1.2)
    else
      (2, v_1.2)
  else
    (0, v_1.2)
set_option maxRecDepth 20000 in
theorem w_X7_compare_J23 {g : Cx} {mc ms : Nat} {c : CS} {m : MS} {z : Nat → Int64} {x1 : Int32} {x2 : Int64} {x4 : Int64} {s0 : Int32} {s : Int32 × MS}  (hG : Gd g RX7 cX7_compare 10 5 mc ms) (h : f_X7_compare_J23 x1 x2 x4 s0 m = s) (hK : FinI g cX7_compare mc ms s.1 (c, s.2, z)) : AW g 23 [(1, .int x1), (2, .long x2), (4, .long x4)] [.int s0, .ref (wad (cxw g) 17)] (c, m, z) 0 0 := by
  unfold f_X7_compare_J23 at h
  obtain ⟨v_1, hv_1⟩ : ∃ y, y = f_X7_refuses s0 m := ⟨_, rfl⟩
  replace h := lt_r hv_1 h
  refine aw_callVi (As := [.int s0]) (rest := []) hG (c_X7_refuses (x1 := s0) (m := m)  hv_1.symm) l_718 wv_X7_refuses (rv_X7 hG) rfl rfl rfl (by decide) (Nat.zero_le _) (Nat.zero_le _) (Nat.le_of_ble_eq_true rfl) dX7_compare_23 ?_
  refine aw_if_eq (t := 31) hG dX7_compare_26 rfl (fun hc => ?_) (fun hc => ?_)
  · replace h := it_p hc h
    refine aw_iload_n hG 0 rfl dX7_compare_31 rfl ?_
    refine aw_lload_n hG 1 rfl dX7_compare_32 rfl ?_
    refine aw_callSi (As := [.int x1, .long x2]) (rest := []) hG (c_X7_isNan (x0 := x1) (x1 := x2) (m := v_1.2) ) l_821 ws_X7_isNan rfl rfl rfl (by decide) (Nat.zero_le _) (Nat.zero_le _) (Nat.le_of_ble_eq_true rfl) dX7_compare_33 ?_
    refine aw_if_ne (t := 48) hG dX7_compare_36 rfl (fun hc => ?_) (fun hc => ?_)
    · replace h := it_n hc h
      refine aw_iconst (v := 2) hG dX7_compare_48 rfl ?_
      subst h
      exact FinI.z hK dX7_compare_49
    · replace h := it_p hc h
      refine aw_iload_n hG 0 rfl dX7_compare_39 rfl ?_
      refine aw_lload hG 2 rfl dX7_compare_40 ?_
      refine aw_callSi (As := [.int x1, .long x4]) (rest := []) hG (c_X7_isNan (x0 := x1) (x1 := x4) (m := v_1.2) ) l_821 ws_X7_isNan rfl rfl rfl (by decide) (Nat.zero_le _) (Nat.zero_le _) (Nat.le_of_ble_eq_true rfl) dX7_compare_42 ?_
      refine aw_if_eq (t := 50) hG dX7_compare_45 rfl (fun hc => ?_) (fun hc => ?_)
      · replace h := it_p hc h
        refine aw_iload_n hG 0 rfl dX7_compare_50 rfl ?_
        refine aw_lload_n hG 1 rfl dX7_compare_51 rfl ?_
        refine aw_callSl (As := [.int x1, .long x2]) (rest := []) hG (c_X7_placeOf (x0 := x1) (x1 := x2) (m := v_1.2) ) l_904 ws_X7_placeOf rfl rfl rfl (by decide) (Nat.zero_le _) (Nat.zero_le _) (Nat.le_of_ble_eq_true rfl) dX7_compare_52 ?_
        refine aw_topl (fun x6_2 hx6_2 => ?_)
        replace h := lt_r hx6_2 h
        refine aw_lstore (L' := [(6, .long x6_2), (1, .int x1), (2, .long x2), (4, .long x4)]) hG dX7_compare_55 (by decide) rfl ?_
        refine aw_iload_n hG 1 rfl dX7_compare_57 rfl ?_
        refine aw_lload hG 3 rfl dX7_compare_58 ?_
        refine aw_callSl (As := [.int x1, .long x4]) (rest := []) hG (c_X7_placeOf (x0 := x1) (x1 := x4) (m := v_1.2) ) l_904 ws_X7_placeOf rfl rfl rfl (by decide) (Nat.zero_le _) (Nat.zero_le _) (Nat.le_of_ble_eq_true rfl) dX7_compare_60 ?_
        refine aw_topl (fun x8_3 hx8_3 => ?_)
        replace h := lt_r hx8_3 h
        refine aw_lstore (L' := [(8, .long x8_3), (6, .long x6_2), (1, .int x1), (2, .long x2), (4, .long x4)]) hG dX7_compare_63 (by decide) rfl ?_
        refine aw_lload hG 1 rfl dX7_compare_65 ?_
        refine aw_lload hG 0 rfl dX7_compare_67 ?_
        refine aw_lc_ge (t := 77) hG dX7_compare_69 rfl dX7_compare_70 rfl rfl (fun hc => ?_) (fun hc => ?_)
        · replace h := it_p hc h
          refine aw_lload hG 1 rfl dX7_compare_77 ?_
          refine aw_lload hG 0 rfl dX7_compare_79 ?_
          refine aw_lc_le (t := 89) hG dX7_compare_81 rfl dX7_compare_82 rfl rfl (fun hc => ?_) (fun hc => ?_)
          · replace h := it_p hc h
            refine aw_iconst (v := 0) hG dX7_compare_89 rfl ?_
            subst h
            exact FinI.z hK dX7_compare_90
          · replace h := it_n hc h
            refine aw_iconst (v := 1) hG dX7_compare_85 rfl ?_
            refine aw_goto (t := 90) hG dX7_compare_86 rfl ?_
            subst h
            exact FinI.z hK dX7_compare_90
        · replace h := it_n hc h
          refine aw_iconst (v := (-1)) hG dX7_compare_73 rfl ?_
          refine aw_goto (t := 90) hG dX7_compare_74 rfl ?_
          subst h
          exact FinI.z hK dX7_compare_90
      · replace h := it_n hc h
        refine aw_iconst (v := 2) hG dX7_compare_48 rfl ?_
        subst h
        exact FinI.z hK dX7_compare_49
  · replace h := it_n hc h
    refine aw_iconst (v := 0) hG dX7_compare_29 rfl ?_
    subst h
    exact FinI.z hK dX7_compare_30
def f_X7_compare (x1 : Int32) (x2 : Int64) (x4 : Int64) (m : MS) : Int32 × MS :=
  if (f_X7_isPattern x1 x2) = 0 then
    f_X7_compare_J23 x1 x2 x4 0 m
  else
    if (f_X7_isPattern x1 x4) = 0 then
      f_X7_compare_J23 x1 x2 x4 0 m
    else
      f_X7_compare_J23 x1 x2 x4 1 m
set_option maxRecDepth 20000 in
theorem w_X7_compare {g : Cx} {mc ms : Nat} {c : CS} {m : MS} {z : Nat → Int64} {x1 : Int32} {x2 : Int64} {x4 : Int64} {s : Int32 × MS}  (hG : Gd g RX7 cX7_compare 10 5 mc ms) (h : f_X7_compare x1 x2 x4 m = s) (hK : FinI g cX7_compare mc ms s.1 (c, s.2, z)) : AW g 0 [(0, .ref (wad (cxw g) 17)), (1, .int x1), (2, .long x2), (4, .long x4)] [] (c, m, z) 0 0 := by
  unfold f_X7_compare at h
  refine aw_aload_n hG 0 rfl dX7_compare_0 rfl ?_
  refine aw_iload_n hG 1 rfl dX7_compare_1 rfl ?_
  refine aw_lload_n hG 2 rfl dX7_compare_2 rfl ?_
  refine aw_callSi (As := [.int x1, .long x2]) (rest := [.ref (wad (cxw g) 17)]) hG (c_X7_isPattern (x0 := x1) (x1 := x2) (m := m) ) l_850 ws_X7_isPattern rfl rfl rfl (by decide) (Nat.zero_le _) (Nat.zero_le _) (Nat.le_of_ble_eq_true rfl) dX7_compare_3 ?_
  refine aw_if_eq (t := 22) hG dX7_compare_6 rfl (fun hc => ?_) (fun hc => ?_)
  · replace h := it_p hc h
    refine aw_iconst (v := 0) hG dX7_compare_22 rfl ?_
    refine aw_sub (L' := [(1, .int x1), (2, .long x2), (4, .long x4)]) [1, 2, 3] rfl ?_
    exact w_X7_compare_J23 (x1 := x1) (x2 := x2) (x4 := x4) (s0 := 0) (m := m) hG h hK
  · replace h := it_n hc h
    refine aw_iload_n hG 1 rfl dX7_compare_9 rfl ?_
    refine aw_lload hG 3 rfl dX7_compare_10 ?_
    refine aw_callSi (As := [.int x1, .long x4]) (rest := [.ref (wad (cxw g) 17)]) hG (c_X7_isPattern (x0 := x1) (x1 := x4) (m := m) ) l_850 ws_X7_isPattern rfl rfl rfl (by decide) (Nat.zero_le _) (Nat.zero_le _) (Nat.le_of_ble_eq_true rfl) dX7_compare_12 ?_
    refine aw_if_eq (t := 22) hG dX7_compare_15 rfl (fun hc => ?_) (fun hc => ?_)
    · replace h := it_p hc h
      refine aw_iconst (v := 0) hG dX7_compare_22 rfl ?_
      refine aw_sub (L' := [(1, .int x1), (2, .long x2), (4, .long x4)]) [1, 2, 3] rfl ?_
      exact w_X7_compare_J23 (x1 := x1) (x2 := x2) (x4 := x4) (s0 := 0) (m := m) hG h hK
    · replace h := it_n hc h
      refine aw_iconst (v := 1) hG dX7_compare_18 rfl ?_
      refine aw_goto (t := 23) hG dX7_compare_19 rfl ?_
      refine aw_sub (L' := [(1, .int x1), (2, .long x2), (4, .long x4)]) [1, 2, 3] rfl ?_
      exact w_X7_compare_J23 (x1 := x1) (x2 := x2) (x4 := x4) (s0 := 1) (m := m) hG h hK
theorem c_X7_compare {c : CS} {m : MS} {z : Nat → Int64} {x1 : Int32} {x2 : Int64} {x4 : Int64} {s : Int32 × MS}  (h : f_X7_compare x1 x2 x4 m = s) : Ct yX7_compare cX7_compare 10 (some .int) 5 (fun w => [.ref (wad w 17), .int x1, .long x2, .long x4]) (c, m, z) (fun _ => some (.int s.1)) (c, s.2, z) := Ct_ofI (by decide +kernel) (fun _ => Nat.le_of_ble_eq_true rfl) (fun g hG hK => w_X7_compare hG h hK)
def f_X7_order_J104 (x6 : Int32) (s0 : Int32) (m : MS) : Int32 × MS :=
  if s0 = x6 then
    (1, m)
  else
    ((-1), m)
set_option maxRecDepth 20000 in
theorem w_X7_order_J104 {g : Cx} {mc ms : Nat} {c : CS} {m : MS} {z : Nat → Int64} {x6 : Int32} {s0 : Int32} {s : Int32 × MS}  (hG : Gd g RX7 cX7_order 12 4 mc ms) (h : f_X7_order_J104 x6 s0 m = s) (hK : FinI g cX7_order mc ms s.1 (c, s.2, z)) : AW g 104 [(6, .int x6)] [.int s0] (c, m, z) 0 0 := by
  unfold f_X7_order_J104 at h
  refine aw_iload hG 0 rfl dX7_order_104 ?_
  refine aw_icmp_eq (t := 113) hG dX7_order_106 rfl (fun hc => ?_) (fun hc => ?_)
  · replace h := it_p hc h
    refine aw_iconst (v := 1) hG dX7_order_113 rfl ?_
    subst h
    exact FinI.z hK dX7_order_114
  · replace h := it_n hc h
    refine aw_iconst (v := (-1)) hG dX7_order_109 rfl ?_
    refine aw_goto (t := 114) hG dX7_order_110 rfl ?_
    subst h
    exact FinI.z hK dX7_order_114
def f_X7_order_J23 (x1 : Int32) (x2 : Int64) (x4 : Int64) (s0 : Int32) (m : MS) : Int32 × MS :=
  lt (f_X7_refuses s0 m) fun v_1 =>
  if v_1.1 = 0 then
    lt (f_X7_isMinus x1 x2) fun x6_2 =>
    lt (f_X7_isMinus x1 x4) fun x7_3 =>
    if x6_2 = x7_3 then
      lt (f_X7_sizeOf x1 x2) fun x8_4 =>
      lt (f_X7_sizeOf x1 x4) fun x10_5 =>
      if x8_4 = x10_5 then
        (0, v_1.2)
      else
        if x10_5 ≤ x8_4 then
          f_X7_order_J104 x6_2 0 v_1.2
        else
          f_X7_order_J104 x6_2 1 v_1.2
    else
      if x6_2 = 0 then
        (1, v_1.2)
      else
        ((-1), v_1.2)
  else
    (0, v_1.2)
set_option maxRecDepth 20000 in
theorem w_X7_order_J23 {g : Cx} {mc ms : Nat} {c : CS} {m : MS} {z : Nat → Int64} {x1 : Int32} {x2 : Int64} {x4 : Int64} {s0 : Int32} {s : Int32 × MS}  (hG : Gd g RX7 cX7_order 12 4 mc ms) (h : f_X7_order_J23 x1 x2 x4 s0 m = s) (hK : FinI g cX7_order mc ms s.1 (c, s.2, z)) : AW g 23 [(1, .int x1), (2, .long x2), (4, .long x4)] [.int s0, .ref (wad (cxw g) 17)] (c, m, z) 0 0 := by
  unfold f_X7_order_J23 at h
  obtain ⟨v_1, hv_1⟩ : ∃ y, y = f_X7_refuses s0 m := ⟨_, rfl⟩
  replace h := lt_r hv_1 h
  refine aw_callVi (As := [.int s0]) (rest := []) hG (c_X7_refuses (x1 := s0) (m := m)  hv_1.symm) l_718 wv_X7_refuses (rv_X7 hG) rfl rfl rfl (by decide) (Nat.zero_le _) (Nat.zero_le _) (Nat.le_of_ble_eq_true rfl) dX7_order_23 ?_
  refine aw_if_eq (t := 31) hG dX7_order_26 rfl (fun hc => ?_) (fun hc => ?_)
  · replace h := it_p hc h
    refine aw_iload_n hG 0 rfl dX7_order_31 rfl ?_
    refine aw_lload_n hG 1 rfl dX7_order_32 rfl ?_
    refine aw_callSi (As := [.int x1, .long x2]) (rest := []) hG (c_X7_isMinus (x0 := x1) (x1 := x2) (m := v_1.2) ) l_813 ws_X7_isMinus rfl rfl rfl (by decide) (Nat.zero_le _) (Nat.zero_le _) (Nat.le_of_ble_eq_true rfl) dX7_order_33 ?_
    refine aw_topi (fun x6_2 hx6_2 => ?_)
    replace h := lt_r hx6_2 h
    refine aw_istore (L' := [(6, .int x6_2), (1, .int x1), (2, .long x2), (4, .long x4)]) hG dX7_order_36 (by decide) rfl ?_
    refine aw_iload_n hG 1 rfl dX7_order_38 rfl ?_
    refine aw_lload hG 3 rfl dX7_order_39 ?_
    refine aw_callSi (As := [.int x1, .long x4]) (rest := []) hG (c_X7_isMinus (x0 := x1) (x1 := x4) (m := v_1.2) ) l_813 ws_X7_isMinus rfl rfl rfl (by decide) (Nat.zero_le _) (Nat.zero_le _) (Nat.le_of_ble_eq_true rfl) dX7_order_41 ?_
    refine aw_topi (fun x7_3 hx7_3 => ?_)
    replace h := lt_r hx7_3 h
    refine aw_istore (L' := [(7, .int x7_3), (6, .int x6_2), (1, .int x1), (2, .long x2), (4, .long x4)]) hG dX7_order_44 (by decide) rfl ?_
    refine aw_iload hG 1 rfl dX7_order_46 ?_
    refine aw_iload hG 0 rfl dX7_order_48 ?_
    refine aw_icmp_eq (t := 64) hG dX7_order_50 rfl (fun hc => ?_) (fun hc => ?_)
    · replace h := it_p hc h
      refine aw_iload_n hG 2 rfl dX7_order_64 rfl ?_
      refine aw_lload_n hG 3 rfl dX7_order_65 rfl ?_
      refine aw_callSl (As := [.int x1, .long x2]) (rest := []) hG (c_X7_sizeOf (x0 := x1) (x1 := x2) (m := v_1.2) ) l_634 ws_X7_sizeOf rfl rfl rfl (by decide) (Nat.zero_le _) (Nat.zero_le _) (Nat.le_of_ble_eq_true rfl) dX7_order_66 ?_
      refine aw_topl (fun x8_4 hx8_4 => ?_)
      replace h := lt_r hx8_4 h
      refine aw_lstore (L' := [(8, .long x8_4), (7, .int x7_3), (6, .int x6_2), (1, .int x1), (2, .long x2), (4, .long x4)]) hG dX7_order_69 (by decide) rfl ?_
      refine aw_iload_n hG 3 rfl dX7_order_71 rfl ?_
      refine aw_lload hG 5 rfl dX7_order_72 ?_
      refine aw_callSl (As := [.int x1, .long x4]) (rest := []) hG (c_X7_sizeOf (x0 := x1) (x1 := x4) (m := v_1.2) ) l_634 ws_X7_sizeOf rfl rfl rfl (by decide) (Nat.zero_le _) (Nat.zero_le _) (Nat.le_of_ble_eq_true rfl) dX7_order_74 ?_
      refine aw_topl (fun x10_5 hx10_5 => ?_)
      replace h := lt_r hx10_5 h
      refine aw_lstore (L' := [(10, .long x10_5), (8, .long x8_4), (7, .int x7_3), (6, .int x6_2), (1, .int x1), (2, .long x2), (4, .long x4)]) hG dX7_order_77 (by decide) rfl ?_
      refine aw_lload hG 1 rfl dX7_order_79 ?_
      refine aw_lload hG 0 rfl dX7_order_81 ?_
      refine aw_lc_ne (t := 91) hG dX7_order_83 rfl dX7_order_84 rfl rfl (fun hc => ?_) (fun hc => ?_)
      · replace h := it_n hc h
        refine aw_lload hG 1 rfl dX7_order_91 ?_
        refine aw_lload hG 0 rfl dX7_order_93 ?_
        refine aw_lc_ge (t := 103) hG dX7_order_95 rfl dX7_order_96 rfl rfl (fun hc => ?_) (fun hc => ?_)
        · replace h := it_p hc h
          refine aw_iconst (v := 0) hG dX7_order_103 rfl ?_
          refine aw_sub (L' := [(6, .int x6_2)]) [3] rfl ?_
          exact w_X7_order_J104 (x6 := x6_2) (s0 := 0) (m := v_1.2) hG h hK
        · replace h := it_n hc h
          refine aw_iconst (v := 1) hG dX7_order_99 rfl ?_
          refine aw_goto (t := 104) hG dX7_order_100 rfl ?_
          refine aw_sub (L' := [(6, .int x6_2)]) [3] rfl ?_
          exact w_X7_order_J104 (x6 := x6_2) (s0 := 1) (m := v_1.2) hG h hK
      · replace h := it_p hc h
        refine aw_iconst (v := 0) hG dX7_order_87 rfl ?_
        refine aw_goto (t := 114) hG dX7_order_88 rfl ?_
        subst h
        exact FinI.z hK dX7_order_114
    · replace h := it_n hc h
      refine aw_iload hG 1 rfl dX7_order_53 ?_
      refine aw_if_eq (t := 62) hG dX7_order_55 rfl (fun hc => ?_) (fun hc => ?_)
      · replace h := it_p hc h
        refine aw_iconst (v := 1) hG dX7_order_62 rfl ?_
        subst h
        exact FinI.z hK dX7_order_63
      · replace h := it_n hc h
        refine aw_iconst (v := (-1)) hG dX7_order_58 rfl ?_
        refine aw_goto (t := 63) hG dX7_order_59 rfl ?_
        subst h
        exact FinI.z hK dX7_order_63
  · replace h := it_n hc h
    refine aw_iconst (v := 0) hG dX7_order_29 rfl ?_
    subst h
    exact FinI.z hK dX7_order_30
def f_X7_order (x1 : Int32) (x2 : Int64) (x4 : Int64) (m : MS) : Int32 × MS :=
  if (f_X7_isPattern x1 x2) = 0 then
    f_X7_order_J23 x1 x2 x4 0 m
  else
    if (f_X7_isPattern x1 x4) = 0 then
      f_X7_order_J23 x1 x2 x4 0 m
    else
      f_X7_order_J23 x1 x2 x4 1 m
set_option maxRecDepth 20000 in
theorem w_X7_order {g : Cx} {mc ms : Nat} {c : CS} {m : MS} {z : Nat → Int64} {x1 : Int32} {x2 : Int64} {x4 : Int64} {s : Int32 × MS}  (hG : Gd g RX7 cX7_order 12 4 mc ms) (h : f_X7_order x1 x2 x4 m = s) (hK : FinI g cX7_order mc ms s.1 (c, s.2, z)) : AW g 0 [(0, .ref (wad (cxw g) 17)), (1, .int x1), (2, .long x2), (4, .long x4)] [] (c, m, z) 0 0 := by
  unfold f_X7_order at h
  refine aw_aload_n hG 0 rfl dX7_order_0 rfl ?_
  refine aw_iload_n hG 1 rfl dX7_order_1 rfl ?_
  refine aw_lload_n hG 2 rfl dX7_order_2 rfl ?_
  refine aw_callSi (As := [.int x1, .long x2]) (rest := [.ref (wad (cxw g) 17)]) hG (c_X7_isPattern (x0 := x1) (x1 := x2) (m := m) ) l_850 ws_X7_isPattern rfl rfl rfl (by decide) (Nat.zero_le _) (Nat.zero_le _) (Nat.le_of_ble_eq_true rfl) dX7_order_3 ?_
  refine aw_if_eq (t := 22) hG dX7_order_6 rfl (fun hc => ?_) (fun hc => ?_)
  · replace h := it_p hc h
    refine aw_iconst (v := 0) hG dX7_order_22 rfl ?_
    refine aw_sub (L' := [(1, .int x1), (2, .long x2), (4, .long x4)]) [1, 2, 3] rfl ?_
    exact w_X7_order_J23 (x1 := x1) (x2 := x2) (x4 := x4) (s0 := 0) (m := m) hG h hK
  · replace h := it_n hc h
    refine aw_iload_n hG 1 rfl dX7_order_9 rfl ?_
    refine aw_lload hG 3 rfl dX7_order_10 ?_
    refine aw_callSi (As := [.int x1, .long x4]) (rest := [.ref (wad (cxw g) 17)]) hG (c_X7_isPattern (x0 := x1) (x1 := x4) (m := m) ) l_850 ws_X7_isPattern rfl rfl rfl (by decide) (Nat.zero_le _) (Nat.zero_le _) (Nat.le_of_ble_eq_true rfl) dX7_order_12 ?_
    refine aw_if_eq (t := 22) hG dX7_order_15 rfl (fun hc => ?_) (fun hc => ?_)
    · replace h := it_p hc h
      refine aw_iconst (v := 0) hG dX7_order_22 rfl ?_
      refine aw_sub (L' := [(1, .int x1), (2, .long x2), (4, .long x4)]) [1, 2, 3] rfl ?_
      exact w_X7_order_J23 (x1 := x1) (x2 := x2) (x4 := x4) (s0 := 0) (m := m) hG h hK
    · replace h := it_n hc h
      refine aw_iconst (v := 1) hG dX7_order_18 rfl ?_
      refine aw_goto (t := 23) hG dX7_order_19 rfl ?_
      refine aw_sub (L' := [(1, .int x1), (2, .long x2), (4, .long x4)]) [1, 2, 3] rfl ?_
      exact w_X7_order_J23 (x1 := x1) (x2 := x2) (x4 := x4) (s0 := 1) (m := m) hG h hK
theorem c_X7_order {c : CS} {m : MS} {z : Nat → Int64} {x1 : Int32} {x2 : Int64} {x4 : Int64} {s : Int32 × MS}  (h : f_X7_order x1 x2 x4 m = s) : Ct yX7_order cX7_order 12 (some .int) 4 (fun w => [.ref (wad w 17), .int x1, .long x2, .long x4]) (c, m, z) (fun _ => some (.int s.1)) (c, s.2, z) := Ct_ofI (by decide +kernel) (fun _ => Nat.le_of_ble_eq_true rfl) (fun g hG hK => w_X7_order hG h hK)
def f_X7_kind (x1 : Int32) (x2 : Int64) (m : MS) : Int32 × MS :=
  lt (f_X7_refuses (f_X7_isPattern x1 x2) m) fun v_1 =>
  if v_1.1 = 0 then
    lt (f_X7_sizeOf x1 x2) fun x4_2 =>
    if x4_2 = 0 then
      (0, v_1.2)
    else
      if (jshl 1 ((f_X7_precision x1) - 1)) ≤ x4_2 then
        if (f_X7_infinite x1) ≤ x4_2 then
          if x4_2 = (f_X7_infinite x1) then
            (3, v_1.2)
          else
            (4, v_1.2)
        else
          (2, v_1.2)
      else
        (1, v_1.2)
  else
    (0, v_1.2)
set_option maxRecDepth 20000 in
theorem w_X7_kind {g : Cx} {mc ms : Nat} {c : CS} {m : MS} {z : Nat → Int64} {x1 : Int32} {x2 : Int64} {s : Int32 × MS}  (hG : Gd g RX7 cX7_kind 6 4 mc ms) (h : f_X7_kind x1 x2 m = s) (hK : FinI g cX7_kind mc ms s.1 (c, s.2, z)) : AW g 0 [(0, .ref (wad (cxw g) 17)), (1, .int x1), (2, .long x2)] [] (c, m, z) 0 0 := by
  unfold f_X7_kind at h
  refine aw_aload_n hG 0 rfl dX7_kind_0 rfl ?_
  refine aw_iload_n hG 1 rfl dX7_kind_1 rfl ?_
  refine aw_lload_n hG 2 rfl dX7_kind_2 rfl ?_
  refine aw_callSi (As := [.int x1, .long x2]) (rest := [.ref (wad (cxw g) 17)]) hG (c_X7_isPattern (x0 := x1) (x1 := x2) (m := m) ) l_850 ws_X7_isPattern rfl rfl rfl (by decide) (Nat.zero_le _) (Nat.zero_le _) (Nat.le_of_ble_eq_true rfl) dX7_kind_3 ?_
  obtain ⟨v_1, hv_1⟩ : ∃ y, y = f_X7_refuses (f_X7_isPattern x1 x2) m := ⟨_, rfl⟩
  replace h := lt_r hv_1 h
  refine aw_callVi (As := [.int (f_X7_isPattern x1 x2)]) (rest := []) hG (c_X7_refuses (x1 := f_X7_isPattern x1 x2) (m := m)  hv_1.symm) l_718 wv_X7_refuses (rv_X7 hG) rfl rfl rfl (by decide) (Nat.zero_le _) (Nat.zero_le _) (Nat.le_of_ble_eq_true rfl) dX7_kind_6 ?_
  refine aw_if_eq (t := 14) hG dX7_kind_9 rfl (fun hc => ?_) (fun hc => ?_)
  · replace h := it_p hc h
    refine aw_iload_n hG 1 rfl dX7_kind_14 rfl ?_
    refine aw_lload_n hG 2 rfl dX7_kind_15 rfl ?_
    refine aw_callSl (As := [.int x1, .long x2]) (rest := []) hG (c_X7_sizeOf (x0 := x1) (x1 := x2) (m := v_1.2) ) l_634 ws_X7_sizeOf rfl rfl rfl (by decide) (Nat.zero_le _) (Nat.zero_le _) (Nat.le_of_ble_eq_true rfl) dX7_kind_16 ?_
    refine aw_topl (fun x4_2 hx4_2 => ?_)
    replace h := lt_r hx4_2 h
    refine aw_lstore (L' := [(4, .long x4_2), (0, .ref (wad (cxw g) 17)), (1, .int x1), (2, .long x2)]) hG dX7_kind_19 (by decide) rfl ?_
    refine aw_lload hG 0 rfl dX7_kind_21 ?_
    refine aw_lconst (v := 0) hG dX7_kind_23 rfl ?_
    refine aw_lc_ne (t := 32) hG dX7_kind_24 rfl dX7_kind_25 rfl rfl (fun hc => ?_) (fun hc => ?_)
    · replace h := it_n hc h
      refine aw_lload hG 0 rfl dX7_kind_32 ?_
      refine aw_lconst (v := 1) hG dX7_kind_34 rfl ?_
      refine aw_iload_n hG 2 rfl dX7_kind_35 rfl ?_
      refine aw_callSi (As := [.int x1]) (rest := [.long 1, .long x4_2]) hG (c_X7_precision (x0 := x1) (m := v_1.2) ) l_616 ws_X7_precision rfl rfl rfl (by decide) (Nat.zero_le _) (Nat.zero_le _) (Nat.le_of_ble_eq_true rfl) dX7_kind_36 ?_
      refine aw_iconst (v := 1) hG dX7_kind_39 rfl ?_
      refine aw_isub hG dX7_kind_40 ?_
      refine aw_lshlJ hG dX7_kind_41 ?_
      refine aw_lc_ge (t := 50) hG dX7_kind_42 rfl dX7_kind_43 rfl rfl (fun hc => ?_) (fun hc => ?_)
      · replace h := it_p hc h
        refine aw_lload hG 0 rfl dX7_kind_50 ?_
        refine aw_iload_n hG 2 rfl dX7_kind_52 rfl ?_
        refine aw_callSl (As := [.int x1]) (rest := [.long x4_2]) hG (c_X7_infinite (x0 := x1) (m := v_1.2) ) l_638 ws_X7_infinite rfl rfl rfl (by decide) (Nat.zero_le _) (Nat.zero_le _) (Nat.le_of_ble_eq_true rfl) dX7_kind_53 ?_
        refine aw_lc_ge (t := 64) hG dX7_kind_56 rfl dX7_kind_57 rfl rfl (fun hc => ?_) (fun hc => ?_)
        · replace h := it_p hc h
          refine aw_lload hG 0 rfl dX7_kind_64 ?_
          refine aw_iload_n hG 2 rfl dX7_kind_66 rfl ?_
          refine aw_callSl (As := [.int x1]) (rest := [.long x4_2]) hG (c_X7_infinite (x0 := x1) (m := v_1.2) ) l_638 ws_X7_infinite rfl rfl rfl (by decide) (Nat.zero_le _) (Nat.zero_le _) (Nat.le_of_ble_eq_true rfl) dX7_kind_67 ?_
          refine aw_lc_ne (t := 78) hG dX7_kind_70 rfl dX7_kind_71 rfl rfl (fun hc => ?_) (fun hc => ?_)
          · replace h := it_n hc h
            refine aw_iconst (v := 4) hG dX7_kind_78 rfl ?_
            subst h
            exact FinI.z hK dX7_kind_79
          · replace h := it_p hc h
            refine aw_iconst (v := 3) hG dX7_kind_74 rfl ?_
            refine aw_goto (t := 79) hG dX7_kind_75 rfl ?_
            subst h
            exact FinI.z hK dX7_kind_79
        · replace h := it_n hc h
          refine aw_iconst (v := 2) hG dX7_kind_60 rfl ?_
          refine aw_goto (t := 79) hG dX7_kind_61 rfl ?_
          subst h
          exact FinI.z hK dX7_kind_79
      · replace h := it_n hc h
        refine aw_iconst (v := 1) hG dX7_kind_46 rfl ?_
        refine aw_goto (t := 79) hG dX7_kind_47 rfl ?_
        subst h
        exact FinI.z hK dX7_kind_79
    · replace h := it_p hc h
      refine aw_iconst (v := 0) hG dX7_kind_28 rfl ?_
      refine aw_goto (t := 79) hG dX7_kind_29 rfl ?_
      subst h
      exact FinI.z hK dX7_kind_79
  · replace h := it_n hc h
    refine aw_iconst (v := 0) hG dX7_kind_12 rfl ?_
    subst h
    exact FinI.z hK dX7_kind_13
theorem c_X7_kind {c : CS} {m : MS} {z : Nat → Int64} {x1 : Int32} {x2 : Int64} {s : Int32 × MS}  (h : f_X7_kind x1 x2 m = s) : Ct yX7_kind cX7_kind 6 (some .int) 4 (fun w => [.ref (wad w 17), .int x1, .long x2]) (c, m, z) (fun _ => some (.int s.1)) (c, s.2, z) := Ct_ofI (by decide +kernel) (fun _ => Nat.le_of_ble_eq_true rfl) (fun g hG hK => w_X7_kind hG h hK)
noncomputable def f_X7_reads_J29 (x1 : Int32) (x2 : Int64) (x4 : Int64) (x6 : Int32) (s0 : Int32) (m : MS) : Option (Int32 × MS) :=
  lt (f_X7_refuses s0 m) fun v_1 =>
  if v_1.1 = 0 then
    Option.bind (f_X7_roundTens x1 x4 x6 0 v_1.2) fun v_2 =>
    if (mJ v_2 2) = x2 then
      some (1, v_2)
    else
      some (0, v_2)
  else
    some (0, v_1.2)
set_option maxRecDepth 20000 in
theorem w_X7_reads_J29 {g : Cx} {mc ms : Nat} {c : CS} {m : MS} {z : Nat → Int64} {x1 : Int32} {x2 : Int64} {x4 : Int64} {x6 : Int32} {s0 : Int32} {s : (Int32 × MS)}  (hG : Gd g RX7 cX7_reads 7 7 mc ms) (h : f_X7_reads_J29 x1 x2 x4 x6 s0 m = some s) (hK : FinZ g cX7_reads mc ms s.1 (c, s.2, z)) : AW g 29 [(0, .ref (wad (cxw g) 17)), (1, .int x1), (2, .long x2), (4, .long x4), (6, .int x6)] [.int s0, .ref (wad (cxw g) 17)] (c, m, z) 0 0 := by
  unfold f_X7_reads_J29 at h
  obtain ⟨v_1, hv_1⟩ : ∃ y, y = f_X7_refuses s0 m := ⟨_, rfl⟩
  replace h := lt_r hv_1 h
  refine aw_callVi (As := [.int s0]) (rest := []) hG (c_X7_refuses (x1 := s0) (m := m)  hv_1.symm) l_718 wv_X7_refuses (rv_X7 hG) rfl rfl rfl (by decide) (Nat.zero_le _) (Nat.zero_le _) (Nat.le_of_ble_eq_true rfl) dX7_reads_29 ?_
  refine aw_if_eq (t := 37) hG dX7_reads_32 rfl (fun hc => ?_) (fun hc => ?_)
  · replace h := it_p hc h
    refine aw_aload_n hG 0 rfl dX7_reads_37 rfl ?_
    refine aw_iload_n hG 1 rfl dX7_reads_38 rfl ?_
    refine aw_lload hG 3 rfl dX7_reads_39 ?_
    refine aw_iload hG 4 rfl dX7_reads_41 ?_
    refine aw_iconst (v := 0) hG dX7_reads_43 rfl ?_
    obtain ⟨v_2, hv_2, h⟩ := bd_o h
    refine aw_callVv (As := [.int x1, .long x4, .int x6, .int 0]) (rest := []) hG (c_X7_roundTens (x1 := x1) (x2 := x4) (x4 := x6) (x5 := 0) (m := v_1.2)  hv_2) l_897 wv_X7_roundTens (rv_X7 hG) rfl rfl rfl (by decide) (Nat.zero_le _) (Nat.zero_le _) (Nat.le_of_ble_eq_true rfl) dX7_reads_44 ?_
    refine aw_aload_n hG 0 rfl dX7_reads_47 rfl ?_
    refine gt_m_rounded hG l_678 dX7_reads_48 ?_
    refine aw_lload_n hG 2 rfl dX7_reads_51 rfl ?_
    refine aw_lc_ne (t := 60) hG dX7_reads_52 rfl dX7_reads_53 rfl rfl (fun hc => ?_) (fun hc => ?_)
    · replace h := it_n hc h
      refine aw_iconst (v := 0) hG dX7_reads_60 rfl ?_
      obtain rfl := Option.some.inj h
      exact FinZ.z hK (Or.inl rfl) dX7_reads_61
    · replace h := it_p hc h
      refine aw_iconst (v := 1) hG dX7_reads_56 rfl ?_
      refine aw_goto (t := 61) hG dX7_reads_57 rfl ?_
      obtain rfl := Option.some.inj h
      exact FinZ.z hK (Or.inr rfl) dX7_reads_61
  · replace h := it_n hc h
    refine aw_iconst (v := 0) hG dX7_reads_35 rfl ?_
    obtain rfl := Option.some.inj h
    exact FinZ.z hK (Or.inl rfl) dX7_reads_36
noncomputable def f_X7_reads (x1 : Int32) (x2 : Int64) (x4 : Int64) (x6 : Int32) (m : MS) : Option (Int32 × MS) :=
  if (f_X7_isPattern x1 x2) = 0 then
    f_X7_reads_J29 x1 x2 x4 x6 0 m
  else
    if (f_X7_in x6.toInt64 (-5000) 5000) = 0 then
      f_X7_reads_J29 x1 x2 x4 x6 0 m
    else
      f_X7_reads_J29 x1 x2 x4 x6 1 m
set_option maxRecDepth 20000 in
theorem w_X7_reads {g : Cx} {mc ms : Nat} {c : CS} {m : MS} {z : Nat → Int64} {x1 : Int32} {x2 : Int64} {x4 : Int64} {x6 : Int32} {s : (Int32 × MS)}  (hG : Gd g RX7 cX7_reads 7 7 mc ms) (h : f_X7_reads x1 x2 x4 x6 m = some s) (hK : FinZ g cX7_reads mc ms s.1 (c, s.2, z)) : AW g 0 [(0, .ref (wad (cxw g) 17)), (1, .int x1), (2, .long x2), (4, .long x4), (6, .int x6)] [] (c, m, z) 0 0 := by
  unfold f_X7_reads at h
  refine aw_aload_n hG 0 rfl dX7_reads_0 rfl ?_
  refine aw_iload_n hG 1 rfl dX7_reads_1 rfl ?_
  refine aw_lload_n hG 2 rfl dX7_reads_2 rfl ?_
  refine aw_callSi (As := [.int x1, .long x2]) (rest := [.ref (wad (cxw g) 17)]) hG (c_X7_isPattern (x0 := x1) (x1 := x2) (m := m) ) l_850 ws_X7_isPattern rfl rfl rfl (by decide) (Nat.zero_le _) (Nat.zero_le _) (Nat.le_of_ble_eq_true rfl) dX7_reads_3 ?_
  refine aw_if_eq (t := 28) hG dX7_reads_6 rfl (fun hc => ?_) (fun hc => ?_)
  · replace h := it_p hc h
    refine aw_iconst (v := 0) hG dX7_reads_28 rfl ?_
    exact w_X7_reads_J29 (x1 := x1) (x2 := x2) (x4 := x4) (x6 := x6) (s0 := 0) (m := m) hG h hK
  · replace h := it_n hc h
    refine aw_iload hG 4 rfl dX7_reads_9 ?_
    refine aw_i2l hG dX7_reads_11 ?_
    refine aw_ldc2 hG l_902 dX7_reads_12 ?_
    refine aw_ldc2 hG l_903 dX7_reads_15 ?_
    refine aw_callSi (As := [.long x6.toInt64, .long (-5000), .long 5000]) (rest := [.ref (wad (cxw g) 17)]) hG (c_X7_in (x0 := x6.toInt64) (x2 := (-5000)) (x4 := 5000) (m := m) ) l_626 ws_X7_in rfl rfl rfl (by decide) (Nat.zero_le _) (Nat.zero_le _) (Nat.le_of_ble_eq_true rfl) dX7_reads_18 ?_
    refine aw_if_eq (t := 28) hG dX7_reads_21 rfl (fun hc => ?_) (fun hc => ?_)
    · replace h := it_p hc h
      refine aw_iconst (v := 0) hG dX7_reads_28 rfl ?_
      exact w_X7_reads_J29 (x1 := x1) (x2 := x2) (x4 := x4) (x6 := x6) (s0 := 0) (m := m) hG h hK
    · replace h := it_n hc h
      refine aw_iconst (v := 1) hG dX7_reads_24 rfl ?_
      refine aw_goto (t := 29) hG dX7_reads_25 rfl ?_
      exact w_X7_reads_J29 (x1 := x1) (x2 := x2) (x4 := x4) (x6 := x6) (s0 := 1) (m := m) hG h hK
theorem c_X7_reads {c : CS} {m : MS} {z : Nat → Int64} {x1 : Int32} {x2 : Int64} {x4 : Int64} {x6 : Int32} {s : Int32 × MS}  (h : f_X7_reads x1 x2 x4 x6 m = some s) : Ct yX7_reads cX7_reads 7 (some .boolean) 7 (fun w => [.ref (wad w 17), .int x1, .long x2, .long x4, .int x6]) (c, m, z) (fun _ => some (.int s.1)) (c, s.2, z) := Ct_ofZ (by decide +kernel) (fun _ => Nat.le_of_ble_eq_true rfl) (fun g hG hK => w_X7_reads hG h hK)
def f_X7_holds_J32 (s0 : Int32) (m : MS) : Int32 × MS :=
  lt (f_X7_refuses s0 m) fun v_1 =>
  if v_1.1 = 0 then
    (1, v_1.2)
  else
    (0, v_1.2)
set_option maxRecDepth 20000 in
theorem w_X7_holds_J32 {g : Cx} {mc ms : Nat} {c : CS} {m : MS} {z : Nat → Int64} {s0 : Int32} {s : Int32 × MS}  (hG : Gd g RX7 cX7_holds 4 5 mc ms) (h : f_X7_holds_J32 s0 m = s) (hK : FinZ g cX7_holds mc ms s.1 (c, s.2, z)) : AW g 32 [] [.int s0, .ref (wad (cxw g) 17)] (c, m, z) 0 0 := by
  unfold f_X7_holds_J32 at h
  obtain ⟨v_1, hv_1⟩ : ∃ y, y = f_X7_refuses s0 m := ⟨_, rfl⟩
  replace h := lt_r hv_1 h
  refine aw_callVi (As := [.int s0]) (rest := []) hG (c_X7_refuses (x1 := s0) (m := m)  hv_1.symm) l_718 wv_X7_refuses (rv_X7 hG) rfl rfl rfl (by decide) (Nat.zero_le _) (Nat.zero_le _) (Nat.le_of_ble_eq_true rfl) dX7_holds_32 ?_
  refine aw_if_ne (t := 42) hG dX7_holds_35 rfl (fun hc => ?_) (fun hc => ?_)
  · replace h := it_n hc h
    refine aw_iconst (v := 0) hG dX7_holds_42 rfl ?_
    subst h
    exact FinZ.z hK (Or.inl rfl) dX7_holds_43
  · replace h := it_p hc h
    refine aw_iconst (v := 1) hG dX7_holds_38 rfl ?_
    refine aw_goto (t := 43) hG dX7_holds_39 rfl ?_
    subst h
    exact FinZ.z hK (Or.inr rfl) dX7_holds_43
def f_X7_holds (x1 : Int32) (x2 : Int64) (m : MS) : Int32 × MS :=
  if (f_X7_isPattern x1 x2) = 0 then
    f_X7_holds_J32 0 m
  else
    if (f_X7_isFinite x1 x2) = 0 then
      f_X7_holds_J32 0 m
    else
      if (f_X7_sizeOf x1 x2) = 0 then
        f_X7_holds_J32 0 m
      else
        f_X7_holds_J32 1 m
set_option maxRecDepth 20000 in
theorem w_X7_holds {g : Cx} {mc ms : Nat} {c : CS} {m : MS} {z : Nat → Int64} {x1 : Int32} {x2 : Int64} {s : Int32 × MS}  (hG : Gd g RX7 cX7_holds 4 5 mc ms) (h : f_X7_holds x1 x2 m = s) (hK : FinZ g cX7_holds mc ms s.1 (c, s.2, z)) : AW g 0 [(0, .ref (wad (cxw g) 17)), (1, .int x1), (2, .long x2)] [] (c, m, z) 0 0 := by
  unfold f_X7_holds at h
  refine aw_aload_n hG 0 rfl dX7_holds_0 rfl ?_
  refine aw_iload_n hG 1 rfl dX7_holds_1 rfl ?_
  refine aw_lload_n hG 2 rfl dX7_holds_2 rfl ?_
  refine aw_callSi (As := [.int x1, .long x2]) (rest := [.ref (wad (cxw g) 17)]) hG (c_X7_isPattern (x0 := x1) (x1 := x2) (m := m) ) l_850 ws_X7_isPattern rfl rfl rfl (by decide) (Nat.zero_le _) (Nat.zero_le _) (Nat.le_of_ble_eq_true rfl) dX7_holds_3 ?_
  refine aw_if_eq (t := 31) hG dX7_holds_6 rfl (fun hc => ?_) (fun hc => ?_)
  · replace h := it_p hc h
    refine aw_iconst (v := 0) hG dX7_holds_31 rfl ?_
    refine aw_sub (L' := []) [] rfl ?_
    exact w_X7_holds_J32 (s0 := 0) (m := m) hG h hK
  · replace h := it_n hc h
    refine aw_iload_n hG 1 rfl dX7_holds_9 rfl ?_
    refine aw_lload_n hG 2 rfl dX7_holds_10 rfl ?_
    refine aw_callSi (As := [.int x1, .long x2]) (rest := [.ref (wad (cxw g) 17)]) hG (c_X7_isFinite (x0 := x1) (x1 := x2) (m := m) ) l_817 ws_X7_isFinite rfl rfl rfl (by decide) (Nat.zero_le _) (Nat.zero_le _) (Nat.le_of_ble_eq_true rfl) dX7_holds_11 ?_
    refine aw_if_eq (t := 31) hG dX7_holds_14 rfl (fun hc => ?_) (fun hc => ?_)
    · replace h := it_p hc h
      refine aw_iconst (v := 0) hG dX7_holds_31 rfl ?_
      refine aw_sub (L' := []) [] rfl ?_
      exact w_X7_holds_J32 (s0 := 0) (m := m) hG h hK
    · replace h := it_n hc h
      refine aw_iload_n hG 1 rfl dX7_holds_17 rfl ?_
      refine aw_lload_n hG 2 rfl dX7_holds_18 rfl ?_
      refine aw_callSl (As := [.int x1, .long x2]) (rest := [.ref (wad (cxw g) 17)]) hG (c_X7_sizeOf (x0 := x1) (x1 := x2) (m := m) ) l_634 ws_X7_sizeOf rfl rfl rfl (by decide) (Nat.zero_le _) (Nat.zero_le _) (Nat.le_of_ble_eq_true rfl) dX7_holds_19 ?_
      refine aw_lconst (v := 0) hG dX7_holds_22 rfl ?_
      refine aw_lc_eq (t := 31) hG dX7_holds_23 rfl dX7_holds_24 rfl rfl (fun hc => ?_) (fun hc => ?_)
      · replace h := it_p hc h
        refine aw_iconst (v := 0) hG dX7_holds_31 rfl ?_
        refine aw_sub (L' := []) [] rfl ?_
        exact w_X7_holds_J32 (s0 := 0) (m := m) hG h hK
      · replace h := it_n hc h
        refine aw_iconst (v := 1) hG dX7_holds_27 rfl ?_
        refine aw_goto (t := 32) hG dX7_holds_28 rfl ?_
        refine aw_sub (L' := []) [] rfl ?_
        exact w_X7_holds_J32 (s0 := 1) (m := m) hG h hK
theorem c_X7_holds {c : CS} {m : MS} {z : Nat → Int64} {x1 : Int32} {x2 : Int64} {s : Int32 × MS}  (h : f_X7_holds x1 x2 m = s) : Ct yX7_holds cX7_holds 4 (some .boolean) 5 (fun w => [.ref (wad w 17), .int x1, .long x2]) (c, m, z) (fun _ => some (.int s.1)) (c, s.2, z) := Ct_ofZ (by decide +kernel) (fun _ => Nat.le_of_ble_eq_true rfl) (fun g hG hK => w_X7_holds hG h hK)
