def f_JM_max (x0 : Int32) (x1 : Int32) : Int32 :=
  if x0 < x1 then
    x1
  else
    x0
set_option maxRecDepth 20000 in
theorem w_JM_max {g : Cx} {mc ms : Nat} {c : CS} {m : MS} {z : Nat → Int64} {x0 : Int32} {x1 : Int32} {s : Int32}  (hG : Gd g RJM cJM_max 2 1 mc ms) (h : f_JM_max x0 x1 = s) (hK : FinI g cJM_max mc ms s (c, m, z)) : AW g 0 [(0, .int x0), (1, .int x1)] [] (c, m, z) 0 0 := by
  unfold f_JM_max at h
  refine aw_iload_n hG 0 rfl dJM_max_0 rfl ?_
  refine aw_iload_n hG 1 rfl dJM_max_1 rfl ?_
  refine aw_icmp_lt (t := 9) hG dJM_max_2 rfl (fun hc => ?_) (fun hc => ?_)
  · replace h := it_p hc h
    refine aw_iload_n hG 1 rfl dJM_max_9 rfl ?_
    subst h
    exact FinI.z hK dJM_max_10
  · replace h := it_n hc h
    refine aw_iload_n hG 0 rfl dJM_max_5 rfl ?_
    refine aw_goto (t := 10) hG dJM_max_6 rfl ?_
    subst h
    exact FinI.z hK dJM_max_10
theorem c_JM_max {c : CS} {m : MS} {z : Nat → Int64} {x0 : Int32} {x1 : Int32}  : Ct yJM_max cJM_max 2 (some .int) 1 (fun w => [.int x0, .int x1]) (c, m, z) (fun _ => some (.int (f_JM_max x0 x1))) (c, m, z) := Ct_ofI (by decide +kernel) (fun _ => Nat.le_of_ble_eq_true rfl) (fun g hG hK => w_JM_max hG rfl hK)
def f_JM_min (x0 : Int32) (x1 : Int32) : Int32 :=
  if x1 < x0 then
    x1
  else
    x0
set_option maxRecDepth 20000 in
theorem w_JM_min {g : Cx} {mc ms : Nat} {c : CS} {m : MS} {z : Nat → Int64} {x0 : Int32} {x1 : Int32} {s : Int32}  (hG : Gd g RJM cJM_min 2 1 mc ms) (h : f_JM_min x0 x1 = s) (hK : FinI g cJM_min mc ms s (c, m, z)) : AW g 0 [(0, .int x0), (1, .int x1)] [] (c, m, z) 0 0 := by
  unfold f_JM_min at h
  refine aw_iload_n hG 0 rfl dJM_min_0 rfl ?_
  refine aw_iload_n hG 1 rfl dJM_min_1 rfl ?_
  refine aw_icmp_gt (t := 9) hG dJM_min_2 rfl (fun hc => ?_) (fun hc => ?_)
  · replace h := it_p hc h
    refine aw_iload_n hG 1 rfl dJM_min_9 rfl ?_
    subst h
    exact FinI.z hK dJM_min_10
  · replace h := it_n hc h
    refine aw_iload_n hG 0 rfl dJM_min_5 rfl ?_
    refine aw_goto (t := 10) hG dJM_min_6 rfl ?_
    subst h
    exact FinI.z hK dJM_min_10
theorem c_JM_min {c : CS} {m : MS} {z : Nat → Int64} {x0 : Int32} {x1 : Int32}  : Ct yJM_min cJM_min 2 (some .int) 1 (fun w => [.int x0, .int x1]) (c, m, z) (fun _ => some (.int (f_JM_min x0 x1))) (c, m, z) := Ct_ofI (by decide +kernel) (fun _ => Nat.le_of_ble_eq_true rfl) (fun g hG hK => w_JM_min hG rfl hK)
def f_JM_maxL (x0 : Int64) (x2 : Int64) : Int64 :=
  if x0 < x2 then
    x2
  else
    x0
set_option maxRecDepth 20000 in
theorem w_JM_maxL {g : Cx} {mc ms : Nat} {c : CS} {m : MS} {z : Nat → Int64} {x0 : Int64} {x2 : Int64} {s : Int64}  (hG : Gd g RJM cJM_maxL 4 1 mc ms) (h : f_JM_maxL x0 x2 = s) (hK : FinJ g cJM_maxL mc ms s (c, m, z)) : AW g 0 [(0, .long x0), (2, .long x2)] [] (c, m, z) 0 0 := by
  unfold f_JM_maxL at h
  refine aw_lload_n hG 0 rfl dJM_maxL_0 rfl ?_
  refine aw_lload_n hG 1 rfl dJM_maxL_1 rfl ?_
  refine aw_lc_lt (t := 10) hG dJM_maxL_2 rfl dJM_maxL_3 rfl rfl (fun hc => ?_) (fun hc => ?_)
  · replace h := it_p hc h
    refine aw_lload_n hG 1 rfl dJM_maxL_10 rfl ?_
    subst h
    exact FinJ.z hK dJM_maxL_11
  · replace h := it_n hc h
    refine aw_lload_n hG 0 rfl dJM_maxL_6 rfl ?_
    refine aw_goto (t := 11) hG dJM_maxL_7 rfl ?_
    subst h
    exact FinJ.z hK dJM_maxL_11
theorem c_JM_maxL {c : CS} {m : MS} {z : Nat → Int64} {x0 : Int64} {x2 : Int64}  : Ct yJM_maxL cJM_maxL 4 (some .long) 1 (fun w => [.long x0, .long x2]) (c, m, z) (fun _ => some (.long (f_JM_maxL x0 x2))) (c, m, z) := Ct_ofJ (by decide +kernel) (fun _ => Nat.le_of_ble_eq_true rfl) (fun g hG hK => w_JM_maxL hG rfl hK)
def f_JM_minL (x0 : Int64) (x2 : Int64) : Int64 :=
  if x2 < x0 then
    x2
  else
    x0
set_option maxRecDepth 20000 in
theorem w_JM_minL {g : Cx} {mc ms : Nat} {c : CS} {m : MS} {z : Nat → Int64} {x0 : Int64} {x2 : Int64} {s : Int64}  (hG : Gd g RJM cJM_minL 4 1 mc ms) (h : f_JM_minL x0 x2 = s) (hK : FinJ g cJM_minL mc ms s (c, m, z)) : AW g 0 [(0, .long x0), (2, .long x2)] [] (c, m, z) 0 0 := by
  unfold f_JM_minL at h
  refine aw_lload_n hG 0 rfl dJM_minL_0 rfl ?_
  refine aw_lload_n hG 1 rfl dJM_minL_1 rfl ?_
  refine aw_lc_gt (t := 10) hG dJM_minL_2 rfl dJM_minL_3 rfl rfl (fun hc => ?_) (fun hc => ?_)
  · replace h := it_p hc h
    refine aw_lload_n hG 1 rfl dJM_minL_10 rfl ?_
    subst h
    exact FinJ.z hK dJM_minL_11
  · replace h := it_n hc h
    refine aw_lload_n hG 0 rfl dJM_minL_6 rfl ?_
    refine aw_goto (t := 11) hG dJM_minL_7 rfl ?_
    subst h
    exact FinJ.z hK dJM_minL_11
theorem c_JM_minL {c : CS} {m : MS} {z : Nat → Int64} {x0 : Int64} {x2 : Int64}  : Ct yJM_minL cJM_minL 4 (some .long) 1 (fun w => [.long x0, .long x2]) (c, m, z) (fun _ => some (.long (f_JM_minL x0 x2))) (c, m, z) := Ct_ofJ (by decide +kernel) (fun _ => Nat.le_of_ble_eq_true rfl) (fun g hG hK => w_JM_minL hG rfl hK)
def f_JM_floorDiv (x0 : Int32) (x1 : Int32) : Int32 :=
  lt (x0 / x1) fun x2_1 =>
  if 0 ≤ (x0 ^^^ x1) then
    x2_1
  else
    if (x2_1 * x1) = x0 then
      x2_1
    else
      (x2_1 - 1)
set_option maxRecDepth 20000 in
theorem w_JM_floorDiv {g : Cx} {mc ms : Nat} {c : CS} {m : MS} {z : Nat → Int64} {x0 : Int32} {x1 : Int32} {s : Int32} (hp : ¬ x1 = 0) (hG : Gd g RJM cJM_floorDiv 3 1 mc ms) (h : f_JM_floorDiv x0 x1 = s) (hK : FinI g cJM_floorDiv mc ms s (c, m, z)) : AW g 0 [(0, .int x0), (1, .int x1)] [] (c, m, z) 0 0 := by
  unfold f_JM_floorDiv at h
  refine aw_iload_n hG 0 rfl dJM_floorDiv_0 rfl ?_
  refine aw_iload_n hG 1 rfl dJM_floorDiv_1 rfl ?_
  refine aw_idiv hG dJM_floorDiv_2 hp ?_
  refine aw_topi (fun x2_1 hx2_1 => ?_)
  replace h := lt_r hx2_1 h
  refine aw_istore_n (L' := [(2, .int x2_1), (0, .int x0), (1, .int x1)]) hG dJM_floorDiv_3 rfl (by decide) rfl ?_
  refine aw_iload_n hG 1 rfl dJM_floorDiv_4 rfl ?_
  refine aw_iload_n hG 2 rfl dJM_floorDiv_5 rfl ?_
  refine aw_ixor hG dJM_floorDiv_6 ?_
  refine aw_if_ge (t := 21) hG dJM_floorDiv_7 rfl (fun hc => ?_) (fun hc => ?_)
  · replace h := it_p hc h
    refine aw_iload_n hG 0 rfl dJM_floorDiv_21 rfl ?_
    subst h
    exact FinI.z hK dJM_floorDiv_22
  · replace h := it_n hc h
    refine aw_iload_n hG 0 rfl dJM_floorDiv_10 rfl ?_
    refine aw_iload_n hG 2 rfl dJM_floorDiv_11 rfl ?_
    refine aw_imul hG dJM_floorDiv_12 ?_
    refine aw_iload_n hG 1 rfl dJM_floorDiv_13 rfl ?_
    refine aw_icmp_eq (t := 21) hG dJM_floorDiv_14 rfl (fun hc => ?_) (fun hc => ?_)
    · replace h := it_p hc h
      refine aw_iload_n hG 0 rfl dJM_floorDiv_21 rfl ?_
      subst h
      exact FinI.z hK dJM_floorDiv_22
    · replace h := it_n hc h
      refine aw_iload_n hG 0 rfl dJM_floorDiv_17 rfl ?_
      refine aw_iconst (v := 1) hG dJM_floorDiv_18 rfl ?_
      refine aw_isub hG dJM_floorDiv_19 ?_
      subst h
      exact FinI.z hK dJM_floorDiv_20
theorem c_JM_floorDiv {c : CS} {m : MS} {z : Nat → Int64} {x0 : Int32} {x1 : Int32} (hp : ¬ x1 = 0) : Ct yJM_floorDiv cJM_floorDiv 3 (some .int) 1 (fun w => [.int x0, .int x1]) (c, m, z) (fun _ => some (.int (f_JM_floorDiv x0 x1))) (c, m, z) := Ct_ofI (by decide +kernel) (fun _ => Nat.le_of_ble_eq_true rfl) (fun g hG hK => w_JM_floorDiv hp hG rfl hK)
def f_JM_floorMod (x0 : Int32) (x1 : Int32) : Int32 :=
  lt (irm x0 x1) fun x2_1 =>
  if 0 ≤ (x0 ^^^ x1) then
    x2_1
  else
    if x2_1 = 0 then
      x2_1
    else
      (x2_1 + x1)
set_option maxRecDepth 20000 in
theorem w_JM_floorMod {g : Cx} {mc ms : Nat} {c : CS} {m : MS} {z : Nat → Int64} {x0 : Int32} {x1 : Int32} {s : Int32} (hp : ¬ x1 = 0) (hG : Gd g RJM cJM_floorMod 3 1 mc ms) (h : f_JM_floorMod x0 x1 = s) (hK : FinI g cJM_floorMod mc ms s (c, m, z)) : AW g 0 [(0, .int x0), (1, .int x1)] [] (c, m, z) 0 0 := by
  unfold f_JM_floorMod at h
  refine aw_iload_n hG 0 rfl dJM_floorMod_0 rfl ?_
  refine aw_iload_n hG 1 rfl dJM_floorMod_1 rfl ?_
  refine aw_iremJ hG dJM_floorMod_2 hp ?_
  refine aw_topi (fun x2_1 hx2_1 => ?_)
  replace h := lt_r hx2_1 h
  refine aw_istore_n (L' := [(2, .int x2_1), (0, .int x0), (1, .int x1)]) hG dJM_floorMod_3 rfl (by decide) rfl ?_
  refine aw_iload_n hG 1 rfl dJM_floorMod_4 rfl ?_
  refine aw_iload_n hG 2 rfl dJM_floorMod_5 rfl ?_
  refine aw_ixor hG dJM_floorMod_6 ?_
  refine aw_if_ge (t := 18) hG dJM_floorMod_7 rfl (fun hc => ?_) (fun hc => ?_)
  · replace h := it_p hc h
    refine aw_iload_n hG 0 rfl dJM_floorMod_18 rfl ?_
    subst h
    exact FinI.z hK dJM_floorMod_19
  · replace h := it_n hc h
    refine aw_iload_n hG 0 rfl dJM_floorMod_10 rfl ?_
    refine aw_if_eq (t := 18) hG dJM_floorMod_11 rfl (fun hc => ?_) (fun hc => ?_)
    · replace h := it_p hc h
      refine aw_iload_n hG 0 rfl dJM_floorMod_18 rfl ?_
      subst h
      exact FinI.z hK dJM_floorMod_19
    · replace h := it_n hc h
      refine aw_iload_n hG 0 rfl dJM_floorMod_14 rfl ?_
      refine aw_iload_n hG 2 rfl dJM_floorMod_15 rfl ?_
      refine aw_iadd hG dJM_floorMod_16 ?_
      subst h
      exact FinI.z hK dJM_floorMod_17
theorem c_JM_floorMod {c : CS} {m : MS} {z : Nat → Int64} {x0 : Int32} {x1 : Int32} (hp : ¬ x1 = 0) : Ct yJM_floorMod cJM_floorMod 3 (some .int) 1 (fun w => [.int x0, .int x1]) (c, m, z) (fun _ => some (.int (f_JM_floorMod x0 x1))) (c, m, z) := Ct_ofI (by decide +kernel) (fun _ => Nat.le_of_ble_eq_true rfl) (fun g hG hK => w_JM_floorMod hp hG rfl hK)
def f_JL_divideUnsigned (x0 : Int64) (x2 : Int64) : Int64 :=
  if x2 < 0 then
    (jushr (x0 &&& ((x0 - x2) ^^^ (-1))) 63)
  else
    lt (jshl ((jushr x0 1) / x2) 1) fun x4_1 =>
    lt (x0 - (x4_1 * x2)) fun x6_2 =>
    (x4_1 + (jushr (x6_2 ||| ((x6_2 - x2) ^^^ (-1))) 63))
set_option maxRecDepth 20000 in
theorem w_JL_divideUnsigned {g : Cx} {mc ms : Nat} {c : CS} {m : MS} {z : Nat → Int64} {x0 : Int64} {x2 : Int64} {s : Int64} (hp : ¬ x2 = 0) (hG : Gd g RJL cJL_divideUnsigned 8 1 mc ms) (h : f_JL_divideUnsigned x0 x2 = s) (hK : FinJ g cJL_divideUnsigned mc ms s (c, m, z)) : AW g 0 [(0, .long x0), (2, .long x2)] [] (c, m, z) 0 0 := by
  unfold f_JL_divideUnsigned at h
  refine aw_lload_n hG 1 rfl dJL_divideUnsigned_0 rfl ?_
  refine aw_lconst (v := 0) hG dJL_divideUnsigned_1 rfl ?_
  refine aw_lc_lt (t := 41) hG dJL_divideUnsigned_2 rfl dJL_divideUnsigned_3 rfl rfl (fun hc => ?_) (fun hc => ?_)
  · replace h := it_p hc h
    refine aw_lload_n hG 0 rfl dJL_divideUnsigned_41 rfl ?_
    refine aw_lload_n hG 0 rfl dJL_divideUnsigned_42 rfl ?_
    refine aw_lload_n hG 1 rfl dJL_divideUnsigned_43 rfl ?_
    refine aw_lsub hG dJL_divideUnsigned_44 ?_
    refine aw_ldc2 hG l_888 dJL_divideUnsigned_45 ?_
    refine aw_lxor hG dJL_divideUnsigned_48 ?_
    refine aw_land hG dJL_divideUnsigned_49 ?_
    refine aw_bipush (v := 63) hG dJL_divideUnsigned_50 rfl ?_
    refine aw_lushrJ hG dJL_divideUnsigned_52 ?_
    subst h
    exact FinJ.z hK dJL_divideUnsigned_53
  · replace h := it_n hc h
    refine aw_lload_n hG 0 rfl dJL_divideUnsigned_6 rfl ?_
    refine aw_iconst (v := 1) hG dJL_divideUnsigned_7 rfl ?_
    refine aw_lushrJ hG dJL_divideUnsigned_8 ?_
    refine aw_lload_n hG 1 rfl dJL_divideUnsigned_9 rfl ?_
    refine aw_ldiv hG dJL_divideUnsigned_10 hp ?_
    refine aw_iconst (v := 1) hG dJL_divideUnsigned_11 rfl ?_
    refine aw_lshlJ hG dJL_divideUnsigned_12 ?_
    refine aw_topl (fun x4_1 hx4_1 => ?_)
    replace h := lt_r hx4_1 h
    refine aw_lstore (L' := [(4, .long x4_1), (0, .long x0), (2, .long x2)]) hG dJL_divideUnsigned_13 (by decide) rfl ?_
    refine aw_lload_n hG 1 rfl dJL_divideUnsigned_15 rfl ?_
    refine aw_lload hG 0 rfl dJL_divideUnsigned_16 ?_
    refine aw_lload_n hG 2 rfl dJL_divideUnsigned_18 rfl ?_
    refine aw_lmul hG dJL_divideUnsigned_19 ?_
    refine aw_lsub hG dJL_divideUnsigned_20 ?_
    refine aw_topl (fun x6_2 hx6_2 => ?_)
    replace h := lt_r hx6_2 h
    refine aw_lstore (L' := [(6, .long x6_2), (4, .long x4_1), (0, .long x0), (2, .long x2)]) hG dJL_divideUnsigned_21 (by decide) rfl ?_
    refine aw_lload hG 1 rfl dJL_divideUnsigned_23 ?_
    refine aw_lload hG 0 rfl dJL_divideUnsigned_25 ?_
    refine aw_lload hG 0 rfl dJL_divideUnsigned_27 ?_
    refine aw_lload_n hG 3 rfl dJL_divideUnsigned_29 rfl ?_
    refine aw_lsub hG dJL_divideUnsigned_30 ?_
    refine aw_ldc2 hG l_888 dJL_divideUnsigned_31 ?_
    refine aw_lxor hG dJL_divideUnsigned_34 ?_
    refine aw_lor hG dJL_divideUnsigned_35 ?_
    refine aw_bipush (v := 63) hG dJL_divideUnsigned_36 rfl ?_
    refine aw_lushrJ hG dJL_divideUnsigned_38 ?_
    refine aw_ladd hG dJL_divideUnsigned_39 ?_
    subst h
    exact FinJ.z hK dJL_divideUnsigned_40
theorem c_JL_divideUnsigned {c : CS} {m : MS} {z : Nat → Int64} {x0 : Int64} {x2 : Int64} (hp : ¬ x2 = 0) : Ct yJL_divideUnsigned cJL_divideUnsigned 8 (some .long) 1 (fun w => [.long x0, .long x2]) (c, m, z) (fun _ => some (.long (f_JL_divideUnsigned x0 x2))) (c, m, z) := Ct_ofJ (by decide +kernel) (fun _ => Nat.le_of_ble_eq_true rfl) (fun g hG hK => w_JL_divideUnsigned hp hG rfl hK)
def f_JL_remainderUnsigned (x0 : Int64) (x2 : Int64) : Int64 :=
  if x2 < 0 then
    (x0 - ((jshr (x0 &&& ((x0 - x2) ^^^ (-1))) 63) &&& x2))
  else
    lt (jshl ((jushr x0 1) / x2) 1) fun x4_1 =>
    lt (x0 - (x4_1 * x2)) fun x6_2 =>
    (x6_2 - ((jshr ((x6_2 - x2) ^^^ (-1)) 63) &&& x2))
set_option maxRecDepth 20000 in
theorem w_JL_remainderUnsigned {g : Cx} {mc ms : Nat} {c : CS} {m : MS} {z : Nat → Int64} {x0 : Int64} {x2 : Int64} {s : Int64} (hp : ¬ x2 = 0) (hG : Gd g RJL cJL_remainderUnsigned 8 1 mc ms) (h : f_JL_remainderUnsigned x0 x2 = s) (hK : FinJ g cJL_remainderUnsigned mc ms s (c, m, z)) : AW g 0 [(0, .long x0), (2, .long x2)] [] (c, m, z) 0 0 := by
  unfold f_JL_remainderUnsigned at h
  refine aw_lload_n hG 1 rfl dJL_remainderUnsigned_0 rfl ?_
  refine aw_lconst (v := 0) hG dJL_remainderUnsigned_1 rfl ?_
  refine aw_lc_lt (t := 40) hG dJL_remainderUnsigned_2 rfl dJL_remainderUnsigned_3 rfl rfl (fun hc => ?_) (fun hc => ?_)
  · replace h := it_p hc h
    refine aw_lload_n hG 0 rfl dJL_remainderUnsigned_40 rfl ?_
    refine aw_lload_n hG 0 rfl dJL_remainderUnsigned_41 rfl ?_
    refine aw_lload_n hG 0 rfl dJL_remainderUnsigned_42 rfl ?_
    refine aw_lload_n hG 1 rfl dJL_remainderUnsigned_43 rfl ?_
    refine aw_lsub hG dJL_remainderUnsigned_44 ?_
    refine aw_ldc2 hG l_888 dJL_remainderUnsigned_45 ?_
    refine aw_lxor hG dJL_remainderUnsigned_48 ?_
    refine aw_land hG dJL_remainderUnsigned_49 ?_
    refine aw_bipush (v := 63) hG dJL_remainderUnsigned_50 rfl ?_
    refine aw_lshrJ hG dJL_remainderUnsigned_52 ?_
    refine aw_lload_n hG 1 rfl dJL_remainderUnsigned_53 rfl ?_
    refine aw_land hG dJL_remainderUnsigned_54 ?_
    refine aw_lsub hG dJL_remainderUnsigned_55 ?_
    subst h
    exact FinJ.z hK dJL_remainderUnsigned_56
  · replace h := it_n hc h
    refine aw_lload_n hG 0 rfl dJL_remainderUnsigned_6 rfl ?_
    refine aw_iconst (v := 1) hG dJL_remainderUnsigned_7 rfl ?_
    refine aw_lushrJ hG dJL_remainderUnsigned_8 ?_
    refine aw_lload_n hG 1 rfl dJL_remainderUnsigned_9 rfl ?_
    refine aw_ldiv hG dJL_remainderUnsigned_10 hp ?_
    refine aw_iconst (v := 1) hG dJL_remainderUnsigned_11 rfl ?_
    refine aw_lshlJ hG dJL_remainderUnsigned_12 ?_
    refine aw_topl (fun x4_1 hx4_1 => ?_)
    replace h := lt_r hx4_1 h
    refine aw_lstore (L' := [(4, .long x4_1), (0, .long x0), (2, .long x2)]) hG dJL_remainderUnsigned_13 (by decide) rfl ?_
    refine aw_lload_n hG 1 rfl dJL_remainderUnsigned_15 rfl ?_
    refine aw_lload hG 0 rfl dJL_remainderUnsigned_16 ?_
    refine aw_lload_n hG 2 rfl dJL_remainderUnsigned_18 rfl ?_
    refine aw_lmul hG dJL_remainderUnsigned_19 ?_
    refine aw_lsub hG dJL_remainderUnsigned_20 ?_
    refine aw_topl (fun x6_2 hx6_2 => ?_)
    replace h := lt_r hx6_2 h
    refine aw_lstore (L' := [(6, .long x6_2), (4, .long x4_1), (0, .long x0), (2, .long x2)]) hG dJL_remainderUnsigned_21 (by decide) rfl ?_
    refine aw_lload hG 0 rfl dJL_remainderUnsigned_23 ?_
    refine aw_lload hG 0 rfl dJL_remainderUnsigned_25 ?_
    refine aw_lload_n hG 3 rfl dJL_remainderUnsigned_27 rfl ?_
    refine aw_lsub hG dJL_remainderUnsigned_28 ?_
    refine aw_ldc2 hG l_888 dJL_remainderUnsigned_29 ?_
    refine aw_lxor hG dJL_remainderUnsigned_32 ?_
    refine aw_bipush (v := 63) hG dJL_remainderUnsigned_33 rfl ?_
    refine aw_lshrJ hG dJL_remainderUnsigned_35 ?_
    refine aw_lload_n hG 3 rfl dJL_remainderUnsigned_36 rfl ?_
    refine aw_land hG dJL_remainderUnsigned_37 ?_
    refine aw_lsub hG dJL_remainderUnsigned_38 ?_
    subst h
    exact FinJ.z hK dJL_remainderUnsigned_39
theorem c_JL_remainderUnsigned {c : CS} {m : MS} {z : Nat → Int64} {x0 : Int64} {x2 : Int64} (hp : ¬ x2 = 0) : Ct yJL_remainderUnsigned cJL_remainderUnsigned 8 (some .long) 1 (fun w => [.long x0, .long x2]) (c, m, z) (fun _ => some (.long (f_JL_remainderUnsigned x0 x2))) (c, m, z) := Ct_ofJ (by decide +kernel) (fun _ => Nat.le_of_ble_eq_true rfl) (fun g hG hK => w_JL_remainderUnsigned hp hG rfl hK)
def f_JS_coder (j0 : Nat) : Int32 :=
  if (1 : Int32) = 0 then
    1
  else
    0
set_option maxRecDepth 20000 in
theorem w_JS_coder {g : Cx} {mc ms : Nat} {c : CS} {m : MS} {z : Nat → Int64} {j0 : Nat} {s : Int32} (hj0 : j0 < 27) (hG : Gd g RJS cJS_coder 1 1 mc ms) (h : f_JS_coder j0 = s) (hK : FinB g cJS_coder mc ms s (c, m, z)) : AW g 0 [(0, .ref (wad (cxw g) (40 + j0)))] [] (c, m, z) 0 0 := by
  unfold f_JS_coder at h
  refine aw_gCMP hG l_11 dJS_coder_0 ?_
  refine aw_if_eq (t := 13) hG dJS_coder_3 rfl (fun hc => ?_) (fun hc => ?_)
  · replace h := it_p hc h
    refine aw_iconst (v := 1) hG dJS_coder_13 rfl ?_
    subst h
    exact FinB.z hK rfl dJS_coder_14
  · replace h := it_n hc h
    refine aw_aload_n hG 0 rfl dJS_coder_6 rfl ?_
    refine aw_sxD hG hj0 l_12 dJS_coder_7 ?_
    refine aw_goto (t := 14) hG dJS_coder_10 rfl ?_
    subst h
    exact FinB.z hK rfl dJS_coder_14
theorem c_JS_coder {c : CS} {m : MS} {z : Nat → Int64} {j0 : Nat} (hj0 : j0 < 27) : Ct yJS_coder cJS_coder 1 (some .byte) 1 (fun w => [.ref (wad w (40 + j0))]) (c, m, z) (fun _ => some (.int (f_JS_coder j0))) (c, m, z) := Ct_ofB (by decide +kernel) (fun _ => Nat.le_of_ble_eq_true rfl) (fun g hG hK => w_JS_coder hj0 hG rfl hK)
def f_JS_length (j0 : Nat) : Int32 :=
  (kshr (Int32.ofNat (sxN j0)) (f_JS_coder j0))
set_option maxRecDepth 20000 in
theorem w_JS_length {g : Cx} {mc ms : Nat} {c : CS} {m : MS} {z : Nat → Int64} {j0 : Nat} {s : Int32} (hj0 : j0 < 27) (hG : Gd g RJS cJS_length 1 2 mc ms) (h : f_JS_length j0 = s) (hK : FinI g cJS_length mc ms s (c, m, z)) : AW g 0 [(0, .ref (wad (cxw g) (40 + j0)))] [] (c, m, z) 0 0 := by
  unfold f_JS_length at h
  refine aw_aload_n hG 0 rfl dJS_length_0 rfl ?_
  refine aw_sxV hG hj0 l_18 dJS_length_1 ?_
  refine aw_sxL hG hj0 dJS_length_4 ?_
  refine aw_aload_n hG 0 rfl dJS_length_5 rfl ?_
  refine aw_callVi (As := []) (rest := [.int (Int32.ofNat (sxN j0))]) hG (c_JS_coder (j0 := j0) (c := c) hj0) l_23 wv_JS_coder (rv_S hG hj0) rfl rfl rfl (by decide) (Nat.zero_le _) (Nat.zero_le _) (Nat.le_of_ble_eq_true rfl) dJS_length_6 ?_
  refine aw_ishrJ hG dJS_length_9 ?_
  subst h
  exact FinI.z hK dJS_length_10
theorem c_JS_length {c : CS} {m : MS} {z : Nat → Int64} {j0 : Nat} (hj0 : j0 < 27) : Ct yJS_length cJS_length 1 (some .int) 2 (fun w => [.ref (wad w (40 + j0))]) (c, m, z) (fun _ => some (.int (f_JS_length j0))) (c, m, z) := Ct_ofI (by decide +kernel) (fun _ => Nat.le_of_ble_eq_true rfl) (fun g hG hK => w_JS_length hj0 hG rfl hK)
def f_JS_isLatin1 (j0 : Nat) : Int32 :=
  if (1 : Int32) = 0 then
    0
  else
    if (0 : Int32) = 0 then
      1
    else
      0
set_option maxRecDepth 20000 in
theorem w_JS_isLatin1 {g : Cx} {mc ms : Nat} {c : CS} {m : MS} {z : Nat → Int64} {j0 : Nat} {s : Int32} (hj0 : j0 < 27) (hG : Gd g RJS cJS_isLatin1 1 1 mc ms) (h : f_JS_isLatin1 j0 = s) (hK : FinZ g cJS_isLatin1 mc ms s (c, m, z)) : AW g 0 [(0, .ref (wad (cxw g) (40 + j0)))] [] (c, m, z) 0 0 := by
  unfold f_JS_isLatin1 at h
  refine aw_gCMP hG l_11 dJS_isLatin1_0 ?_
  refine aw_if_eq (t := 17) hG dJS_isLatin1_3 rfl (fun hc => ?_) (fun hc => ?_)
  · replace h := it_p hc h
    refine aw_iconst (v := 0) hG dJS_isLatin1_17 rfl ?_
    subst h
    exact FinZ.z hK (Or.inl rfl) dJS_isLatin1_18
  · replace h := it_n hc h
    refine aw_aload_n hG 0 rfl dJS_isLatin1_6 rfl ?_
    refine aw_sxD hG hj0 l_12 dJS_isLatin1_7 ?_
    refine aw_if_ne (t := 17) hG dJS_isLatin1_10 rfl (fun hc => ?_) (fun hc => ?_)
    · replace h := it_n hc h
      refine aw_iconst (v := 0) hG dJS_isLatin1_17 rfl ?_
      subst h
      exact FinZ.z hK (Or.inl rfl) dJS_isLatin1_18
    · replace h := it_p hc h
      refine aw_iconst (v := 1) hG dJS_isLatin1_13 rfl ?_
      refine aw_goto (t := 18) hG dJS_isLatin1_14 rfl ?_
      subst h
      exact FinZ.z hK (Or.inr rfl) dJS_isLatin1_18
theorem c_JS_isLatin1 {c : CS} {m : MS} {z : Nat → Int64} {j0 : Nat} (hj0 : j0 < 27) : Ct yJS_isLatin1 cJS_isLatin1 1 (some .boolean) 1 (fun w => [.ref (wad w (40 + j0))]) (c, m, z) (fun _ => some (.int (f_JS_isLatin1 j0))) (c, m, z) := Ct_ofZ (by decide +kernel) (fun _ => Nat.le_of_ble_eq_true rfl) (fun g hG hK => w_JS_isLatin1 hj0 hG rfl hK)
theorem b_JS_isLatin1 {j0 : Nat} : f_JS_isLatin1 j0 = 0 ∨ f_JS_isLatin1 j0 = 1 := by
  unfold f_JS_isLatin1
  repeat' split
  all_goals first | exact Or.inl rfl | exact Or.inr rfl
def f_JP_checkIndex (x0 : Int32) (x1 : Int32) : Option Int32 :=
  if x0 < 0 then
    none
  else
    if x0 < x1 then
      some x0
    else
      none
theorem w_JP_checkIndex {g : Cx} {mc ms : Nat} {c : CS} {m : MS} {z : Nat → Int64} {x0 : Int32} {x1 : Int32} {v2 : Value} {s : Int32} (hG : Gd g RJP cJP_checkIndex 3 1 mc ms) (h : f_JP_checkIndex x0 x1 = some s) (hK : FinI g cJP_checkIndex mc ms s (c, m, z)) : AW g 0 [(0, .int x0), (1, .int x1), (2, v2)] [] (c, m, z) 0 0 := by
  unfold f_JP_checkIndex at h
  refine aw_iload_n hG 0 rfl dJP_checkIndex_0 rfl ?_
  refine aw_if_lt (t := 9) hG dJP_checkIndex_1 rfl (fun hc => ?_) (fun hc => ?_)
  · replace h := it_p hc h
    cases h
  · replace h := it_n hc h
    refine aw_iload_n hG 0 rfl dJP_checkIndex_4 rfl ?_
    refine aw_iload_n hG 1 rfl dJP_checkIndex_5 rfl ?_
    refine aw_icmp_lt (t := 16) hG dJP_checkIndex_6 rfl (fun hc => ?_) (fun hc => ?_)
    · replace h := it_p hc h
      refine aw_iload_n hG 0 rfl dJP_checkIndex_16 rfl ?_
      cases h
      exact FinI.z hK dJP_checkIndex_17
    · replace h := it_n hc h
      cases h
theorem c_JP_checkIndex {c : CS} {m : MS} {z : Nat → Int64} {x0 : Int32} {x1 : Int32} {v2 : Value} {s : Int32} (hv2 : v2.category = 1) (h : f_JP_checkIndex x0 x1 = some s) : Ct yJP_checkIndex cJP_checkIndex 3 (some .int) 1 (fun w => [.int x0, .int x1, v2]) (c, m, z) (fun _ => some (.int s)) (c, m, z) := Ct_ofI (by decide +kernel) (fun _ => by simp only [lg_sl, List.flatMap_cons, List.flatMap_nil, hv2, show (Value.int x0).category = 1 from rfl, show (Value.int x1).category = 1 from rfl]; exact Nat.le_of_ble_eq_true rfl) (fun g hG hK => w_JP_checkIndex hG h hK)
def f_JS_checkIndex (x0 : Int32) (x1 : Int32) : Option Unit :=
  Option.bind (f_JP_checkIndex x0 x1) fun v_2 =>
  some ()
set_option maxRecDepth 20000 in
theorem w_JS_checkIndex {g : Cx} {mc ms : Nat} {c : CS} {m : MS} {z : Nat → Int64} {x0 : Int32} {x1 : Int32} {s : Unit}  (hG : Gd g RJS cJS_checkIndex 2 2 mc ms) (h : f_JS_checkIndex x0 x1 = some s) (hK : FinV g cJS_checkIndex mc ms (c, m, z)) : AW g 0 [(0, .int x0), (1, .int x1)] [] (c, m, z) 0 0 := by
  unfold f_JS_checkIndex at h
  refine aw_iload_n hG 0 rfl dJS_checkIndex_0 rfl ?_
  refine aw_iload_n hG 1 rfl dJS_checkIndex_1 rfl ?_
  refine aw_gSIO hG l_2 dJS_checkIndex_2 (fun v_1 hv_1 => ?_)
  obtain ⟨v_2, hv_2, h⟩ := bd_o h
  refine aw_callSi (As := [.int x0, .int x1, v_1]) (rest := []) hG (c_JP_checkIndex (x0 := x0) (x1 := x1) (v2 := v_1) (c := c) hv_1 hv_2) l_3 ws_JP_checkIndex rfl rfl rfl (by decide) (Nat.zero_le _) (Nat.zero_le _) (Nat.le_of_ble_eq_true rfl) dJS_checkIndex_5 ?_
  refine aw_pop hG dJS_checkIndex_8 rfl ?_
  obtain rfl := Option.some.inj h
  exact FinV.z hK dJS_checkIndex_9
theorem c_JS_checkIndex {c : CS} {m : MS} {z : Nat → Int64} {x0 : Int32} {x1 : Int32} {s : Unit}  (h : f_JS_checkIndex x0 x1 = some s) : Ct yJS_checkIndex cJS_checkIndex 2 none 2 (fun w => [.int x0, .int x1]) (c, m, z) (fun _ => none) (c, m, z) := Ct_ofV (by decide +kernel) (fun _ => Nat.le_of_ble_eq_true rfl) (fun g hG hK => w_JS_checkIndex hG h hK)
def f_JB_charAt (j0 : Nat) (x1 : Int32) : Option Int32 :=
  Option.bind (f_JS_checkIndex x1 (Int32.ofNat (sxN j0))) fun v_1 =>
  if vI x1 (sxN j0) then
    if 0 ≤ (i2ch ((sxC j0 x1.toNatClampNeg) &&& 255)).toInt ∧ (i2ch ((sxC j0 x1.toNatClampNeg) &&& 255)).toInt < 65536 then
      some (i2ch ((sxC j0 x1.toNatClampNeg) &&& 255))
    else none
  else none
set_option maxRecDepth 20000 in
theorem w_JB_charAt {g : Cx} {mc ms : Nat} {c : CS} {m : MS} {z : Nat → Int64} {j0 : Nat} {x1 : Int32} {s : Int32} (hj0 : j0 < 27) (hG : Gd g RJB cJB_charAt 2 3 mc ms) (h : f_JB_charAt j0 x1 = some s) (hK : FinC g cJB_charAt mc ms s (c, m, z)) : AW g 0 [(0, .ref (wad (cxw g) (70 + j0))), (1, .int x1)] [] (c, m, z) 0 0 := by
  unfold f_JB_charAt at h
  refine aw_iload_n hG 1 rfl dJB_charAt_0 rfl ?_
  refine aw_aload_n hG 0 rfl dJB_charAt_1 rfl ?_
  refine aw_sxL hG hj0 dJB_charAt_2 ?_
  obtain ⟨v_1, hv_1, h⟩ := bd_o h
  refine aw_callSv (As := [.int x1, .int (Int32.ofNat (sxN j0))]) (rest := []) hG (c_JS_checkIndex (x0 := x1) (x1 := Int32.ofNat (sxN j0)) (c := c)  hv_1) l_7 ws_JS_checkIndex rfl rfl rfl (by decide) (Nat.zero_le _) (Nat.zero_le _) (Nat.le_of_ble_eq_true rfl) dJB_charAt_3 ?_
  refine aw_aload_n hG 0 rfl dJB_charAt_6 rfl ?_
  refine aw_iload_n hG 1 rfl dJB_charAt_7 rfl ?_
  obtain ⟨hi_2, h⟩ := it_o h
  refine aw_sxA hG hj0 hi_2 dJB_charAt_8 ?_
  refine aw_sipush (v := 255) hG dJB_charAt_9 rfl ?_
  refine aw_iand hG dJB_charAt_12 ?_
  refine aw_i2cJ hG dJB_charAt_13 ?_
  obtain ⟨hb_3, h⟩ := it_o h
  obtain rfl := Option.some.inj h
  exact FinC.z hK (nar_c hb_3.1 hb_3.2) dJB_charAt_14
theorem c_JB_charAt {c : CS} {m : MS} {z : Nat → Int64} {j0 : Nat} {x1 : Int32} {s : Int32} (hj0 : j0 < 27) (h : f_JB_charAt j0 x1 = some s) : Ct yJB_charAt cJB_charAt 2 (some .char) 3 (fun w => [.ref (wad w (70 + j0)), .int x1]) (c, m, z) (fun _ => some (.int s)) (c, m, z) := Ct_ofC (by decide +kernel) (fun _ => Nat.le_of_ble_eq_true rfl) (fun g hG hK => w_JB_charAt hj0 hG h hK)
def f_JS_charAt (j0 : Nat) (x1 : Int32) : Option Int32 :=
  if (f_JS_isLatin1 j0) = 0 then
    none
  else
    Option.bind (f_JB_charAt j0 x1) fun v_1 =>
    if 0 ≤ v_1.toInt ∧ v_1.toInt < 65536 then
      some v_1
    else none
set_option maxRecDepth 20000 in
theorem w_JS_charAt {g : Cx} {mc ms : Nat} {c : CS} {m : MS} {z : Nat → Int64} {j0 : Nat} {x1 : Int32} {s : Int32} (hj0 : j0 < 27) (hG : Gd g RJS cJS_charAt 2 4 mc ms) (h : f_JS_charAt j0 x1 = some s) (hK : FinC g cJS_charAt mc ms s (c, m, z)) : AW g 0 [(0, .ref (wad (cxw g) (40 + j0))), (1, .int x1)] [] (c, m, z) 0 0 := by
  unfold f_JS_charAt at h
  refine aw_aload_n hG 0 rfl dJS_charAt_0 rfl ?_
  refine aw_callVi (As := []) (rest := []) hG (c_JS_isLatin1 (j0 := j0) (c := c) hj0) l_13 wv_JS_isLatin1 (rv_S hG hj0) rfl rfl rfl (by decide) (Nat.zero_le _) (Nat.zero_le _) (Nat.le_of_ble_eq_true rfl) dJS_charAt_1 ?_
  refine aw_if_eq (t := 16) hG dJS_charAt_4 rfl (fun hc => ?_) (fun hc => ?_)
  · replace h := it_p hc h
    refine aw_aload_n hG 0 rfl dJS_charAt_16 rfl ?_
    refine aw_sxV hG hj0 l_18 dJS_charAt_17 ?_
    refine aw_iload_n hG 1 rfl dJS_charAt_20 rfl ?_
    cases h
  · replace h := it_n hc h
    refine aw_aload_n hG 0 rfl dJS_charAt_7 rfl ?_
    refine aw_sxV hG hj0 l_18 dJS_charAt_8 ?_
    refine aw_iload_n hG 1 rfl dJS_charAt_11 rfl ?_
    obtain ⟨v_1, hv_1, h⟩ := bd_o h
    refine aw_callSi (As := [.ref (wad (cxw g) (70 + j0)), .int x1]) (rest := []) hG (c_JB_charAt (j0 := j0) (x1 := x1) (c := c) hj0 hv_1) l_19 ws_JB_charAt rfl rfl rfl (by decide) (Nat.zero_le _) (Nat.zero_le _) (Nat.le_of_ble_eq_true rfl) dJS_charAt_12 ?_
    obtain ⟨hb_2, h⟩ := it_o h
    obtain rfl := Option.some.inj h
    exact FinC.z hK (nar_c hb_2.1 hb_2.2) dJS_charAt_15
theorem c_JS_charAt {c : CS} {m : MS} {z : Nat → Int64} {j0 : Nat} {x1 : Int32} {s : Int32} (hj0 : j0 < 27) (h : f_JS_charAt j0 x1 = some s) : Ct yJS_charAt cJS_charAt 2 (some .char) 4 (fun w => [.ref (wad w (40 + j0)), .int x1]) (c, m, z) (fun _ => some (.int s)) (c, m, z) := Ct_ofC (by decide +kernel) (fun _ => Nat.le_of_ble_eq_true rfl) (fun g hG hK => w_JS_charAt hj0 hG h hK)
