def f_X5_smallOf (x0 : Int32) : Int32 :=
  if x0 < 65 then
    x0
  else
    if 90 < x0 then
      x0
    else
      ((x0 - 65) + 97)
set_option maxRecDepth 20000 in
theorem w_X5_smallOf {g : Cx} {mc ms : Nat} {c : CS} {m : MS} {z : Nat → Int64} {x0 : Int32} {s : Int32}  (hG : Gd g RX5 cX5_smallOf 1 1 mc ms) (h : f_X5_smallOf x0 = s) (hK : FinI g cX5_smallOf mc ms s (c, m, z)) : AW g 0 [(0, .int x0)] [] (c, m, z) 0 0 := by
  unfold f_X5_smallOf at h
  refine aw_iload_n hG 0 rfl dX5_smallOf_0 rfl ?_
  refine aw_bipush (v := 65) hG dX5_smallOf_1 rfl ?_
  refine aw_icmp_lt (t := 22) hG dX5_smallOf_3 rfl (fun hc => ?_) (fun hc => ?_)
  · replace h := it_p hc h
    refine aw_iload_n hG 0 rfl dX5_smallOf_22 rfl ?_
    subst h
    exact FinI.z hK dX5_smallOf_23
  · replace h := it_n hc h
    refine aw_iload_n hG 0 rfl dX5_smallOf_6 rfl ?_
    refine aw_bipush (v := 90) hG dX5_smallOf_7 rfl ?_
    refine aw_icmp_gt (t := 22) hG dX5_smallOf_9 rfl (fun hc => ?_) (fun hc => ?_)
    · replace h := it_p hc h
      refine aw_iload_n hG 0 rfl dX5_smallOf_22 rfl ?_
      subst h
      exact FinI.z hK dX5_smallOf_23
    · replace h := it_n hc h
      refine aw_iload_n hG 0 rfl dX5_smallOf_12 rfl ?_
      refine aw_bipush (v := 65) hG dX5_smallOf_13 rfl ?_
      refine aw_isub hG dX5_smallOf_15 ?_
      refine aw_bipush (v := 97) hG dX5_smallOf_16 rfl ?_
      refine aw_iadd hG dX5_smallOf_18 ?_
      refine aw_goto (t := 23) hG dX5_smallOf_19 rfl ?_
      subst h
      exact FinI.z hK dX5_smallOf_23
theorem c_X5_smallOf {c : CS} {m : MS} {z : Nat → Int64} {x0 : Int32}  : Ct yX5_smallOf cX5_smallOf 1 (some .int) 1 (fun w => [.int x0]) (c, m, z) (fun _ => some (.int (f_X5_smallOf x0))) (c, m, z) := Ct_ofI (by decide +kernel) (fun _ => Nat.le_of_ble_eq_true rfl) (fun g hG hK => w_X5_smallOf hG rfl hK)
def f_X5_valueOf_J17 (x0 : Int32) : Int32 :=
  lt (f_X5_smallOf x0) fun x1_1 =>
  if x1_1 < 97 then
    (-1)
  else
    if 102 < x1_1 then
      (-1)
    else
      ((x1_1 - 97) + 10)
set_option maxRecDepth 20000 in
theorem w_X5_valueOf_J17 {g : Cx} {mc ms : Nat} {c : CS} {m : MS} {z : Nat → Int64} {x0 : Int32} {s : Int32}  (hG : Gd g RX5 cX5_valueOf 2 2 mc ms) (h : f_X5_valueOf_J17 x0 = s) (hK : FinI g cX5_valueOf mc ms s (c, m, z)) : AW g 17 [(0, .int x0)] [] (c, m, z) 0 0 := by
  unfold f_X5_valueOf_J17 at h
  refine aw_iload_n hG 0 rfl dX5_valueOf_17 rfl ?_
  refine aw_callSi (As := [.int x0]) (rest := []) hG (c_X5_smallOf (x0 := x0) (c := c) ) l_246 ws_X5_smallOf rfl rfl rfl (by decide) (Nat.zero_le _) (Nat.zero_le _) (Nat.le_of_ble_eq_true rfl) dX5_valueOf_18 ?_
  refine aw_topi (fun x1_1 hx1_1 => ?_)
  replace h := lt_r hx1_1 h
  refine aw_istore_n (L' := [(1, .int x1_1), (0, .int x0)]) hG dX5_valueOf_21 rfl (by decide) rfl ?_
  refine aw_iload_n hG 0 rfl dX5_valueOf_22 rfl ?_
  refine aw_bipush (v := 97) hG dX5_valueOf_23 rfl ?_
  refine aw_icmp_lt (t := 44) hG dX5_valueOf_25 rfl (fun hc => ?_) (fun hc => ?_)
  · replace h := it_p hc h
    refine aw_iconst (v := (-1)) hG dX5_valueOf_44 rfl ?_
    subst h
    exact FinI.z hK dX5_valueOf_45
  · replace h := it_n hc h
    refine aw_iload_n hG 0 rfl dX5_valueOf_28 rfl ?_
    refine aw_bipush (v := 102) hG dX5_valueOf_29 rfl ?_
    refine aw_icmp_gt (t := 44) hG dX5_valueOf_31 rfl (fun hc => ?_) (fun hc => ?_)
    · replace h := it_p hc h
      refine aw_iconst (v := (-1)) hG dX5_valueOf_44 rfl ?_
      subst h
      exact FinI.z hK dX5_valueOf_45
    · replace h := it_n hc h
      refine aw_iload_n hG 0 rfl dX5_valueOf_34 rfl ?_
      refine aw_bipush (v := 97) hG dX5_valueOf_35 rfl ?_
      refine aw_isub hG dX5_valueOf_37 ?_
      refine aw_bipush (v := 10) hG dX5_valueOf_38 rfl ?_
      refine aw_iadd hG dX5_valueOf_40 ?_
      refine aw_goto (t := 45) hG dX5_valueOf_41 rfl ?_
      subst h
      exact FinI.z hK dX5_valueOf_45
def f_X5_valueOf (x0 : Int32) : Int32 :=
  if x0 < 48 then
    f_X5_valueOf_J17 x0
  else
    if 57 < x0 then
      f_X5_valueOf_J17 x0
    else
      (x0 - 48)
set_option maxRecDepth 20000 in
theorem w_X5_valueOf {g : Cx} {mc ms : Nat} {c : CS} {m : MS} {z : Nat → Int64} {x0 : Int32} {s : Int32}  (hG : Gd g RX5 cX5_valueOf 2 2 mc ms) (h : f_X5_valueOf x0 = s) (hK : FinI g cX5_valueOf mc ms s (c, m, z)) : AW g 0 [(0, .int x0)] [] (c, m, z) 0 0 := by
  unfold f_X5_valueOf at h
  refine aw_iload_n hG 0 rfl dX5_valueOf_0 rfl ?_
  refine aw_bipush (v := 48) hG dX5_valueOf_1 rfl ?_
  refine aw_icmp_lt (t := 17) hG dX5_valueOf_3 rfl (fun hc => ?_) (fun hc => ?_)
  · replace h := it_p hc h
    exact w_X5_valueOf_J17 (x0 := x0) hG h hK
  · replace h := it_n hc h
    refine aw_iload_n hG 0 rfl dX5_valueOf_6 rfl ?_
    refine aw_bipush (v := 57) hG dX5_valueOf_7 rfl ?_
    refine aw_icmp_gt (t := 17) hG dX5_valueOf_9 rfl (fun hc => ?_) (fun hc => ?_)
    · replace h := it_p hc h
      exact w_X5_valueOf_J17 (x0 := x0) hG h hK
    · replace h := it_n hc h
      refine aw_iload_n hG 0 rfl dX5_valueOf_12 rfl ?_
      refine aw_bipush (v := 48) hG dX5_valueOf_13 rfl ?_
      refine aw_isub hG dX5_valueOf_15 ?_
      subst h
      exact FinI.z hK dX5_valueOf_16
theorem c_X5_valueOf {c : CS} {m : MS} {z : Nat → Int64} {x0 : Int32}  : Ct yX5_valueOf cX5_valueOf 2 (some .int) 2 (fun w => [.int x0]) (c, m, z) (fun _ => some (.int (f_X5_valueOf x0))) (c, m, z) := Ct_ofI (by decide +kernel) (fun _ => Nat.le_of_ble_eq_true rfl) (fun g hG hK => w_X5_valueOf hG rfl hK)
def f_X5_isZero (c : CS) : Int32 :=
  if (sc5 c) = (sc7 c) then
    1
  else
    0
set_option maxRecDepth 20000 in
theorem w_X5_isZero {g : Cx} {mc ms : Nat} {c : CS} {m : MS} {z : Nat → Int64}  {s : Int32}  (hG : Gd g RX5 cX5_isZero 1 1 mc ms) (h : f_X5_isZero c = s) (hK : FinZ g cX5_isZero mc ms s (c, m, z)) : AW g 0 [(0, .ref (wad (cxw g) 7))] [] (c, m, z) 0 0 := by
  unfold f_X5_isZero at h
  refine aw_aload_n hG 0 rfl dX5_isZero_0 rfl ?_
  refine gt_sc5 hG l_250 dX5_isZero_1 ?_
  refine aw_aload_n hG 0 rfl dX5_isZero_4 rfl ?_
  refine gt_sc7 hG l_251 dX5_isZero_5 ?_
  refine aw_icmp_ne (t := 15) hG dX5_isZero_8 rfl (fun hc => ?_) (fun hc => ?_)
  · replace h := it_n hc h
    refine aw_iconst (v := 0) hG dX5_isZero_15 rfl ?_
    subst h
    exact FinZ.z hK (Or.inl rfl) dX5_isZero_16
  · replace h := it_p hc h
    refine aw_iconst (v := 1) hG dX5_isZero_11 rfl ?_
    refine aw_goto (t := 16) hG dX5_isZero_12 rfl ?_
    subst h
    exact FinZ.z hK (Or.inr rfl) dX5_isZero_16
theorem c_X5_isZero {c : CS} {m : MS} {z : Nat → Int64}   : Ct yX5_isZero cX5_isZero 1 (some .boolean) 1 (fun w => [.ref (wad w 7)]) (c, m, z) (fun _ => some (.int (f_X5_isZero c))) (c, m, z) := Ct_ofZ (by decide +kernel) (fun _ => Nat.le_of_ble_eq_true rfl) (fun g hG hK => w_X5_isZero hG rfl hK)
theorem b_X5_isZero  {c : CS} : f_X5_isZero c = 0 ∨ f_X5_isZero c = 1 := by
  unfold f_X5_isZero
  repeat' split
  all_goals first | exact Or.inl rfl | exact Or.inr rfl
def f_X5_behindSign (t0 : Nat) (x1 : Int32) (c : CS) : Int32 :=
  lt (f_X0_at t0 x1 c) fun x2_1 =>
  if x2_1 = 43 then
    (x1 + 1)
  else
    if x2_1 = 45 then
      (x1 + 1)
    else
      x1
set_option maxRecDepth 20000 in
theorem w_X5_behindSign {g : Cx} {mc ms : Nat} {c : CS} {m : MS} {z : Nat → Int64} {t0 : Nat} {x1 : Int32} {s : Int32} (ht0 : t0 < 2) (hG : Gd g RX5 cX5_behindSign 3 2 mc ms) (h : f_X5_behindSign t0 x1 c = s) (hK : FinI g cX5_behindSign mc ms s (c, m, z)) : AW g 0 [(0, .ref (wad (cxw g) (1 + 2 * t0))), (1, .int x1)] [] (c, m, z) 0 0 := by
  unfold f_X5_behindSign at h
  refine aw_aload_n hG 0 rfl dX5_behindSign_0 rfl ?_
  refine aw_iload_n hG 1 rfl dX5_behindSign_1 rfl ?_
  refine aw_callVi (As := [.int x1]) (rest := []) hG (c_X0_at (t0 := t0) (x1 := x1) (c := c) ht0) l_252 wv_X0_at (rv_X0 hG ht0) rfl rfl rfl (by decide) (Nat.zero_le _) (Nat.zero_le _) (Nat.le_of_ble_eq_true rfl) dX5_behindSign_2 ?_
  refine aw_topi (fun x2_1 hx2_1 => ?_)
  replace h := lt_r hx2_1 h
  refine aw_istore_n (L' := [(2, .int x2_1), (0, .ref (wad (cxw g) (1 + 2 * t0))), (1, .int x1)]) hG dX5_behindSign_5 rfl (by decide) rfl ?_
  refine aw_iload_n hG 0 rfl dX5_behindSign_6 rfl ?_
  refine aw_bipush (v := 43) hG dX5_behindSign_7 rfl ?_
  refine aw_icmp_eq (t := 18) hG dX5_behindSign_9 rfl (fun hc => ?_) (fun hc => ?_)
  · replace h := it_p hc h
    refine aw_iload_n hG 2 rfl dX5_behindSign_18 rfl ?_
    refine aw_iconst (v := 1) hG dX5_behindSign_19 rfl ?_
    refine aw_iadd hG dX5_behindSign_20 ?_
    refine aw_goto (t := 25) hG dX5_behindSign_21 rfl ?_
    subst h
    exact FinI.z hK dX5_behindSign_25
  · replace h := it_n hc h
    refine aw_iload_n hG 0 rfl dX5_behindSign_12 rfl ?_
    refine aw_bipush (v := 45) hG dX5_behindSign_13 rfl ?_
    refine aw_icmp_ne (t := 24) hG dX5_behindSign_15 rfl (fun hc => ?_) (fun hc => ?_)
    · replace h := it_n hc h
      refine aw_iload_n hG 2 rfl dX5_behindSign_24 rfl ?_
      subst h
      exact FinI.z hK dX5_behindSign_25
    · replace h := it_p hc h
      refine aw_iload_n hG 2 rfl dX5_behindSign_18 rfl ?_
      refine aw_iconst (v := 1) hG dX5_behindSign_19 rfl ?_
      refine aw_iadd hG dX5_behindSign_20 ?_
      refine aw_goto (t := 25) hG dX5_behindSign_21 rfl ?_
      subst h
      exact FinI.z hK dX5_behindSign_25
theorem c_X5_behindSign {c : CS} {m : MS} {z : Nat → Int64} {t0 : Nat} {x1 : Int32} (ht0 : t0 < 2) : Ct yX5_behindSign cX5_behindSign 3 (some .int) 2 (fun w => [.ref (wad w (1 + 2 * t0)), .int x1]) (c, m, z) (fun _ => some (.int (f_X5_behindSign t0 x1 c))) (c, m, z) := Ct_ofI (by decide +kernel) (fun _ => Nat.le_of_ble_eq_true rfl) (fun g hG hK => w_X5_behindSign ht0 hG rfl hK)
def f_X5_faultOfExponent_L12 (t1 : Nat) (x2 : Int32) (x3 : Int32) (x4 : Int32) (x5 : Int32) (c : CS) : Option ((Int32 × Int32) ⊕ ((Int32 × Int32) ⊕ (Int32 × Int32))) :=
  if (brN c t1) ≤ x5 then
    some (.inr (.inr (x4, x5)))
  else
    lt (f_X5_valueOf (f_X0_at t1 x5 c)) fun x6_2 =>
    if x6_2 < 0 then
      some (.inr (.inr (x4, x5)))
    else
      if x6_2 ≤ 9 then
        lt (f_JM_min ((x4 * 10) + x6_2) 1000000) fun x4_3 =>
        lt (x5 + 1) fun x5_4 =>
        some (.inl (x4_3, x5_4))
      else
        some (.inr (.inl (x4, x5)))
set_option maxRecDepth 20000 in
theorem w_X5_faultOfExponent_L12 {g : Cx} {mc ms : Nat} {c : CS} {m : MS} {z : Nat → Int64} {t1 : Nat} {x2 : Int32} {x3 : Int32} {x4 : Int32} {x5 : Int32} {s : ((Int32 × Int32) ⊕ ((Int32 × Int32) ⊕ (Int32 × Int32)))} (ht1 : t1 < 2) (hG : Gd g RX5 cX5_faultOfExponent 7 3 mc ms) (h : f_X5_faultOfExponent_L12 t1 x2 x3 x4 x5 c = some s) (hK : Sum.elim (fun a => AW g 12 [(0, .ref (wad (cxw g) 7)), (1, .ref (wad (cxw g) (1 + 2 * t1))), (2, .int x2), (3, .int x3), (4, .int a.1), (5, .int a.2)] [] (c, m, z) 0 0) (Sum.elim (fun e => AW g 44 [(0, .ref (wad (cxw g) 7)), (1, .ref (wad (cxw g) (1 + 2 * t1))), (2, .int x2), (3, .int x3), (4, .int e.1), (5, .int e.2)] [] (c, m, z) 0 0) (fun e => AW g 68 [(0, .ref (wad (cxw g) 7)), (1, .ref (wad (cxw g) (1 + 2 * t1))), (2, .int x2), (3, .int x3), (4, .int e.1), (5, .int e.2)] [] (c, m, z) 0 0)) s) : AW g 12 [(0, .ref (wad (cxw g) 7)), (1, .ref (wad (cxw g) (1 + 2 * t1))), (2, .int x2), (3, .int x3), (4, .int x4), (5, .int x5)] [] (c, m, z) 0 0 := by
  unfold f_X5_faultOfExponent_L12 at h
  refine aw_iload hG 5 rfl dX5_faultOfExponent_12 ?_
  refine aw_aload_n hG 1 rfl dX5_faultOfExponent_14 rfl ?_
  refine gt_brN hG ht1 l_257 dX5_faultOfExponent_15 ?_
  refine aw_icmp_ge (t := 68) hG dX5_faultOfExponent_18 rfl (fun hc => ?_) (fun hc => ?_)
  · replace h := it_p hc h
    obtain rfl := Option.some.inj h
    exact hK
  · replace h := it_n hc h
    refine aw_aload_n hG 1 rfl dX5_faultOfExponent_21 rfl ?_
    refine aw_iload hG 5 rfl dX5_faultOfExponent_22 ?_
    refine aw_callVi (As := [.int x5]) (rest := []) hG (c_X0_at (t0 := t1) (x1 := x5) (c := c) ht1) l_252 wv_X0_at (rv_X0 hG ht1) rfl rfl rfl (by decide) (Nat.zero_le _) (Nat.zero_le _) (Nat.le_of_ble_eq_true rfl) dX5_faultOfExponent_24 ?_
    refine aw_callSi (As := [.int (f_X0_at t1 x5 c)]) (rest := []) hG (c_X5_valueOf (x0 := f_X0_at t1 x5 c) (c := c) ) l_258 ws_X5_valueOf rfl rfl rfl (by decide) (Nat.zero_le _) (Nat.zero_le _) (Nat.le_of_ble_eq_true rfl) dX5_faultOfExponent_27 ?_
    refine aw_topi (fun x6_2 hx6_2 => ?_)
    replace h := lt_r hx6_2 h
    refine aw_istore (L' := [(6, .int x6_2), (0, .ref (wad (cxw g) 7)), (1, .ref (wad (cxw g) (1 + 2 * t1))), (2, .int x2), (3, .int x3), (4, .int x4), (5, .int x5)]) hG dX5_faultOfExponent_30 (by decide) rfl ?_
    refine aw_iload hG 0 rfl dX5_faultOfExponent_32 ?_
    refine aw_if_lt (t := 68) hG dX5_faultOfExponent_34 rfl (fun hc => ?_) (fun hc => ?_)
    · replace h := it_p hc h
      obtain rfl := Option.some.inj h
      refine aw_sub (L' := [(0, .ref (wad (cxw g) 7)), (1, .ref (wad (cxw g) (1 + 2 * t1))), (2, .int x2), (3, .int x3), (4, .int x4), (5, .int x5)]) [1, 2, 3, 4, 5, 6] rfl ?_
      exact hK
    · replace h := it_n hc h
      refine aw_iload hG 0 rfl dX5_faultOfExponent_37 ?_
      refine aw_bipush (v := 9) hG dX5_faultOfExponent_39 rfl ?_
      refine aw_icmp_le (t := 47) hG dX5_faultOfExponent_41 rfl (fun hc => ?_) (fun hc => ?_)
      · replace h := it_p hc h
        refine aw_iload hG 5 rfl dX5_faultOfExponent_47 ?_
        refine aw_bipush (v := 10) hG dX5_faultOfExponent_49 rfl ?_
        refine aw_imul hG dX5_faultOfExponent_51 ?_
        refine aw_iload hG 0 rfl dX5_faultOfExponent_52 ?_
        refine aw_iadd hG dX5_faultOfExponent_54 ?_
        refine aw_ldc hG l_262 dX5_faultOfExponent_55 ?_
        refine aw_callSi (As := [.int ((x4 * 10) + x6_2), .int 1000000]) (rest := []) hG (c_JM_min (x0 := (x4 * 10) + x6_2) (x1 := 1000000) (c := c) ) l_263 ws_JM_min rfl rfl rfl (by decide) (Nat.zero_le _) (Nat.zero_le _) (Nat.le_of_ble_eq_true rfl) dX5_faultOfExponent_57 ?_
        refine aw_topi (fun x4_3 hx4_3 => ?_)
        replace h := lt_r hx4_3 h
        refine aw_istore (L' := [(4, .int x4_3), (6, .int x6_2), (0, .ref (wad (cxw g) 7)), (1, .ref (wad (cxw g) (1 + 2 * t1))), (2, .int x2), (3, .int x3), (5, .int x5)]) hG dX5_faultOfExponent_60 (by decide) rfl ?_
        obtain ⟨x5_4, hx5_4⟩ : ∃ y : Int32, y = x5 + 1 := ⟨_, rfl⟩
        replace h := lt_r hx5_4 h
        refine aw_iinc (v := x5_4) (L' := [(5, .int x5_4), (4, .int x4_3), (6, .int x6_2), (0, .ref (wad (cxw g) 7)), (1, .ref (wad (cxw g) (1 + 2 * t1))), (2, .int x2), (3, .int x3)]) hG 6 rfl dX5_faultOfExponent_62 (by rw [hx5_4]; rfl) (by decide) rfl ?_
        refine aw_goto (t := 12) hG dX5_faultOfExponent_65 rfl ?_
        obtain rfl := Option.some.inj h
        refine aw_sub (L' := [(0, .ref (wad (cxw g) 7)), (1, .ref (wad (cxw g) (1 + 2 * t1))), (2, .int x2), (3, .int x3), (4, .int x4_3), (5, .int x5_4)]) [3, 4, 5, 6, 1, 0] rfl ?_
        exact hK
      · replace h := it_n hc h
        obtain rfl := Option.some.inj h
        refine aw_sub (L' := [(0, .ref (wad (cxw g) 7)), (1, .ref (wad (cxw g) (1 + 2 * t1))), (2, .int x2), (3, .int x3), (4, .int x4), (5, .int x5)]) [1, 2, 3, 4, 5, 6] rfl ?_
        exact hK
def f_X5_faultOfExponent_J87 (t1 : Nat) (x3 : Int32) (x5 : Int32) (s0 : Int32) (c : CS) : Option (Int32 × CS) :=
  lt (ssc6 c s0) fun c_11 =>
  if x5 ≤ x3 then
    some (x5, c_11)
  else
    if x5 = (brN c_11 t1) then
      some ((-1), c_11)
    else
      some (x5, c_11)
set_option maxRecDepth 20000 in
theorem w_X5_faultOfExponent_J87 {g : Cx} {mc ms : Nat} {c : CS} {m : MS} {z : Nat → Int64} {t1 : Nat} {x3 : Int32} {x5 : Int32} {s0 : Int32} {s : (Int32 × CS)} (ht1 : t1 < 2) (hG : Gd g RX5 cX5_faultOfExponent 7 3 mc ms) (h : f_X5_faultOfExponent_J87 t1 x3 x5 s0 c = some s) (hK : FinI g cX5_faultOfExponent mc ms s.1 (s.2, m, z)) : AW g 87 [(1, .ref (wad (cxw g) (1 + 2 * t1))), (3, .int x3), (5, .int x5)] [.int s0, .ref (wad (cxw g) 7)] (c, m, z) 0 0 := by
  unfold f_X5_faultOfExponent_J87 at h
  refine pt_sc6 hG l_264 dX5_faultOfExponent_87 ?_
  refine aw_stc (fun c_11 hc_11 => ?_)
  replace h := lt_r hc_11 h
  refine aw_iload hG 2 rfl dX5_faultOfExponent_90 ?_
  refine aw_iload_n hG 1 rfl dX5_faultOfExponent_92 rfl ?_
  refine aw_icmp_le (t := 109) hG dX5_faultOfExponent_93 rfl (fun hc => ?_) (fun hc => ?_)
  · replace h := it_p hc h
    refine aw_iload hG 2 rfl dX5_faultOfExponent_109 ?_
    obtain rfl := Option.some.inj h
    exact FinI.z hK dX5_faultOfExponent_111
  · replace h := it_n hc h
    refine aw_iload hG 2 rfl dX5_faultOfExponent_96 ?_
    refine aw_aload_n hG 0 rfl dX5_faultOfExponent_98 rfl ?_
    refine gt_brN hG ht1 l_257 dX5_faultOfExponent_99 ?_
    refine aw_icmp_ne (t := 109) hG dX5_faultOfExponent_102 rfl (fun hc => ?_) (fun hc => ?_)
    · replace h := it_n hc h
      refine aw_iload hG 2 rfl dX5_faultOfExponent_109 ?_
      obtain rfl := Option.some.inj h
      exact FinI.z hK dX5_faultOfExponent_111
    · replace h := it_p hc h
      refine aw_iconst (v := (-1)) hG dX5_faultOfExponent_105 rfl ?_
      refine aw_goto (t := 111) hG dX5_faultOfExponent_106 rfl ?_
      obtain rfl := Option.some.inj h
      exact FinI.z hK dX5_faultOfExponent_111
def f_X5_faultOfExponent_J68 (t1 : Nat) (x2 : Int32) (x3 : Int32) (x4 : Int32) (x5 : Int32) (c : CS) : Option (Int32 × CS) :=
  if (f_X0_at t1 x2 c) = 45 then
    f_X5_faultOfExponent_J87 t1 x3 x5 (-x4) c
  else
    f_X5_faultOfExponent_J87 t1 x3 x5 x4 c
set_option maxRecDepth 20000 in
theorem w_X5_faultOfExponent_J68 {g : Cx} {mc ms : Nat} {c : CS} {m : MS} {z : Nat → Int64} {t1 : Nat} {x2 : Int32} {x3 : Int32} {x4 : Int32} {x5 : Int32} {s : (Int32 × CS)} (ht1 : t1 < 2) (hG : Gd g RX5 cX5_faultOfExponent 7 3 mc ms) (h : f_X5_faultOfExponent_J68 t1 x2 x3 x4 x5 c = some s) (hK : FinI g cX5_faultOfExponent mc ms s.1 (s.2, m, z)) : AW g 68 [(0, .ref (wad (cxw g) 7)), (1, .ref (wad (cxw g) (1 + 2 * t1))), (2, .int x2), (3, .int x3), (4, .int x4), (5, .int x5)] [] (c, m, z) 0 0 := by
  unfold f_X5_faultOfExponent_J68 at h
  refine aw_aload_n hG 0 rfl dX5_faultOfExponent_68 rfl ?_
  refine aw_aload_n hG 1 rfl dX5_faultOfExponent_69 rfl ?_
  refine aw_iload_n hG 2 rfl dX5_faultOfExponent_70 rfl ?_
  refine aw_callVi (As := [.int x2]) (rest := [.ref (wad (cxw g) 7)]) hG (c_X0_at (t0 := t1) (x1 := x2) (c := c) ht1) l_252 wv_X0_at (rv_X0 hG ht1) rfl rfl rfl (by decide) (Nat.zero_le _) (Nat.zero_le _) (Nat.le_of_ble_eq_true rfl) dX5_faultOfExponent_71 ?_
  refine aw_bipush (v := 45) hG dX5_faultOfExponent_74 rfl ?_
  refine aw_icmp_ne (t := 85) hG dX5_faultOfExponent_76 rfl (fun hc => ?_) (fun hc => ?_)
  · replace h := it_n hc h
    refine aw_iload hG 4 rfl dX5_faultOfExponent_85 ?_
    refine aw_sub (L' := [(1, .ref (wad (cxw g) (1 + 2 * t1))), (3, .int x3), (5, .int x5)]) [1, 3, 5] rfl ?_
    exact w_X5_faultOfExponent_J87 (t1 := t1) (x3 := x3) (x5 := x5) (s0 := x4) (c := c) ht1 hG h hK
  · replace h := it_p hc h
    refine aw_iload hG 4 rfl dX5_faultOfExponent_79 ?_
    refine aw_ineg hG dX5_faultOfExponent_81 ?_
    refine aw_goto (t := 87) hG dX5_faultOfExponent_82 rfl ?_
    refine aw_sub (L' := [(1, .ref (wad (cxw g) (1 + 2 * t1))), (3, .int x3), (5, .int x5)]) [1, 3, 5] rfl ?_
    exact w_X5_faultOfExponent_J87 (t1 := t1) (x3 := x3) (x5 := x5) (s0 := -x4) (c := c) ht1 hG h hK
noncomputable def f_X5_faultOfExponent (t1 : Nat) (x2 : Int32) (c : CS) : Option (Int32 × CS) :=
  lt (f_X5_behindSign t1 x2 c) fun x3_1 =>
  Option.bind (Lp (fun a => f_X5_faultOfExponent_L12 t1 x2 x3_1 a.1 a.2 c) (0, x3_1)) fun e_8 =>
  Sum.elim (fun e_9 =>
    f_X5_faultOfExponent_J68 t1 x2 x3_1 e_9.1 e_9.2 c) (fun e_10 =>
    f_X5_faultOfExponent_J68 t1 x2 x3_1 e_10.1 e_10.2 c) e_8
set_option maxRecDepth 20000 in
theorem w_X5_faultOfExponent {g : Cx} {mc ms : Nat} {c : CS} {m : MS} {z : Nat → Int64} {t1 : Nat} {x2 : Int32} {s : (Int32 × CS)} (ht1 : t1 < 2) (hG : Gd g RX5 cX5_faultOfExponent 7 3 mc ms) (h : f_X5_faultOfExponent t1 x2 c = some s) (hK : FinI g cX5_faultOfExponent mc ms s.1 (s.2, m, z)) : AW g 0 [(0, .ref (wad (cxw g) 7)), (1, .ref (wad (cxw g) (1 + 2 * t1))), (2, .int x2)] [] (c, m, z) 0 0 := by
  unfold f_X5_faultOfExponent at h
  refine aw_aload_n hG 1 rfl dX5_faultOfExponent_0 rfl ?_
  refine aw_iload_n hG 2 rfl dX5_faultOfExponent_1 rfl ?_
  refine aw_callSi (As := [.ref (wad (cxw g) (1 + 2 * t1)), .int x2]) (rest := []) hG (c_X5_behindSign (t0 := t1) (x1 := x2) (c := c) ht1) l_253 ws_X5_behindSign rfl rfl rfl (by decide) (Nat.zero_le _) (Nat.zero_le _) (Nat.le_of_ble_eq_true rfl) dX5_faultOfExponent_2 ?_
  refine aw_topi (fun x3_1 hx3_1 => ?_)
  replace h := lt_r hx3_1 h
  refine aw_istore_n (L' := [(3, .int x3_1), (0, .ref (wad (cxw g) 7)), (1, .ref (wad (cxw g) (1 + 2 * t1))), (2, .int x2)]) hG dX5_faultOfExponent_5 rfl (by decide) rfl ?_
  refine aw_iconst (v := 0) hG dX5_faultOfExponent_6 rfl ?_
  refine aw_istore (L' := [(4, .int 0), (3, .int x3_1), (0, .ref (wad (cxw g) 7)), (1, .ref (wad (cxw g) (1 + 2 * t1))), (2, .int x2)]) hG dX5_faultOfExponent_7 (by decide) rfl ?_
  refine aw_iload_n hG 1 rfl dX5_faultOfExponent_9 rfl ?_
  refine aw_istore (L' := [(5, .int x3_1), (4, .int 0), (3, .int x3_1), (0, .ref (wad (cxw g) 7)), (1, .ref (wad (cxw g) (1 + 2 * t1))), (2, .int x2)]) hG dX5_faultOfExponent_10 (by decide) rfl ?_
  obtain ⟨e_8, he, h⟩ := bd_o h
  refine aw_sub (L' := [(0, .ref (wad (cxw g) 7)), (1, .ref (wad (cxw g) (1 + 2 * t1))), (2, .int x2), (3, .int x3_1), (4, .int 0), (5, .int x3_1)]) [3, 4, 5, 2, 1, 0] rfl ?_
  refine Lp_w (F := (fun a => f_X5_faultOfExponent_L12 t1 x2 x3_1 a.1 a.2 c)) (S := (fun a => AW g 12 [(0, .ref (wad (cxw g) 7)), (1, .ref (wad (cxw g) (1 + 2 * t1))), (2, .int x2), (3, .int x3_1), (4, .int a.1), (5, .int a.2)] [] (c, m, z) 0 0)) (E := (Sum.elim (fun e => AW g 44 [(0, .ref (wad (cxw g) 7)), (1, .ref (wad (cxw g) (1 + 2 * t1))), (2, .int x2), (3, .int x3_1), (4, .int e.1), (5, .int e.2)] [] (c, m, z) 0 0) (fun e => AW g 68 [(0, .ref (wad (cxw g) 7)), (1, .ref (wad (cxw g) (1 + 2 * t1))), (2, .int x2), (3, .int x3_1), (4, .int e.1), (5, .int e.2)] [] (c, m, z) 0 0))) (a := (0, x3_1)) he (fun a s h hK => w_X5_faultOfExponent_L12 (t1 := t1) (x2 := x2) (x3 := x3_1) (x4 := a.1) (x5 := a.2) (c := c) ht1 hG h hK) ?_
  rcases e_8 with e_9 | e_10
  · replace h := el_l h
    show AW g 44 _ _ _ 0 0
    refine aw_goto (t := 68) hG dX5_faultOfExponent_44 rfl ?_
    exact w_X5_faultOfExponent_J68 (t1 := t1) (x2 := x2) (x3 := x3_1) (x4 := e_9.1) (x5 := e_9.2) (c := c) ht1 hG h hK
  · replace h := el_r h
    show AW g 68 _ _ _ 0 0
    exact w_X5_faultOfExponent_J68 (t1 := t1) (x2 := x2) (x3 := x3_1) (x4 := e_10.1) (x5 := e_10.2) (c := c) ht1 hG h hK
theorem c_X5_faultOfExponent {c : CS} {m : MS} {z : Nat → Int64} {t1 : Nat} {x2 : Int32} {s : Int32 × CS} (ht1 : t1 < 2) (h : f_X5_faultOfExponent t1 x2 c = some s) : Ct yX5_faultOfExponent cX5_faultOfExponent 7 (some .int) 3 (fun w => [.ref (wad w 7), .ref (wad w (1 + 2 * t1)), .int x2]) (c, m, z) (fun _ => some (.int s.1)) (s.2, m, z) := Ct_ofI (by decide +kernel) (fun _ => Nat.le_of_ble_eq_true rfl) (fun g hG hK => w_X5_faultOfExponent ht1 hG h hK)
def f_X5_takeDigits_J144 (t1 : Nat) (x3 : Int32) (x4 : Int32) (c : CS) : Option ((Int32 × CS) ⊕ (CS)) :=
  lt (ssc3 c ((sc3 c) + 1)) fun c_11 =>
  some (.inl (x4, c_11))
set_option maxRecDepth 20000 in
theorem w_X5_takeDigits_J144 {g : Cx} {mc ms : Nat} {c : CS} {m : MS} {z : Nat → Int64} {t1 : Nat} {x3 : Int32} {x4 : Int32} {s : ((Int32 × CS) ⊕ (CS))} (ht1 : t1 < 2) (hG : Gd g RX5 cX5_takeDigits 7 3 mc ms) (h : f_X5_takeDigits_J144 t1 x3 x4 c = some s) (hK : Sum.elim (fun a => AW g 28 [(0, .ref (wad (cxw g) 7)), (1, .ref (wad (cxw g) (1 + 2 * t1))), (3, .int x3), (4, .int a.1)] [] (a.2, m, z) 0 0) (fun e => AW g 157 [] [] (e, m, z) 0 0) s) : AW g 144 [(0, .ref (wad (cxw g) 7)), (1, .ref (wad (cxw g) (1 + 2 * t1))), (3, .int x3), (4, .int x4)] [] (c, m, z) 0 0 := by
  unfold f_X5_takeDigits_J144 at h
  refine aw_aload_n hG 0 rfl dX5_takeDigits_144 rfl ?_
  refine aw_dup hG dX5_takeDigits_145 rfl ?_
  refine gt_sc3 hG l_267 dX5_takeDigits_146 ?_
  refine aw_iconst (v := 1) hG dX5_takeDigits_149 rfl ?_
  refine aw_iadd hG dX5_takeDigits_150 ?_
  refine pt_sc3 hG l_267 dX5_takeDigits_151 ?_
  refine aw_stc (fun c_11 hc_11 => ?_)
  replace h := lt_r hc_11 h
  refine aw_goto (t := 28) hG dX5_takeDigits_154 rfl ?_
  obtain rfl := Option.some.inj h
  exact hK
def f_X5_takeDigits_J111 (t1 : Nat) (x3 : Int32) (x4 : Int32) (s0 : Int32) (s1 : Int32) (c : CS) : Option ((Int32 × CS) ⊕ (CS)) :=
  lt (ssc5 c (s1 + s0)) fun c_8 =>
  lt (ssc7 c_8 ((sc7 c_8) + 1)) fun c_9 =>
  if x4 = 0 then
    lt (ssc4 c_9 ((sc4 c_9) + 1)) fun c_10 =>
    f_X5_takeDigits_J144 t1 x3 x4 c_10
  else
    lt (ssc4 c_9 ((sc4 c_9) + 0)) fun c_12 =>
    f_X5_takeDigits_J144 t1 x3 x4 c_12
set_option maxRecDepth 20000 in
theorem w_X5_takeDigits_J111 {g : Cx} {mc ms : Nat} {c : CS} {m : MS} {z : Nat → Int64} {t1 : Nat} {x3 : Int32} {x4 : Int32} {s0 : Int32} {s1 : Int32} {s : ((Int32 × CS) ⊕ (CS))} (ht1 : t1 < 2) (hG : Gd g RX5 cX5_takeDigits 7 3 mc ms) (h : f_X5_takeDigits_J111 t1 x3 x4 s0 s1 c = some s) (hK : Sum.elim (fun a => AW g 28 [(0, .ref (wad (cxw g) 7)), (1, .ref (wad (cxw g) (1 + 2 * t1))), (3, .int x3), (4, .int a.1)] [] (a.2, m, z) 0 0) (fun e => AW g 157 [] [] (e, m, z) 0 0) s) : AW g 111 [(0, .ref (wad (cxw g) 7)), (1, .ref (wad (cxw g) (1 + 2 * t1))), (3, .int x3), (4, .int x4)] [.int s0, .int s1, .ref (wad (cxw g) 7)] (c, m, z) 0 0 := by
  unfold f_X5_takeDigits_J111 at h
  refine aw_iadd hG dX5_takeDigits_111 ?_
  refine pt_sc5 hG l_250 dX5_takeDigits_112 ?_
  refine aw_stc (fun c_8 hc_8 => ?_)
  replace h := lt_r hc_8 h
  refine aw_aload_n hG 0 rfl dX5_takeDigits_115 rfl ?_
  refine aw_dup hG dX5_takeDigits_116 rfl ?_
  refine gt_sc7 hG l_251 dX5_takeDigits_117 ?_
  refine aw_iconst (v := 1) hG dX5_takeDigits_120 rfl ?_
  refine aw_iadd hG dX5_takeDigits_121 ?_
  refine pt_sc7 hG l_251 dX5_takeDigits_122 ?_
  refine aw_stc (fun c_9 hc_9 => ?_)
  replace h := lt_r hc_9 h
  refine aw_aload_n hG 0 rfl dX5_takeDigits_125 rfl ?_
  refine aw_dup hG dX5_takeDigits_126 rfl ?_
  refine gt_sc4 hG l_266 dX5_takeDigits_127 ?_
  refine aw_iload hG 3 rfl dX5_takeDigits_130 ?_
  refine aw_if_eq (t := 139) hG dX5_takeDigits_132 rfl (fun hc => ?_) (fun hc => ?_)
  · replace h := it_p hc h
    refine aw_iconst (v := 1) hG dX5_takeDigits_139 rfl ?_
    refine aw_iadd hG dX5_takeDigits_140 ?_
    refine pt_sc4 hG l_266 dX5_takeDigits_141 ?_
    refine aw_stc (fun c_10 hc_10 => ?_)
    replace h := lt_r hc_10 h
    exact w_X5_takeDigits_J144 (t1 := t1) (x3 := x3) (x4 := x4) (c := c_10) ht1 hG h hK
  · replace h := it_n hc h
    refine aw_iconst (v := 0) hG dX5_takeDigits_135 rfl ?_
    refine aw_goto (t := 140) hG dX5_takeDigits_136 rfl ?_
    refine aw_iadd hG dX5_takeDigits_140 ?_
    refine pt_sc4 hG l_266 dX5_takeDigits_141 ?_
    refine aw_stc (fun c_12 hc_12 => ?_)
    replace h := lt_r hc_12 h
    exact w_X5_takeDigits_J144 (t1 := t1) (x3 := x3) (x4 := x4) (c := c_12) ht1 hG h hK
def f_X5_takeDigits_J74 (t1 : Nat) (x3 : Int32) (x4 : Int32) (x6 : Int32) (c : CS) : Option ((Int32 × CS) ⊕ (CS)) :=
  if x6 < 0 then
    some (.inr c)
  else
    if x3 ≤ x6 then
      some (.inr c)
    else
      if x6 = 0 then
        if (sc5 c) = (sc7 c) then
          f_X5_takeDigits_J111 t1 x3 x4 1 (sc5 c) c
        else
          f_X5_takeDigits_J111 t1 x3 x4 0 (sc5 c) c
      else
        f_X5_takeDigits_J111 t1 x3 x4 0 (sc5 c) c
set_option maxRecDepth 20000 in
theorem w_X5_takeDigits_J74 {g : Cx} {mc ms : Nat} {c : CS} {m : MS} {z : Nat → Int64} {t1 : Nat} {x3 : Int32} {x4 : Int32} {x6 : Int32} {s : ((Int32 × CS) ⊕ (CS))} (ht1 : t1 < 2) (hG : Gd g RX5 cX5_takeDigits 7 3 mc ms) (h : f_X5_takeDigits_J74 t1 x3 x4 x6 c = some s) (hK : Sum.elim (fun a => AW g 28 [(0, .ref (wad (cxw g) 7)), (1, .ref (wad (cxw g) (1 + 2 * t1))), (3, .int x3), (4, .int a.1)] [] (a.2, m, z) 0 0) (fun e => AW g 157 [] [] (e, m, z) 0 0) s) : AW g 74 [(0, .ref (wad (cxw g) 7)), (1, .ref (wad (cxw g) (1 + 2 * t1))), (3, .int x3), (4, .int x4), (6, .int x6)] [] (c, m, z) 0 0 := by
  unfold f_X5_takeDigits_J74 at h
  refine aw_iload hG 4 rfl dX5_takeDigits_74 ?_
  refine aw_if_lt (t := 157) hG dX5_takeDigits_76 rfl (fun hc => ?_) (fun hc => ?_)
  · replace h := it_p hc h
    obtain rfl := Option.some.inj h
    refine aw_sub (L' := []) [] rfl ?_
    exact hK
  · replace h := it_n hc h
    refine aw_iload hG 4 rfl dX5_takeDigits_79 ?_
    refine aw_iload_n hG 2 rfl dX5_takeDigits_81 rfl ?_
    refine aw_icmp_ge (t := 157) hG dX5_takeDigits_82 rfl (fun hc => ?_) (fun hc => ?_)
    · replace h := it_p hc h
      obtain rfl := Option.some.inj h
      refine aw_sub (L' := []) [] rfl ?_
      exact hK
    · replace h := it_n hc h
      refine aw_aload_n hG 0 rfl dX5_takeDigits_85 rfl ?_
      refine aw_dup hG dX5_takeDigits_86 rfl ?_
      refine gt_sc5 hG l_250 dX5_takeDigits_87 ?_
      refine aw_iload hG 4 rfl dX5_takeDigits_90 ?_
      refine aw_if_ne (t := 110) hG dX5_takeDigits_92 rfl (fun hc => ?_) (fun hc => ?_)
      · replace h := it_n hc h
        refine aw_iconst (v := 0) hG dX5_takeDigits_110 rfl ?_
        refine aw_sub (L' := [(0, .ref (wad (cxw g) 7)), (1, .ref (wad (cxw g) (1 + 2 * t1))), (3, .int x3), (4, .int x4)]) [0, 1, 2, 3] rfl ?_
        exact w_X5_takeDigits_J111 (t1 := t1) (x3 := x3) (x4 := x4) (s0 := 0) (s1 := sc5 c) (c := c) ht1 hG h hK
      · replace h := it_p hc h
        refine aw_aload_n hG 0 rfl dX5_takeDigits_95 rfl ?_
        refine gt_sc5 hG l_250 dX5_takeDigits_96 ?_
        refine aw_aload_n hG 0 rfl dX5_takeDigits_99 rfl ?_
        refine gt_sc7 hG l_251 dX5_takeDigits_100 ?_
        refine aw_icmp_ne (t := 110) hG dX5_takeDigits_103 rfl (fun hc => ?_) (fun hc => ?_)
        · replace h := it_n hc h
          refine aw_iconst (v := 0) hG dX5_takeDigits_110 rfl ?_
          refine aw_sub (L' := [(0, .ref (wad (cxw g) 7)), (1, .ref (wad (cxw g) (1 + 2 * t1))), (3, .int x3), (4, .int x4)]) [0, 1, 2, 3] rfl ?_
          exact w_X5_takeDigits_J111 (t1 := t1) (x3 := x3) (x4 := x4) (s0 := 0) (s1 := sc5 c) (c := c) ht1 hG h hK
        · replace h := it_p hc h
          refine aw_iconst (v := 1) hG dX5_takeDigits_106 rfl ?_
          refine aw_goto (t := 111) hG dX5_takeDigits_107 rfl ?_
          refine aw_sub (L' := [(0, .ref (wad (cxw g) 7)), (1, .ref (wad (cxw g) (1 + 2 * t1))), (3, .int x3), (4, .int x4)]) [0, 1, 2, 3] rfl ?_
          exact w_X5_takeDigits_J111 (t1 := t1) (x3 := x3) (x4 := x4) (s0 := 1) (s1 := sc5 c) (c := c) ht1 hG h hK
def f_X5_takeDigits_L28 (t1 : Nat) (x3 : Int32) (x4 : Int32) (c : CS) : Option ((Int32 × CS) ⊕ (CS)) :=
  if (brN c t1) ≤ (sc3 c) then
    some (.inr c)
  else
    lt (f_X0_at t1 (sc3 c) c) fun x5_6 =>
    lt (f_X5_valueOf x5_6) fun x6_7 =>
    if x5_6 = 46 then
      if x4 = 0 then
        f_X5_takeDigits_J144 t1 x3 1 c
      else
        f_X5_takeDigits_J74 t1 x3 x4 x6_7 c
    else
      f_X5_takeDigits_J74 t1 x3 x4 x6_7 c
set_option maxRecDepth 20000 in
theorem w_X5_takeDigits_L28 {g : Cx} {mc ms : Nat} {c : CS} {m : MS} {z : Nat → Int64} {t1 : Nat} {x3 : Int32} {x4 : Int32} {s : ((Int32 × CS) ⊕ (CS))} (ht1 : t1 < 2) (hG : Gd g RX5 cX5_takeDigits 7 3 mc ms) (h : f_X5_takeDigits_L28 t1 x3 x4 c = some s) (hK : Sum.elim (fun a => AW g 28 [(0, .ref (wad (cxw g) 7)), (1, .ref (wad (cxw g) (1 + 2 * t1))), (3, .int x3), (4, .int a.1)] [] (a.2, m, z) 0 0) (fun e => AW g 157 [] [] (e, m, z) 0 0) s) : AW g 28 [(0, .ref (wad (cxw g) 7)), (1, .ref (wad (cxw g) (1 + 2 * t1))), (3, .int x3), (4, .int x4)] [] (c, m, z) 0 0 := by
  unfold f_X5_takeDigits_L28 at h
  refine aw_aload_n hG 0 rfl dX5_takeDigits_28 rfl ?_
  refine gt_sc3 hG l_267 dX5_takeDigits_29 ?_
  refine aw_aload_n hG 1 rfl dX5_takeDigits_32 rfl ?_
  refine gt_brN hG ht1 l_257 dX5_takeDigits_33 ?_
  refine aw_icmp_ge (t := 157) hG dX5_takeDigits_36 rfl (fun hc => ?_) (fun hc => ?_)
  · replace h := it_p hc h
    obtain rfl := Option.some.inj h
    refine aw_sub (L' := []) [] rfl ?_
    exact hK
  · replace h := it_n hc h
    refine aw_aload_n hG 1 rfl dX5_takeDigits_39 rfl ?_
    refine aw_aload_n hG 0 rfl dX5_takeDigits_40 rfl ?_
    refine gt_sc3 hG l_267 dX5_takeDigits_41 ?_
    refine aw_callVi (As := [.int (sc3 c)]) (rest := []) hG (c_X0_at (t0 := t1) (x1 := sc3 c) (c := c) ht1) l_252 wv_X0_at (rv_X0 hG ht1) rfl rfl rfl (by decide) (Nat.zero_le _) (Nat.zero_le _) (Nat.le_of_ble_eq_true rfl) dX5_takeDigits_44 ?_
    refine aw_topi (fun x5_6 hx5_6 => ?_)
    replace h := lt_r hx5_6 h
    refine aw_istore (L' := [(5, .int x5_6), (0, .ref (wad (cxw g) 7)), (1, .ref (wad (cxw g) (1 + 2 * t1))), (3, .int x3), (4, .int x4)]) hG dX5_takeDigits_47 (by decide) rfl ?_
    refine aw_iload hG 0 rfl dX5_takeDigits_49 ?_
    refine aw_callSi (As := [.int x5_6]) (rest := []) hG (c_X5_valueOf (x0 := x5_6) (c := c) ) l_258 ws_X5_valueOf rfl rfl rfl (by decide) (Nat.zero_le _) (Nat.zero_le _) (Nat.le_of_ble_eq_true rfl) dX5_takeDigits_51 ?_
    refine aw_topi (fun x6_7 hx6_7 => ?_)
    replace h := lt_r hx6_7 h
    refine aw_istore (L' := [(6, .int x6_7), (5, .int x5_6), (0, .ref (wad (cxw g) 7)), (1, .ref (wad (cxw g) (1 + 2 * t1))), (3, .int x3), (4, .int x4)]) hG dX5_takeDigits_54 (by decide) rfl ?_
    refine aw_iload hG 1 rfl dX5_takeDigits_56 ?_
    refine aw_bipush (v := 46) hG dX5_takeDigits_58 rfl ?_
    refine aw_icmp_ne (t := 74) hG dX5_takeDigits_60 rfl (fun hc => ?_) (fun hc => ?_)
    · replace h := it_n hc h
      refine aw_sub (L' := [(0, .ref (wad (cxw g) 7)), (1, .ref (wad (cxw g) (1 + 2 * t1))), (3, .int x3), (4, .int x4), (6, .int x6_7)]) [2, 3, 4, 5, 0] rfl ?_
      exact w_X5_takeDigits_J74 (t1 := t1) (x3 := x3) (x4 := x4) (x6 := x6_7) (c := c) ht1 hG h hK
    · replace h := it_p hc h
      refine aw_iload hG 5 rfl dX5_takeDigits_63 ?_
      refine aw_if_ne (t := 74) hG dX5_takeDigits_65 rfl (fun hc => ?_) (fun hc => ?_)
      · replace h := it_n hc h
        refine aw_sub (L' := [(0, .ref (wad (cxw g) 7)), (1, .ref (wad (cxw g) (1 + 2 * t1))), (3, .int x3), (4, .int x4), (6, .int x6_7)]) [2, 3, 4, 5, 0] rfl ?_
        exact w_X5_takeDigits_J74 (t1 := t1) (x3 := x3) (x4 := x4) (x6 := x6_7) (c := c) ht1 hG h hK
      · replace h := it_p hc h
        refine aw_iconst (v := 1) hG dX5_takeDigits_68 rfl ?_
        refine aw_istore (L' := [(4, .int 1), (6, .int x6_7), (5, .int x5_6), (0, .ref (wad (cxw g) 7)), (1, .ref (wad (cxw g) (1 + 2 * t1))), (3, .int x3)]) hG dX5_takeDigits_69 (by decide) rfl ?_
        refine aw_goto (t := 144) hG dX5_takeDigits_71 rfl ?_
        refine aw_sub (L' := [(0, .ref (wad (cxw g) 7)), (1, .ref (wad (cxw g) (1 + 2 * t1))), (3, .int x3), (4, .int 1)]) [3, 4, 5, 0] rfl ?_
        exact w_X5_takeDigits_J144 (t1 := t1) (x3 := x3) (x4 := 1) (c := c) ht1 hG h hK
noncomputable def f_X5_takeDigits (t1 : Nat) (x2 : Int32) (x3 : Int32) (c : CS) : Option CS :=
  lt (ssc2 c x2) fun c_1 =>
  lt (ssc7 c_1 0) fun c_2 =>
  lt (ssc4 c_2 0) fun c_3 =>
  lt (ssc5 c_3 0) fun c_4 =>
  lt (ssc3 c_4 x2) fun c_5 =>
  Option.bind (Lp (fun a => f_X5_takeDigits_L28 t1 x3 a.1 a.2) (0, c_5)) fun e_21 =>
  some e_21
set_option maxRecDepth 20000 in
theorem w_X5_takeDigits {g : Cx} {mc ms : Nat} {c : CS} {m : MS} {z : Nat → Int64} {t1 : Nat} {x2 : Int32} {x3 : Int32} {s : CS} (ht1 : t1 < 2) (hG : Gd g RX5 cX5_takeDigits 7 3 mc ms) (h : f_X5_takeDigits t1 x2 x3 c = some s) (hK : FinV g cX5_takeDigits mc ms (s, m, z)) : AW g 0 [(0, .ref (wad (cxw g) 7)), (1, .ref (wad (cxw g) (1 + 2 * t1))), (2, .int x2), (3, .int x3)] [] (c, m, z) 0 0 := by
  unfold f_X5_takeDigits at h
  refine aw_iconst (v := 0) hG dX5_takeDigits_0 rfl ?_
  refine aw_istore (L' := [(4, .int 0), (0, .ref (wad (cxw g) 7)), (1, .ref (wad (cxw g) (1 + 2 * t1))), (2, .int x2), (3, .int x3)]) hG dX5_takeDigits_1 (by decide) rfl ?_
  refine aw_aload_n hG 1 rfl dX5_takeDigits_3 rfl ?_
  refine aw_iload_n hG 3 rfl dX5_takeDigits_4 rfl ?_
  refine pt_sc2 hG l_265 dX5_takeDigits_5 ?_
  refine aw_stc (fun c_1 hc_1 => ?_)
  replace h := lt_r hc_1 h
  refine aw_aload_n hG 1 rfl dX5_takeDigits_8 rfl ?_
  refine aw_iconst (v := 0) hG dX5_takeDigits_9 rfl ?_
  refine pt_sc7 hG l_251 dX5_takeDigits_10 ?_
  refine aw_stc (fun c_2 hc_2 => ?_)
  replace h := lt_r hc_2 h
  refine aw_aload_n hG 1 rfl dX5_takeDigits_13 rfl ?_
  refine aw_iconst (v := 0) hG dX5_takeDigits_14 rfl ?_
  refine pt_sc4 hG l_266 dX5_takeDigits_15 ?_
  refine aw_stc (fun c_3 hc_3 => ?_)
  replace h := lt_r hc_3 h
  refine aw_aload_n hG 1 rfl dX5_takeDigits_18 rfl ?_
  refine aw_iconst (v := 0) hG dX5_takeDigits_19 rfl ?_
  refine pt_sc5 hG l_250 dX5_takeDigits_20 ?_
  refine aw_stc (fun c_4 hc_4 => ?_)
  replace h := lt_r hc_4 h
  refine aw_aload_n hG 1 rfl dX5_takeDigits_23 rfl ?_
  refine aw_iload_n hG 3 rfl dX5_takeDigits_24 rfl ?_
  refine pt_sc3 hG l_267 dX5_takeDigits_25 ?_
  refine aw_stc (fun c_5 hc_5 => ?_)
  replace h := lt_r hc_5 h
  obtain ⟨e_21, he, h⟩ := bd_o h
  refine aw_sub (L' := [(0, .ref (wad (cxw g) 7)), (1, .ref (wad (cxw g) (1 + 2 * t1))), (3, .int x3), (4, .int 0)]) [1, 2, 4, 0] rfl ?_
  refine Lp_w (F := (fun a => f_X5_takeDigits_L28 t1 x3 a.1 a.2)) (S := (fun a => AW g 28 [(0, .ref (wad (cxw g) 7)), (1, .ref (wad (cxw g) (1 + 2 * t1))), (3, .int x3), (4, .int a.1)] [] (a.2, m, z) 0 0)) (E := (fun e => AW g 157 [] [] (e, m, z) 0 0)) (a := (0, c_5)) he (fun a s h hK => w_X5_takeDigits_L28 (t1 := t1) (x3 := x3) (x4 := a.1) (c := a.2) ht1 hG h hK) ?_
  show AW g 157 _ _ _ 0 0
  obtain rfl := Option.some.inj h
  exact FinV.z hK dX5_takeDigits_157
theorem c_X5_takeDigits {c : CS} {m : MS} {z : Nat → Int64} {t1 : Nat} {x2 : Int32} {x3 : Int32} {s : CS} (ht1 : t1 < 2) (h : f_X5_takeDigits t1 x2 x3 c = some s) : Ct yX5_takeDigits cX5_takeDigits 7 none 3 (fun w => [.ref (wad w 7), .ref (wad w (1 + 2 * t1)), .int x2, .int x3]) (c, m, z) (fun _ => none) (s, m, z) := Ct_ofV (by decide +kernel) (fun _ => Nat.le_of_ble_eq_true rfl) (fun g hG hK => w_X5_takeDigits ht1 hG h hK)
noncomputable def f_X5_faultOfNumber (t1 : Nat) (x2 : Int32) (x3 : Int32) (x4 : Int32) (c : CS) : Option (Int32 × CS) :=
  Option.bind (f_X5_takeDigits t1 x2 x3 c) fun v_1 =>
  lt (ssc6 v_1 0) fun c_2 =>
  if (sc7 c_2) = 0 then
    some (sc3 c_2, c_2)
  else
    if (sc3 c_2) = (brN c_2 t1) then
      some ((-1), c_2)
    else
      if (f_X5_smallOf (f_X0_at t1 (sc3 c_2) c_2)) = x4 then
        Option.bind (f_X5_faultOfExponent t1 ((sc3 c_2) + 1) c_2) fun v_3 =>
        some (v_3.1, v_3.2)
      else
        some (sc3 c_2, c_2)
set_option maxRecDepth 20000 in
theorem w_X5_faultOfNumber {g : Cx} {mc ms : Nat} {c : CS} {m : MS} {z : Nat → Int64} {t1 : Nat} {x2 : Int32} {x3 : Int32} {x4 : Int32} {s : (Int32 × CS)} (ht1 : t1 < 2) (hG : Gd g RX5 cX5_faultOfNumber 5 4 mc ms) (h : f_X5_faultOfNumber t1 x2 x3 x4 c = some s) (hK : FinI g cX5_faultOfNumber mc ms s.1 (s.2, m, z)) : AW g 0 [(0, .ref (wad (cxw g) 7)), (1, .ref (wad (cxw g) (1 + 2 * t1))), (2, .int x2), (3, .int x3), (4, .int x4)] [] (c, m, z) 0 0 := by
  unfold f_X5_faultOfNumber at h
  refine aw_aload_n hG 0 rfl dX5_faultOfNumber_0 rfl ?_
  refine aw_aload_n hG 1 rfl dX5_faultOfNumber_1 rfl ?_
  refine aw_iload_n hG 2 rfl dX5_faultOfNumber_2 rfl ?_
  refine aw_iload_n hG 3 rfl dX5_faultOfNumber_3 rfl ?_
  obtain ⟨v_1, hv_1, h⟩ := bd_o h
  refine aw_callVv (As := [.ref (wad (cxw g) (1 + 2 * t1)), .int x2, .int x3]) (rest := []) hG (c_X5_takeDigits (t1 := t1) (x2 := x2) (x3 := x3) (c := c) ht1 hv_1) l_268 wv_X5_takeDigits (rv_X5 hG) rfl rfl rfl (by decide) (Nat.zero_le _) (Nat.zero_le _) (Nat.le_of_ble_eq_true rfl) dX5_faultOfNumber_4 ?_
  refine aw_aload_n hG 0 rfl dX5_faultOfNumber_7 rfl ?_
  refine aw_iconst (v := 0) hG dX5_faultOfNumber_8 rfl ?_
  refine pt_sc6 hG l_264 dX5_faultOfNumber_9 ?_
  refine aw_stc (fun c_2 hc_2 => ?_)
  replace h := lt_r hc_2 h
  refine aw_aload_n hG 0 rfl dX5_faultOfNumber_12 rfl ?_
  refine gt_sc7 hG l_251 dX5_faultOfNumber_13 ?_
  refine aw_if_ne (t := 24) hG dX5_faultOfNumber_16 rfl (fun hc => ?_) (fun hc => ?_)
  · replace h := it_n hc h
    refine aw_aload_n hG 0 rfl dX5_faultOfNumber_24 rfl ?_
    refine gt_sc3 hG l_267 dX5_faultOfNumber_25 ?_
    refine aw_aload_n hG 1 rfl dX5_faultOfNumber_28 rfl ?_
    refine gt_brN hG ht1 l_257 dX5_faultOfNumber_29 ?_
    refine aw_icmp_ne (t := 37) hG dX5_faultOfNumber_32 rfl (fun hc => ?_) (fun hc => ?_)
    · replace h := it_n hc h
      refine aw_aload_n hG 1 rfl dX5_faultOfNumber_37 rfl ?_
      refine aw_aload_n hG 0 rfl dX5_faultOfNumber_38 rfl ?_
      refine gt_sc3 hG l_267 dX5_faultOfNumber_39 ?_
      refine aw_callVi (As := [.int (sc3 c_2)]) (rest := []) hG (c_X0_at (t0 := t1) (x1 := sc3 c_2) (c := c_2) ht1) l_252 wv_X0_at (rv_X0 hG ht1) rfl rfl rfl (by decide) (Nat.zero_le _) (Nat.zero_le _) (Nat.le_of_ble_eq_true rfl) dX5_faultOfNumber_42 ?_
      refine aw_callSi (As := [.int (f_X0_at t1 (sc3 c_2) c_2)]) (rest := []) hG (c_X5_smallOf (x0 := f_X0_at t1 (sc3 c_2) c_2) (c := c_2) ) l_246 ws_X5_smallOf rfl rfl rfl (by decide) (Nat.zero_le _) (Nat.zero_le _) (Nat.le_of_ble_eq_true rfl) dX5_faultOfNumber_45 ?_
      refine aw_iload hG 4 rfl dX5_faultOfNumber_48 ?_
      refine aw_icmp_eq (t := 58) hG dX5_faultOfNumber_50 rfl (fun hc => ?_) (fun hc => ?_)
      · replace h := it_p hc h
        refine aw_aload_n hG 0 rfl dX5_faultOfNumber_58 rfl ?_
        refine aw_aload_n hG 1 rfl dX5_faultOfNumber_59 rfl ?_
        refine aw_aload_n hG 0 rfl dX5_faultOfNumber_60 rfl ?_
        refine gt_sc3 hG l_267 dX5_faultOfNumber_61 ?_
        refine aw_iconst (v := 1) hG dX5_faultOfNumber_64 rfl ?_
        refine aw_iadd hG dX5_faultOfNumber_65 ?_
        obtain ⟨v_3, hv_3, h⟩ := bd_o h
        refine aw_callVi (As := [.ref (wad (cxw g) (1 + 2 * t1)), .int ((sc3 c_2) + 1)]) (rest := []) hG (c_X5_faultOfExponent (t1 := t1) (x2 := (sc3 c_2) + 1) (c := c_2) ht1 hv_3) l_273 wv_X5_faultOfExponent (rv_X5 hG) rfl rfl rfl (by decide) (Nat.zero_le _) (Nat.zero_le _) (Nat.le_of_ble_eq_true rfl) dX5_faultOfNumber_66 ?_
        obtain rfl := Option.some.inj h
        exact FinI.z hK dX5_faultOfNumber_69
      · replace h := it_n hc h
        refine aw_aload_n hG 0 rfl dX5_faultOfNumber_53 rfl ?_
        refine gt_sc3 hG l_267 dX5_faultOfNumber_54 ?_
        obtain rfl := Option.some.inj h
        exact FinI.z hK dX5_faultOfNumber_57
    · replace h := it_p hc h
      refine aw_iconst (v := (-1)) hG dX5_faultOfNumber_35 rfl ?_
      obtain rfl := Option.some.inj h
      exact FinI.z hK dX5_faultOfNumber_36
  · replace h := it_p hc h
    refine aw_aload_n hG 0 rfl dX5_faultOfNumber_19 rfl ?_
    refine gt_sc3 hG l_267 dX5_faultOfNumber_20 ?_
    obtain rfl := Option.some.inj h
    exact FinI.z hK dX5_faultOfNumber_23
theorem c_X5_faultOfNumber {c : CS} {m : MS} {z : Nat → Int64} {t1 : Nat} {x2 : Int32} {x3 : Int32} {x4 : Int32} {s : Int32 × CS} (ht1 : t1 < 2) (h : f_X5_faultOfNumber t1 x2 x3 x4 c = some s) : Ct yX5_faultOfNumber cX5_faultOfNumber 5 (some .int) 4 (fun w => [.ref (wad w 7), .ref (wad w (1 + 2 * t1)), .int x2, .int x3, .int x4]) (c, m, z) (fun _ => some (.int s.1)) (s.2, m, z) := Ct_ofI (by decide +kernel) (fun _ => Nat.le_of_ble_eq_true rfl) (fun g hG hK => w_X5_faultOfNumber ht1 hG h hK)
def f_X5_faultOfWord_L3 (t1 : Nat) (x2 : Int32) (j3 : Nat) (x4 : Int32) (c : CS) : Option ((Int32) ⊕ (Int32)) :=
  if (f_JS_length j3) ≤ x4 then
    some (.inr x4)
  else
    Option.bind (f_JS_charAt j3 x4) fun v_1 =>
    if (f_X5_smallOf (f_X0_at t1 (x2 + x4) c)) = v_1 then
      lt (x4 + 1) fun x4_2 =>
      some (.inl x4_2)
    else
      some (.inr x4)
set_option maxRecDepth 20000 in
theorem w_X5_faultOfWord_L3 {g : Cx} {mc ms : Nat} {c : CS} {m : MS} {z : Nat → Int64} {t1 : Nat} {x2 : Int32} {j3 : Nat} {x4 : Int32} {s : ((Int32) ⊕ (Int32))} (ht1 : t1 < 2) (hj3 : j3 < 27) (hG : Gd g RX5 cX5_faultOfWord 6 5 mc ms) (h : f_X5_faultOfWord_L3 t1 x2 j3 x4 c = some s) (hK : Sum.elim (fun a => AW g 3 [(0, .ref (wad (cxw g) 7)), (1, .ref (wad (cxw g) (1 + 2 * t1))), (2, .int x2), (3, .ref (wad (cxw g) (40 + j3))), (4, .int a)] [] (c, m, z) 0 0) (fun e => AW g 38 [(0, .ref (wad (cxw g) 7)), (1, .ref (wad (cxw g) (1 + 2 * t1))), (2, .int x2), (3, .ref (wad (cxw g) (40 + j3))), (4, .int e)] [] (c, m, z) 0 0) s) : AW g 3 [(0, .ref (wad (cxw g) 7)), (1, .ref (wad (cxw g) (1 + 2 * t1))), (2, .int x2), (3, .ref (wad (cxw g) (40 + j3))), (4, .int x4)] [] (c, m, z) 0 0 := by
  unfold f_X5_faultOfWord_L3 at h
  refine aw_iload hG 4 rfl dX5_faultOfWord_3 ?_
  refine aw_aload_n hG 3 rfl dX5_faultOfWord_5 rfl ?_
  refine aw_callVi (As := []) (rest := [.int x4]) hG (c_JS_length (j0 := j3) (c := c) hj3) l_278 wv_JS_length (rv_S hG hj3) rfl rfl rfl (by decide) (Nat.zero_le _) (Nat.zero_le _) (Nat.le_of_ble_eq_true rfl) dX5_faultOfWord_6 ?_
  refine aw_icmp_ge (t := 38) hG dX5_faultOfWord_9 rfl (fun hc => ?_) (fun hc => ?_)
  · replace h := it_p hc h
    obtain rfl := Option.some.inj h
    exact hK
  · replace h := it_n hc h
    refine aw_aload_n hG 1 rfl dX5_faultOfWord_12 rfl ?_
    refine aw_iload_n hG 2 rfl dX5_faultOfWord_13 rfl ?_
    refine aw_iload hG 4 rfl dX5_faultOfWord_14 ?_
    refine aw_iadd hG dX5_faultOfWord_16 ?_
    refine aw_callVi (As := [.int (x2 + x4)]) (rest := []) hG (c_X0_at (t0 := t1) (x1 := x2 + x4) (c := c) ht1) l_252 wv_X0_at (rv_X0 hG ht1) rfl rfl rfl (by decide) (Nat.zero_le _) (Nat.zero_le _) (Nat.le_of_ble_eq_true rfl) dX5_faultOfWord_17 ?_
    refine aw_callSi (As := [.int (f_X0_at t1 (x2 + x4) c)]) (rest := []) hG (c_X5_smallOf (x0 := f_X0_at t1 (x2 + x4) c) (c := c) ) l_246 ws_X5_smallOf rfl rfl rfl (by decide) (Nat.zero_le _) (Nat.zero_le _) (Nat.le_of_ble_eq_true rfl) dX5_faultOfWord_20 ?_
    refine aw_aload_n hG 3 rfl dX5_faultOfWord_23 rfl ?_
    refine aw_iload hG 4 rfl dX5_faultOfWord_24 ?_
    obtain ⟨v_1, hv_1, h⟩ := bd_o h
    refine aw_callVi (As := [.int x4]) (rest := [.int (f_X5_smallOf (f_X0_at t1 (x2 + x4) c))]) hG (c_JS_charAt (j0 := j3) (x1 := x4) (c := c) hj3 hv_1) l_279 wv_JS_charAt (rv_S hG hj3) rfl rfl rfl (by decide) (Nat.zero_le _) (Nat.zero_le _) (Nat.le_of_ble_eq_true rfl) dX5_faultOfWord_26 ?_
    refine aw_icmp_ne (t := 38) hG dX5_faultOfWord_29 rfl (fun hc => ?_) (fun hc => ?_)
    · replace h := it_n hc h
      obtain rfl := Option.some.inj h
      exact hK
    · replace h := it_p hc h
      obtain ⟨x4_2, hx4_2⟩ : ∃ y : Int32, y = x4 + 1 := ⟨_, rfl⟩
      replace h := lt_r hx4_2 h
      refine aw_iinc (v := x4_2) (L' := [(4, .int x4_2), (0, .ref (wad (cxw g) 7)), (1, .ref (wad (cxw g) (1 + 2 * t1))), (2, .int x2), (3, .ref (wad (cxw g) (40 + j3)))]) hG 4 rfl dX5_faultOfWord_32 (by rw [hx4_2]; rfl) (by decide) rfl ?_
      refine aw_goto (t := 3) hG dX5_faultOfWord_35 rfl ?_
      obtain rfl := Option.some.inj h
      refine aw_sub (L' := [(0, .ref (wad (cxw g) 7)), (1, .ref (wad (cxw g) (1 + 2 * t1))), (2, .int x2), (3, .ref (wad (cxw g) (40 + j3))), (4, .int x4_2)]) [1, 2, 3, 4, 0] rfl ?_
      exact hK
def f_X5_faultOfWord_J66 (t1 : Nat) (x2 : Int32) (x4 : Int32) (s0 : Int32) (c : CS) : Option Int32 :=
  if s0 = 0 then
    some (x2 + x4)
  else
    if (x2 + x4) = (brN c t1) then
      some (-1)
    else
      some (x2 + x4)
set_option maxRecDepth 20000 in
theorem w_X5_faultOfWord_J66 {g : Cx} {mc ms : Nat} {c : CS} {m : MS} {z : Nat → Int64} {t1 : Nat} {x2 : Int32} {x4 : Int32} {s0 : Int32} {s : Int32} (ht1 : t1 < 2) (hG : Gd g RX5 cX5_faultOfWord 6 5 mc ms) (h : f_X5_faultOfWord_J66 t1 x2 x4 s0 c = some s) (hK : FinI g cX5_faultOfWord mc ms s (c, m, z)) : AW g 66 [(1, .ref (wad (cxw g) (1 + 2 * t1))), (2, .int x2), (4, .int x4)] [.int s0] (c, m, z) 0 0 := by
  unfold f_X5_faultOfWord_J66 at h
  refine aw_istore (L' := [(5, .int s0), (1, .ref (wad (cxw g) (1 + 2 * t1))), (2, .int x2), (4, .int x4)]) hG dX5_faultOfWord_66 (by decide) rfl ?_
  refine aw_iload hG 0 rfl dX5_faultOfWord_68 ?_
  refine aw_if_eq (t := 88) hG dX5_faultOfWord_70 rfl (fun hc => ?_) (fun hc => ?_)
  · replace h := it_p hc h
    refine aw_iload_n hG 2 rfl dX5_faultOfWord_88 rfl ?_
    refine aw_iload hG 3 rfl dX5_faultOfWord_89 ?_
    refine aw_iadd hG dX5_faultOfWord_91 ?_
    obtain rfl := Option.some.inj h
    exact FinI.z hK dX5_faultOfWord_92
  · replace h := it_n hc h
    refine aw_iload_n hG 2 rfl dX5_faultOfWord_73 rfl ?_
    refine aw_iload hG 3 rfl dX5_faultOfWord_74 ?_
    refine aw_iadd hG dX5_faultOfWord_76 ?_
    refine aw_aload_n hG 1 rfl dX5_faultOfWord_77 rfl ?_
    refine gt_brN hG ht1 l_257 dX5_faultOfWord_78 ?_
    refine aw_icmp_ne (t := 88) hG dX5_faultOfWord_81 rfl (fun hc => ?_) (fun hc => ?_)
    · replace h := it_n hc h
      refine aw_iload_n hG 2 rfl dX5_faultOfWord_88 rfl ?_
      refine aw_iload hG 3 rfl dX5_faultOfWord_89 ?_
      refine aw_iadd hG dX5_faultOfWord_91 ?_
      obtain rfl := Option.some.inj h
      exact FinI.z hK dX5_faultOfWord_92
    · replace h := it_p hc h
      refine aw_iconst (v := (-1)) hG dX5_faultOfWord_84 rfl ?_
      refine aw_goto (t := 92) hG dX5_faultOfWord_85 rfl ?_
      obtain rfl := Option.some.inj h
      exact FinI.z hK dX5_faultOfWord_92
noncomputable def f_X5_faultOfWord (t1 : Nat) (x2 : Int32) (j3 : Nat) (c : CS) : Option Int32 :=
  Option.bind (Lp (fun a => f_X5_faultOfWord_L3 t1 x2 j3 a c) 0) fun e_5 =>
  if e_5 = (f_JS_length j3) then
    f_X5_faultOfWord_J66 t1 x2 e_5 1 c
  else
    if (sc0 c) = 2 then
      if e_5 = 3 then
        f_X5_faultOfWord_J66 t1 x2 e_5 1 c
      else
        f_X5_faultOfWord_J66 t1 x2 e_5 0 c
    else
      f_X5_faultOfWord_J66 t1 x2 e_5 0 c
set_option maxRecDepth 20000 in
theorem w_X5_faultOfWord {g : Cx} {mc ms : Nat} {c : CS} {m : MS} {z : Nat → Int64} {t1 : Nat} {x2 : Int32} {j3 : Nat} {s : Int32} (ht1 : t1 < 2) (hj3 : j3 < 27) (hG : Gd g RX5 cX5_faultOfWord 6 5 mc ms) (h : f_X5_faultOfWord t1 x2 j3 c = some s) (hK : FinI g cX5_faultOfWord mc ms s (c, m, z)) : AW g 0 [(0, .ref (wad (cxw g) 7)), (1, .ref (wad (cxw g) (1 + 2 * t1))), (2, .int x2), (3, .ref (wad (cxw g) (40 + j3)))] [] (c, m, z) 0 0 := by
  unfold f_X5_faultOfWord at h
  refine aw_iconst (v := 0) hG dX5_faultOfWord_0 rfl ?_
  refine aw_istore (L' := [(4, .int 0), (0, .ref (wad (cxw g) 7)), (1, .ref (wad (cxw g) (1 + 2 * t1))), (2, .int x2), (3, .ref (wad (cxw g) (40 + j3)))]) hG dX5_faultOfWord_1 (by decide) rfl ?_
  obtain ⟨e_5, he, h⟩ := bd_o h
  refine aw_sub (L' := [(0, .ref (wad (cxw g) 7)), (1, .ref (wad (cxw g) (1 + 2 * t1))), (2, .int x2), (3, .ref (wad (cxw g) (40 + j3))), (4, .int 0)]) [1, 2, 3, 4, 0] rfl ?_
  refine Lp_w (F := (fun a => f_X5_faultOfWord_L3 t1 x2 j3 a c)) (S := (fun a => AW g 3 [(0, .ref (wad (cxw g) 7)), (1, .ref (wad (cxw g) (1 + 2 * t1))), (2, .int x2), (3, .ref (wad (cxw g) (40 + j3))), (4, .int a)] [] (c, m, z) 0 0)) (E := (fun e => AW g 38 [(0, .ref (wad (cxw g) 7)), (1, .ref (wad (cxw g) (1 + 2 * t1))), (2, .int x2), (3, .ref (wad (cxw g) (40 + j3))), (4, .int e)] [] (c, m, z) 0 0)) (a := 0) he (fun a s h hK => w_X5_faultOfWord_L3 (t1 := t1) (x2 := x2) (j3 := j3) (x4 := a) (c := c) ht1 hj3 hG h hK) ?_
  show AW g 38 _ _ _ 0 0
  refine aw_iload hG 4 rfl dX5_faultOfWord_38 ?_
  refine aw_aload_n hG 3 rfl dX5_faultOfWord_40 rfl ?_
  refine aw_callVi (As := []) (rest := [.int e_5]) hG (c_JS_length (j0 := j3) (c := c) hj3) l_278 wv_JS_length (rv_S hG hj3) rfl rfl rfl (by decide) (Nat.zero_le _) (Nat.zero_le _) (Nat.le_of_ble_eq_true rfl) dX5_faultOfWord_41 ?_
  refine aw_icmp_eq (t := 61) hG dX5_faultOfWord_44 rfl (fun hc => ?_) (fun hc => ?_)
  · replace h := it_p hc h
    refine aw_iconst (v := 1) hG dX5_faultOfWord_61 rfl ?_
    refine aw_goto (t := 66) hG dX5_faultOfWord_62 rfl ?_
    refine aw_sub (L' := [(1, .ref (wad (cxw g) (1 + 2 * t1))), (2, .int x2), (4, .int e_5)]) [1, 2, 4] rfl ?_
    exact w_X5_faultOfWord_J66 (t1 := t1) (x2 := x2) (x4 := e_5) (s0 := 1) (c := c) ht1 hG h hK
  · replace h := it_n hc h
    refine aw_aload_n hG 0 rfl dX5_faultOfWord_47 rfl ?_
    refine gt_sc0 hG l_280 dX5_faultOfWord_48 ?_
    refine aw_iconst (v := 2) hG dX5_faultOfWord_51 rfl ?_
    refine aw_icmp_ne (t := 65) hG dX5_faultOfWord_52 rfl (fun hc => ?_) (fun hc => ?_)
    · replace h := it_n hc h
      refine aw_iconst (v := 0) hG dX5_faultOfWord_65 rfl ?_
      refine aw_sub (L' := [(1, .ref (wad (cxw g) (1 + 2 * t1))), (2, .int x2), (4, .int e_5)]) [1, 2, 4] rfl ?_
      exact w_X5_faultOfWord_J66 (t1 := t1) (x2 := x2) (x4 := e_5) (s0 := 0) (c := c) ht1 hG h hK
    · replace h := it_p hc h
      refine aw_iload hG 4 rfl dX5_faultOfWord_55 ?_
      refine aw_iconst (v := 3) hG dX5_faultOfWord_57 rfl ?_
      refine aw_icmp_ne (t := 65) hG dX5_faultOfWord_58 rfl (fun hc => ?_) (fun hc => ?_)
      · replace h := it_n hc h
        refine aw_iconst (v := 0) hG dX5_faultOfWord_65 rfl ?_
        refine aw_sub (L' := [(1, .ref (wad (cxw g) (1 + 2 * t1))), (2, .int x2), (4, .int e_5)]) [1, 2, 4] rfl ?_
        exact w_X5_faultOfWord_J66 (t1 := t1) (x2 := x2) (x4 := e_5) (s0 := 0) (c := c) ht1 hG h hK
      · replace h := it_p hc h
        refine aw_iconst (v := 1) hG dX5_faultOfWord_61 rfl ?_
        refine aw_goto (t := 66) hG dX5_faultOfWord_62 rfl ?_
        refine aw_sub (L' := [(1, .ref (wad (cxw g) (1 + 2 * t1))), (2, .int x2), (4, .int e_5)]) [1, 2, 4] rfl ?_
        exact w_X5_faultOfWord_J66 (t1 := t1) (x2 := x2) (x4 := e_5) (s0 := 1) (c := c) ht1 hG h hK
theorem c_X5_faultOfWord {c : CS} {m : MS} {z : Nat → Int64} {t1 : Nat} {x2 : Int32} {j3 : Nat} {s : Int32} (ht1 : t1 < 2) (hj3 : j3 < 27) (h : f_X5_faultOfWord t1 x2 j3 c = some s) : Ct yX5_faultOfWord cX5_faultOfWord 6 (some .int) 5 (fun w => [.ref (wad w 7), .ref (wad w (1 + 2 * t1)), .int x2, .ref (wad w (40 + j3))]) (c, m, z) (fun _ => some (.int s)) (c, m, z) := Ct_ofI (by decide +kernel) (fun _ => Nat.le_of_ble_eq_true rfl) (fun g hG hK => w_X5_faultOfWord ht1 hj3 hG h hK)
noncomputable def f_X5_faultOf_J113 (t1 : Nat) (x2 : Int32) (c : CS) : Option (Int32 × CS) :=
  lt (ssc0 c 0) fun c_5 =>
  Option.bind (f_X5_faultOfNumber t1 x2 10 101 c_5) fun v_6 =>
  some (v_6.1, v_6.2)
set_option maxRecDepth 20000 in
theorem w_X5_faultOf_J113 {g : Cx} {mc ms : Nat} {c : CS} {m : MS} {z : Nat → Int64} {t1 : Nat} {x2 : Int32} {s : (Int32 × CS)} (ht1 : t1 < 2) (hG : Gd g RX5 cX5_faultOf 4 6 mc ms) (h : f_X5_faultOf_J113 t1 x2 c = some s) (hK : FinI g cX5_faultOf mc ms s.1 (s.2, m, z)) : AW g 113 [(0, .ref (wad (cxw g) 7)), (1, .ref (wad (cxw g) (1 + 2 * t1))), (2, .int x2)] [] (c, m, z) 0 0 := by
  unfold f_X5_faultOf_J113 at h
  refine aw_aload_n hG 0 rfl dX5_faultOf_113 rfl ?_
  refine aw_iconst (v := 0) hG dX5_faultOf_114 rfl ?_
  refine pt_sc0 hG l_280 dX5_faultOf_115 ?_
  refine aw_stc (fun c_5 hc_5 => ?_)
  replace h := lt_r hc_5 h
  refine aw_aload_n hG 0 rfl dX5_faultOf_118 rfl ?_
  refine aw_aload_n hG 1 rfl dX5_faultOf_119 rfl ?_
  refine aw_iload_n hG 2 rfl dX5_faultOf_120 rfl ?_
  refine aw_bipush (v := 10) hG dX5_faultOf_121 rfl ?_
  refine aw_bipush (v := 101) hG dX5_faultOf_123 rfl ?_
  obtain ⟨v_6, hv_6, h⟩ := bd_o h
  refine aw_callVi (As := [.ref (wad (cxw g) (1 + 2 * t1)), .int x2, .int 10, .int 101]) (rest := []) hG (c_X5_faultOfNumber (t1 := t1) (x2 := x2) (x3 := 10) (x4 := 101) (c := c_5) ht1 hv_6) l_282 wv_X5_faultOfNumber (rv_X5 hG) rfl rfl rfl (by decide) (Nat.zero_le _) (Nat.zero_le _) (Nat.le_of_ble_eq_true rfl) dX5_faultOf_125 ?_
  obtain rfl := Option.some.inj h
  exact FinI.z hK dX5_faultOf_128
noncomputable def f_X5_faultOf_J22 (t1 : Nat) (x2 : Int32) (s0 : Int32) (c : CS) : Option (Int32 × CS) :=
  if s0 = 0 ∨ s0 = 1 then
    lt (ssc1 c s0) fun c_3 =>
    lt (f_X5_smallOf (f_X0_at t1 x2 c_3)) fun x3_4 =>
    if x3_4 = 110 then
      lt (ssc0 c_3 3) fun c_14 =>
      Option.bind (f_X5_faultOfWord t1 x2 3 c_14) fun v_15 =>
      some (v_15, c_14)
    else
      if x3_4 = 105 then
        lt (ssc0 c_3 2) fun c_11 =>
        Option.bind (f_X5_faultOfWord t1 x2 4 c_11) fun v_12 =>
        some (v_12, c_11)
      else
        if x3_4 = 48 then
          if (f_X5_smallOf (f_X0_at t1 (x2 + 1) c_3)) = 120 then
            lt (ssc0 c_3 1) fun c_7 =>
            Option.bind (f_X5_faultOfNumber t1 (x2 + 2) 16 112 c_7) fun v_8 =>
            some (v_8.1, v_8.2)
          else
            f_X5_faultOf_J113 t1 x2 c_3
        else
          f_X5_faultOf_J113 t1 x2 c_3
  else none
set_option maxRecDepth 20000 in
theorem w_X5_faultOf_J22 {g : Cx} {mc ms : Nat} {c : CS} {m : MS} {z : Nat → Int64} {t1 : Nat} {x2 : Int32} {s0 : Int32} {s : (Int32 × CS)} (ht1 : t1 < 2) (hG : Gd g RX5 cX5_faultOf 4 6 mc ms) (h : f_X5_faultOf_J22 t1 x2 s0 c = some s) (hK : FinI g cX5_faultOf mc ms s.1 (s.2, m, z)) : AW g 22 [(0, .ref (wad (cxw g) 7)), (1, .ref (wad (cxw g) (1 + 2 * t1))), (2, .int x2)] [.int s0, .ref (wad (cxw g) 7)] (c, m, z) 0 0 := by
  unfold f_X5_faultOf_J22 at h
  obtain ⟨hb_2, h⟩ := it_o h
  refine pt_sc1 hG hb_2 l_281 dX5_faultOf_22 ?_
  refine aw_stc (fun c_3 hc_3 => ?_)
  replace h := lt_r hc_3 h
  refine aw_aload_n hG 1 rfl dX5_faultOf_25 rfl ?_
  refine aw_iload_n hG 2 rfl dX5_faultOf_26 rfl ?_
  refine aw_callVi (As := [.int x2]) (rest := []) hG (c_X0_at (t0 := t1) (x1 := x2) (c := c_3) ht1) l_252 wv_X0_at (rv_X0 hG ht1) rfl rfl rfl (by decide) (Nat.zero_le _) (Nat.zero_le _) (Nat.le_of_ble_eq_true rfl) dX5_faultOf_27 ?_
  refine aw_callSi (As := [.int (f_X0_at t1 x2 c_3)]) (rest := []) hG (c_X5_smallOf (x0 := f_X0_at t1 x2 c_3) (c := c_3) ) l_246 ws_X5_smallOf rfl rfl rfl (by decide) (Nat.zero_le _) (Nat.zero_le _) (Nat.le_of_ble_eq_true rfl) dX5_faultOf_30 ?_
  refine aw_topi (fun x3_4 hx3_4 => ?_)
  replace h := lt_r hx3_4 h
  refine aw_istore_n (L' := [(3, .int x3_4), (0, .ref (wad (cxw g) 7)), (1, .ref (wad (cxw g) (1 + 2 * t1))), (2, .int x2)]) hG dX5_faultOf_33 rfl (by decide) rfl ?_
  refine aw_iload_n hG 0 rfl dX5_faultOf_34 rfl ?_
  refine aw_bipush (v := 110) hG dX5_faultOf_35 rfl ?_
  refine aw_icmp_ne (t := 54) hG dX5_faultOf_37 rfl (fun hc => ?_) (fun hc => ?_)
  · replace h := it_n hc h
    refine aw_iload_n hG 0 rfl dX5_faultOf_54 rfl ?_
    refine aw_bipush (v := 105) hG dX5_faultOf_55 rfl ?_
    refine aw_icmp_ne (t := 74) hG dX5_faultOf_57 rfl (fun hc => ?_) (fun hc => ?_)
    · replace h := it_n hc h
      refine aw_iload_n hG 0 rfl dX5_faultOf_74 rfl ?_
      refine aw_bipush (v := 48) hG dX5_faultOf_75 rfl ?_
      refine aw_icmp_ne (t := 113) hG dX5_faultOf_77 rfl (fun hc => ?_) (fun hc => ?_)
      · replace h := it_n hc h
        refine aw_sub (L' := [(0, .ref (wad (cxw g) 7)), (1, .ref (wad (cxw g) (1 + 2 * t1))), (2, .int x2)]) [1, 2, 3] rfl ?_
        exact w_X5_faultOf_J113 (t1 := t1) (x2 := x2) (c := c_3) ht1 hG h hK
      · replace h := it_p hc h
        refine aw_aload_n hG 2 rfl dX5_faultOf_80 rfl ?_
        refine aw_iload_n hG 3 rfl dX5_faultOf_81 rfl ?_
        refine aw_iconst (v := 1) hG dX5_faultOf_82 rfl ?_
        refine aw_iadd hG dX5_faultOf_83 ?_
        refine aw_callVi (As := [.int (x2 + 1)]) (rest := []) hG (c_X0_at (t0 := t1) (x1 := x2 + 1) (c := c_3) ht1) l_252 wv_X0_at (rv_X0 hG ht1) rfl rfl rfl (by decide) (Nat.zero_le _) (Nat.zero_le _) (Nat.le_of_ble_eq_true rfl) dX5_faultOf_84 ?_
        refine aw_callSi (As := [.int (f_X0_at t1 (x2 + 1) c_3)]) (rest := []) hG (c_X5_smallOf (x0 := f_X0_at t1 (x2 + 1) c_3) (c := c_3) ) l_246 ws_X5_smallOf rfl rfl rfl (by decide) (Nat.zero_le _) (Nat.zero_le _) (Nat.le_of_ble_eq_true rfl) dX5_faultOf_87 ?_
        refine aw_bipush (v := 120) hG dX5_faultOf_90 rfl ?_
        refine aw_icmp_ne (t := 113) hG dX5_faultOf_92 rfl (fun hc => ?_) (fun hc => ?_)
        · replace h := it_n hc h
          refine aw_sub (L' := [(0, .ref (wad (cxw g) 7)), (1, .ref (wad (cxw g) (1 + 2 * t1))), (2, .int x2)]) [1, 2, 3] rfl ?_
          exact w_X5_faultOf_J113 (t1 := t1) (x2 := x2) (c := c_3) ht1 hG h hK
        · replace h := it_p hc h
          refine aw_aload_n hG 1 rfl dX5_faultOf_95 rfl ?_
          refine aw_iconst (v := 1) hG dX5_faultOf_96 rfl ?_
          refine pt_sc0 hG l_280 dX5_faultOf_97 ?_
          refine aw_stc (fun c_7 hc_7 => ?_)
          replace h := lt_r hc_7 h
          refine aw_aload_n hG 1 rfl dX5_faultOf_100 rfl ?_
          refine aw_aload_n hG 2 rfl dX5_faultOf_101 rfl ?_
          refine aw_iload_n hG 3 rfl dX5_faultOf_102 rfl ?_
          refine aw_iconst (v := 2) hG dX5_faultOf_103 rfl ?_
          refine aw_iadd hG dX5_faultOf_104 ?_
          refine aw_bipush (v := 16) hG dX5_faultOf_105 rfl ?_
          refine aw_bipush (v := 112) hG dX5_faultOf_107 rfl ?_
          obtain ⟨v_8, hv_8, h⟩ := bd_o h
          refine aw_callVi (As := [.ref (wad (cxw g) (1 + 2 * t1)), .int (x2 + 2), .int 16, .int 112]) (rest := []) hG (c_X5_faultOfNumber (t1 := t1) (x2 := x2 + 2) (x3 := 16) (x4 := 112) (c := c_7) ht1 hv_8) l_282 wv_X5_faultOfNumber (rv_X5 hG) rfl rfl rfl (by decide) (Nat.zero_le _) (Nat.zero_le _) (Nat.le_of_ble_eq_true rfl) dX5_faultOf_109 ?_
          obtain rfl := Option.some.inj h
          exact FinI.z hK dX5_faultOf_112
    · replace h := it_p hc h
      refine aw_aload_n hG 1 rfl dX5_faultOf_60 rfl ?_
      refine aw_iconst (v := 2) hG dX5_faultOf_61 rfl ?_
      refine pt_sc0 hG l_280 dX5_faultOf_62 ?_
      refine aw_stc (fun c_11 hc_11 => ?_)
      replace h := lt_r hc_11 h
      refine aw_aload_n hG 1 rfl dX5_faultOf_65 rfl ?_
      refine aw_aload_n hG 2 rfl dX5_faultOf_66 rfl ?_
      refine aw_iload_n hG 3 rfl dX5_faultOf_67 rfl ?_
      refine aw_ldcS (j := 4) hG rfl dX5_faultOf_68 ?_
      obtain ⟨v_12, hv_12, h⟩ := bd_o h
      refine aw_callVi (As := [.ref (wad (cxw g) (1 + 2 * t1)), .int x2, .ref (wad (cxw g) (40 + 4))]) (rest := []) hG (c_X5_faultOfWord (t1 := t1) (x2 := x2) (j3 := 4) (c := c_11) ht1 (by decide) hv_12) l_287 wv_X5_faultOfWord (rv_X5 hG) rfl rfl rfl (by decide) (Nat.zero_le _) (Nat.zero_le _) (Nat.le_of_ble_eq_true rfl) dX5_faultOf_70 ?_
      obtain rfl := Option.some.inj h
      exact FinI.z hK dX5_faultOf_73
  · replace h := it_p hc h
    refine aw_aload_n hG 1 rfl dX5_faultOf_40 rfl ?_
    refine aw_iconst (v := 3) hG dX5_faultOf_41 rfl ?_
    refine pt_sc0 hG l_280 dX5_faultOf_42 ?_
    refine aw_stc (fun c_14 hc_14 => ?_)
    replace h := lt_r hc_14 h
    refine aw_aload_n hG 1 rfl dX5_faultOf_45 rfl ?_
    refine aw_aload_n hG 2 rfl dX5_faultOf_46 rfl ?_
    refine aw_iload_n hG 3 rfl dX5_faultOf_47 rfl ?_
    refine aw_ldcS (j := 3) hG rfl dX5_faultOf_48 ?_
    obtain ⟨v_15, hv_15, h⟩ := bd_o h
    refine aw_callVi (As := [.ref (wad (cxw g) (1 + 2 * t1)), .int x2, .ref (wad (cxw g) (40 + 3))]) (rest := []) hG (c_X5_faultOfWord (t1 := t1) (x2 := x2) (j3 := 3) (c := c_14) ht1 (by decide) hv_15) l_287 wv_X5_faultOfWord (rv_X5 hG) rfl rfl rfl (by decide) (Nat.zero_le _) (Nat.zero_le _) (Nat.le_of_ble_eq_true rfl) dX5_faultOf_50 ?_
    obtain rfl := Option.some.inj h
    exact FinI.z hK dX5_faultOf_53
noncomputable def f_X5_faultOf (t1 : Nat) (c : CS) : Option (Int32 × CS) :=
  lt (f_X5_behindSign t1 0 c) fun x2_1 =>
  if (f_X0_at t1 0 c) = 45 then
    f_X5_faultOf_J22 t1 x2_1 1 c
  else
    f_X5_faultOf_J22 t1 x2_1 0 c
set_option maxRecDepth 20000 in
theorem w_X5_faultOf {g : Cx} {mc ms : Nat} {c : CS} {m : MS} {z : Nat → Int64} {t1 : Nat} {s : (Int32 × CS)} (ht1 : t1 < 2) (hG : Gd g RX5 cX5_faultOf 4 6 mc ms) (h : f_X5_faultOf t1 c = some s) (hK : FinI g cX5_faultOf mc ms s.1 (s.2, m, z)) : AW g 0 [(0, .ref (wad (cxw g) 7)), (1, .ref (wad (cxw g) (1 + 2 * t1)))] [] (c, m, z) 0 0 := by
  unfold f_X5_faultOf at h
  refine aw_aload_n hG 1 rfl dX5_faultOf_0 rfl ?_
  refine aw_iconst (v := 0) hG dX5_faultOf_1 rfl ?_
  refine aw_callSi (As := [.ref (wad (cxw g) (1 + 2 * t1)), .int 0]) (rest := []) hG (c_X5_behindSign (t0 := t1) (x1 := 0) (c := c) ht1) l_253 ws_X5_behindSign rfl rfl rfl (by decide) (Nat.zero_le _) (Nat.zero_le _) (Nat.le_of_ble_eq_true rfl) dX5_faultOf_2 ?_
  refine aw_topi (fun x2_1 hx2_1 => ?_)
  replace h := lt_r hx2_1 h
  refine aw_istore_n (L' := [(2, .int x2_1), (0, .ref (wad (cxw g) 7)), (1, .ref (wad (cxw g) (1 + 2 * t1)))]) hG dX5_faultOf_5 rfl (by decide) rfl ?_
  refine aw_aload_n hG 1 rfl dX5_faultOf_6 rfl ?_
  refine aw_aload_n hG 2 rfl dX5_faultOf_7 rfl ?_
  refine aw_iconst (v := 0) hG dX5_faultOf_8 rfl ?_
  refine aw_callVi (As := [.int 0]) (rest := [.ref (wad (cxw g) 7)]) hG (c_X0_at (t0 := t1) (x1 := 0) (c := c) ht1) l_252 wv_X0_at (rv_X0 hG ht1) rfl rfl rfl (by decide) (Nat.zero_le _) (Nat.zero_le _) (Nat.le_of_ble_eq_true rfl) dX5_faultOf_9 ?_
  refine aw_bipush (v := 45) hG dX5_faultOf_12 rfl ?_
  refine aw_icmp_ne (t := 21) hG dX5_faultOf_14 rfl (fun hc => ?_) (fun hc => ?_)
  · replace h := it_n hc h
    refine aw_iconst (v := 0) hG dX5_faultOf_21 rfl ?_
    refine aw_sub (L' := [(0, .ref (wad (cxw g) 7)), (1, .ref (wad (cxw g) (1 + 2 * t1))), (2, .int x2_1)]) [1, 2, 0] rfl ?_
    exact w_X5_faultOf_J22 (t1 := t1) (x2 := x2_1) (s0 := 0) (c := c) ht1 hG h hK
  · replace h := it_p hc h
    refine aw_iconst (v := 1) hG dX5_faultOf_17 rfl ?_
    refine aw_goto (t := 22) hG dX5_faultOf_18 rfl ?_
    refine aw_sub (L' := [(0, .ref (wad (cxw g) 7)), (1, .ref (wad (cxw g) (1 + 2 * t1))), (2, .int x2_1)]) [1, 2, 0] rfl ?_
    exact w_X5_faultOf_J22 (t1 := t1) (x2 := x2_1) (s0 := 1) (c := c) ht1 hG h hK
theorem c_X5_faultOf {c : CS} {m : MS} {z : Nat → Int64} {t1 : Nat} {s : Int32 × CS} (ht1 : t1 < 2) (h : f_X5_faultOf t1 c = some s) : Ct yX5_faultOf cX5_faultOf 4 (some .int) 6 (fun w => [.ref (wad w 7), .ref (wad w (1 + 2 * t1))]) (c, m, z) (fun _ => some (.int s.1)) (s.2, m, z) := Ct_ofI (by decide +kernel) (fun _ => Nat.le_of_ble_eq_true rfl) (fun g hG hK => w_X5_faultOf ht1 hG h hK)
