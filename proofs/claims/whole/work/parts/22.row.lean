def f_X4_bitsOfTens (x0 : Int32) : Int32 :=
  ((f_JM_floorDiv (x0 * 217706) 65536) + 1)
set_option maxRecDepth 20000 in
theorem w_X4_bitsOfTens {g : Cx} {mc ms : Nat} {c : CS} {m : MS} {z : Nat → Int64} {x0 : Int32} {s : Int32}  (hG : Gd g RX4 cX4_bitsOfTens 1 2 mc ms) (h : f_X4_bitsOfTens x0 = s) (hK : FinI g cX4_bitsOfTens mc ms s (c, m, z)) : AW g 0 [(0, .int x0)] [] (c, m, z) 0 0 := by
  unfold f_X4_bitsOfTens at h
  refine aw_iload_n hG 0 rfl dX4_bitsOfTens_0 rfl ?_
  refine aw_ldc hG l_186 dX4_bitsOfTens_1 ?_
  refine aw_imul hG dX4_bitsOfTens_3 ?_
  refine aw_ldc hG l_187 dX4_bitsOfTens_4 ?_
  refine aw_callSi (As := [.int (x0 * 217706), .int 65536]) (rest := []) hG (c_JM_floorDiv (x0 := x0 * 217706) (x1 := 65536) (c := c) (by decide)) l_188 ws_JM_floorDiv rfl rfl rfl (by decide) (Nat.zero_le _) (Nat.zero_le _) (Nat.le_of_ble_eq_true rfl) dX4_bitsOfTens_6 ?_
  refine aw_iconst (v := 1) hG dX4_bitsOfTens_9 rfl ?_
  refine aw_iadd hG dX4_bitsOfTens_10 ?_
  subst h
  exact FinI.z hK dX4_bitsOfTens_11
theorem c_X4_bitsOfTens {c : CS} {m : MS} {z : Nat → Int64} {x0 : Int32}  : Ct yX4_bitsOfTens cX4_bitsOfTens 1 (some .int) 2 (fun w => [.int x0]) (c, m, z) (fun _ => some (.int (f_X4_bitsOfTens x0))) (c, m, z) := Ct_ofI (by decide +kernel) (fun _ => Nat.le_of_ble_eq_true rfl) (fun g hG hK => w_X4_bitsOfTens hG rfl hK)
def f_X4_empty_L20 (r0 : Nat) (x1 : Int32) (x2 : Int32) (c : CS) : Option ((Int32 × CS) ⊕ (CS)) :=
  if x1 < x2 then
    some (.inr c)
  else
    if vI x2 156 then
      lt (srwL c r0 (upd (rwL c r0) x2.toNatClampNeg 0)) fun c_4 =>
      lt (x2 + 1) fun x2_5 =>
      some (.inl (x2_5, c_4))
    else none
set_option maxRecDepth 20000 in
theorem w_X4_empty_L20 {g : Cx} {mc ms : Nat} {c : CS} {m : MS} {z : Nat → Int64} {r0 : Nat} {x1 : Int32} {x2 : Int32} {s : ((Int32 × CS) ⊕ (CS))} (hr0 : r0 < 4) (hG : Gd g RX4 cX4_empty 3 2 mc ms) (h : f_X4_empty_L20 r0 x1 x2 c = some s) (hK : Sum.elim (fun a => AW g 20 [(0, .ref (wad (cxw g) (9 + 2 * r0))), (1, .int x1), (2, .int a.1)] [] (a.2, m, z) 0 0) (fun e => AW g 38 [(0, .ref (wad (cxw g) (9 + 2 * r0)))] [] (e, m, z) 0 0) s) : AW g 20 [(0, .ref (wad (cxw g) (9 + 2 * r0))), (1, .int x1), (2, .int x2)] [] (c, m, z) 0 0 := by
  unfold f_X4_empty_L20 at h
  refine aw_iload_n hG 2 rfl dX4_empty_20 rfl ?_
  refine aw_iload_n hG 1 rfl dX4_empty_21 rfl ?_
  refine aw_icmp_gt (t := 38) hG dX4_empty_22 rfl (fun hc => ?_) (fun hc => ?_)
  · replace h := it_p hc h
    obtain rfl := Option.some.inj h
    refine aw_sub (L' := [(0, .ref (wad (cxw g) (9 + 2 * r0)))]) [0] rfl ?_
    exact hK
  · replace h := it_n hc h
    refine aw_aload_n hG 0 rfl dX4_empty_25 rfl ?_
    refine gt_rwL hG hr0 l_71 dX4_empty_26 ?_
    refine aw_iload_n hG 2 rfl dX4_empty_29 rfl ?_
    refine aw_iconst (v := 0) hG dX4_empty_30 rfl ?_
    obtain ⟨hi_3, h⟩ := it_o h
    refine as_rwL hG hr0 hi_3 dX4_empty_31 ?_
    refine aw_stc (fun c_4 hc_4 => ?_)
    replace h := lt_r hc_4 h
    obtain ⟨x2_5, hx2_5⟩ : ∃ y : Int32, y = x2 + 1 := ⟨_, rfl⟩
    replace h := lt_r hx2_5 h
    refine aw_iinc (v := x2_5) (L' := [(2, .int x2_5), (0, .ref (wad (cxw g) (9 + 2 * r0))), (1, .int x1)]) hG 2 rfl dX4_empty_32 (by rw [hx2_5]; rfl) (by decide) rfl ?_
    refine aw_goto (t := 20) hG dX4_empty_35 rfl ?_
    obtain rfl := Option.some.inj h
    refine aw_sub (L' := [(0, .ref (wad (cxw g) (9 + 2 * r0))), (1, .int x1), (2, .int x2_5)]) [1, 2, 0] rfl ?_
    exact hK
noncomputable def f_X4_empty (r0 : Nat) (c : CS) : Option CS :=
  lt (f_JM_min (rwE c r0) 155) fun x1_1 =>
  lt (f_JM_max (rwF c r0) 0) fun x2_2 =>
  Option.bind (Lp (fun a => f_X4_empty_L20 r0 x1_1 a.1 a.2) (x2_2, c)) fun e_7 =>
  lt (srwF e_7 r0 156) fun c_8 =>
  lt (srwE c_8 r0 (-1)) fun c_9 =>
  lt (srwX c_9 r0 0) fun c_10 =>
  some c_10
set_option maxRecDepth 20000 in
theorem w_X4_empty {g : Cx} {mc ms : Nat} {c : CS} {m : MS} {z : Nat → Int64} {r0 : Nat} {s : CS} (hr0 : r0 < 4) (hG : Gd g RX4 cX4_empty 3 2 mc ms) (h : f_X4_empty r0 c = some s) (hK : FinV g cX4_empty mc ms (s, m, z)) : AW g 0 [(0, .ref (wad (cxw g) (9 + 2 * r0)))] [] (c, m, z) 0 0 := by
  unfold f_X4_empty at h
  refine aw_aload_n hG 0 rfl dX4_empty_0 rfl ?_
  refine gt_rwE hG hr0 l_73 dX4_empty_1 ?_
  refine aw_sipush (v := 155) hG dX4_empty_4 rfl ?_
  refine aw_callSi (As := [.int (rwE c r0), .int 155]) (rest := []) hG (c_JM_min (x0 := rwE c r0) (x1 := 155) (c := c) ) l_192 ws_JM_min rfl rfl rfl (by decide) (Nat.zero_le _) (Nat.zero_le _) (Nat.le_of_ble_eq_true rfl) dX4_empty_7 ?_
  refine aw_topi (fun x1_1 hx1_1 => ?_)
  replace h := lt_r hx1_1 h
  refine aw_istore_n (L' := [(1, .int x1_1), (0, .ref (wad (cxw g) (9 + 2 * r0)))]) hG dX4_empty_10 rfl (by decide) rfl ?_
  refine aw_aload_n hG 1 rfl dX4_empty_11 rfl ?_
  refine gt_rwF hG hr0 l_72 dX4_empty_12 ?_
  refine aw_iconst (v := 0) hG dX4_empty_15 rfl ?_
  refine aw_callSi (As := [.int (rwF c r0), .int 0]) (rest := []) hG (c_JM_max (x0 := rwF c r0) (x1 := 0) (c := c) ) l_193 ws_JM_max rfl rfl rfl (by decide) (Nat.zero_le _) (Nat.zero_le _) (Nat.le_of_ble_eq_true rfl) dX4_empty_16 ?_
  refine aw_topi (fun x2_2 hx2_2 => ?_)
  replace h := lt_r hx2_2 h
  refine aw_istore_n (L' := [(2, .int x2_2), (1, .int x1_1), (0, .ref (wad (cxw g) (9 + 2 * r0)))]) hG dX4_empty_19 rfl (by decide) rfl ?_
  obtain ⟨e_7, he, h⟩ := bd_o h
  refine aw_sub (L' := [(0, .ref (wad (cxw g) (9 + 2 * r0))), (1, .int x1_1), (2, .int x2_2)]) [2, 1, 0] rfl ?_
  refine Lp_w (F := (fun a => f_X4_empty_L20 r0 x1_1 a.1 a.2)) (S := (fun a => AW g 20 [(0, .ref (wad (cxw g) (9 + 2 * r0))), (1, .int x1_1), (2, .int a.1)] [] (a.2, m, z) 0 0)) (E := (fun e => AW g 38 [(0, .ref (wad (cxw g) (9 + 2 * r0)))] [] (e, m, z) 0 0)) (a := (x2_2, c)) he (fun a s h hK => w_X4_empty_L20 (r0 := r0) (x1 := x1_1) (x2 := a.1) (c := a.2) hr0 hG h hK) ?_
  show AW g 38 _ _ _ 0 0
  refine aw_aload_n hG 0 rfl dX4_empty_38 rfl ?_
  refine aw_sipush (v := 156) hG dX4_empty_39 rfl ?_
  refine pt_rwF hG hr0 l_72 dX4_empty_42 ?_
  refine aw_stc (fun c_8 hc_8 => ?_)
  replace h := lt_r hc_8 h
  refine aw_aload_n hG 0 rfl dX4_empty_45 rfl ?_
  refine aw_iconst (v := (-1)) hG dX4_empty_46 rfl ?_
  refine pt_rwE hG hr0 l_73 dX4_empty_47 ?_
  refine aw_stc (fun c_9 hc_9 => ?_)
  replace h := lt_r hc_9 h
  refine aw_aload_n hG 0 rfl dX4_empty_50 rfl ?_
  refine aw_iconst (v := 0) hG dX4_empty_51 rfl ?_
  refine pt_rwX hG hr0 (Or.inl rfl) l_194 dX4_empty_52 ?_
  refine aw_stc (fun c_10 hc_10 => ?_)
  replace h := lt_r hc_10 h
  obtain rfl := Option.some.inj h
  exact FinV.z hK dX4_empty_55
theorem c_X4_empty {c : CS} {m : MS} {z : Nat → Int64} {r0 : Nat} {s : CS} (hr0 : r0 < 4) (h : f_X4_empty r0 c = some s) : Ct yX4_empty cX4_empty 3 none 2 (fun w => [.ref (wad w (9 + 2 * r0))]) (c, m, z) (fun _ => none) (s, m, z) := Ct_ofV (by decide +kernel) (fun _ => Nat.le_of_ble_eq_true rfl) (fun g hG hK => w_X4_empty hr0 hG h hK)
def f_X4_isEmpty (r0 : Nat) (c : CS) : Int32 :=
  if (rwF c r0) ≤ (rwE c r0) then
    0
  else
    1
set_option maxRecDepth 20000 in
theorem w_X4_isEmpty {g : Cx} {mc ms : Nat} {c : CS} {m : MS} {z : Nat → Int64} {r0 : Nat} {s : Int32} (hr0 : r0 < 4) (hG : Gd g RX4 cX4_isEmpty 1 1 mc ms) (h : f_X4_isEmpty r0 c = s) (hK : FinZ g cX4_isEmpty mc ms s (c, m, z)) : AW g 0 [(0, .ref (wad (cxw g) (9 + 2 * r0)))] [] (c, m, z) 0 0 := by
  unfold f_X4_isEmpty at h
  refine aw_aload_n hG 0 rfl dX4_isEmpty_0 rfl ?_
  refine gt_rwF hG hr0 l_72 dX4_isEmpty_1 ?_
  refine aw_aload_n hG 0 rfl dX4_isEmpty_4 rfl ?_
  refine gt_rwE hG hr0 l_73 dX4_isEmpty_5 ?_
  refine aw_icmp_le (t := 15) hG dX4_isEmpty_8 rfl (fun hc => ?_) (fun hc => ?_)
  · replace h := it_p hc h
    refine aw_iconst (v := 0) hG dX4_isEmpty_15 rfl ?_
    subst h
    exact FinZ.z hK (Or.inl rfl) dX4_isEmpty_16
  · replace h := it_n hc h
    refine aw_iconst (v := 1) hG dX4_isEmpty_11 rfl ?_
    refine aw_goto (t := 16) hG dX4_isEmpty_12 rfl ?_
    subst h
    exact FinZ.z hK (Or.inr rfl) dX4_isEmpty_16
theorem c_X4_isEmpty {c : CS} {m : MS} {z : Nat → Int64} {r0 : Nat} (hr0 : r0 < 4) : Ct yX4_isEmpty cX4_isEmpty 1 (some .boolean) 1 (fun w => [.ref (wad w (9 + 2 * r0))]) (c, m, z) (fun _ => some (.int (f_X4_isEmpty r0 c))) (c, m, z) := Ct_ofZ (by decide +kernel) (fun _ => Nat.le_of_ble_eq_true rfl) (fun g hG hK => w_X4_isEmpty hr0 hG rfl hK)
theorem b_X4_isEmpty {r0 : Nat} {c : CS} : f_X4_isEmpty r0 c = 0 ∨ f_X4_isEmpty r0 c = 1 := by
  unfold f_X4_isEmpty
  repeat' split
  all_goals first | exact Or.inl rfl | exact Or.inr rfl
def f_X4_setLimb (r0 : Nat) (x1 : Int32) (x2 : Int32) (c : CS) : CS :=
  if x1 < 0 then
    c
  else
    if x1 < 156 then
      lt (srwL c r0 (upd (rwL c r0) x1.toNatClampNeg x2)) fun c_1 =>
      if x2 = 0 then
        c_1
      else
        lt (srwF c_1 r0 (f_JM_min (rwF c_1 r0) x1)) fun c_2 =>
        lt (srwE c_2 r0 (f_JM_max (rwE c_2 r0) x1)) fun c_3 =>
        c_3
    else
      c
set_option maxRecDepth 20000 in
theorem w_X4_setLimb {g : Cx} {mc ms : Nat} {c : CS} {m : MS} {z : Nat → Int64} {r0 : Nat} {x1 : Int32} {x2 : Int32} {s : CS} (hr0 : r0 < 4) (hG : Gd g RX4 cX4_setLimb 3 2 mc ms) (h : f_X4_setLimb r0 x1 x2 c = s) (hK : FinV g cX4_setLimb mc ms (s, m, z)) : AW g 0 [(0, .ref (wad (cxw g) (9 + 2 * r0))), (1, .int x1), (2, .int x2)] [] (c, m, z) 0 0 := by
  unfold f_X4_setLimb at h
  refine aw_iload_n hG 1 rfl dX4_setLimb_0 rfl ?_
  refine aw_if_lt (t := 11) hG dX4_setLimb_1 rfl (fun hc => ?_) (fun hc => ?_)
  · replace h := it_p hc h
    subst h
    exact FinV.z hK dX4_setLimb_11
  · replace h := it_n hc h
    refine aw_iload_n hG 1 rfl dX4_setLimb_4 rfl ?_
    refine aw_sipush (v := 156) hG dX4_setLimb_5 rfl ?_
    refine aw_icmp_lt (t := 12) hG dX4_setLimb_8 rfl (fun hc => ?_) (fun hc => ?_)
    · replace h := it_p hc h
      refine aw_aload_n hG 0 rfl dX4_setLimb_12 rfl ?_
      refine gt_rwL hG hr0 l_71 dX4_setLimb_13 ?_
      refine aw_iload_n hG 1 rfl dX4_setLimb_16 rfl ?_
      refine aw_iload_n hG 2 rfl dX4_setLimb_17 rfl ?_
      refine as_rwL hG hr0 (by first | exact vI_mk (a := 156) (by assumption) (by assumption) rfl | exact vI_mk2 (a := 156) (by assumption) (by assumption) rfl) dX4_setLimb_18 ?_
      refine aw_stc (fun c_1 hc_1 => ?_)
      replace h := lt_r hc_1 h
      refine aw_iload_n hG 2 rfl dX4_setLimb_19 rfl ?_
      refine aw_if_eq (t := 47) hG dX4_setLimb_20 rfl (fun hc => ?_) (fun hc => ?_)
      · replace h := it_p hc h
        subst h
        exact FinV.z hK dX4_setLimb_47
      · replace h := it_n hc h
        refine aw_aload_n hG 0 rfl dX4_setLimb_23 rfl ?_
        refine aw_aload_n hG 0 rfl dX4_setLimb_24 rfl ?_
        refine gt_rwF hG hr0 l_72 dX4_setLimb_25 ?_
        refine aw_iload_n hG 1 rfl dX4_setLimb_28 rfl ?_
        refine aw_callSi (As := [.int (rwF c_1 r0), .int x1]) (rest := [.ref (wad (cxw g) (9 + 2 * r0))]) hG (c_JM_min (x0 := rwF c_1 r0) (x1 := x1) (c := c_1) ) l_192 ws_JM_min rfl rfl rfl (by decide) (Nat.zero_le _) (Nat.zero_le _) (Nat.le_of_ble_eq_true rfl) dX4_setLimb_29 ?_
        refine pt_rwF hG hr0 l_72 dX4_setLimb_32 ?_
        refine aw_stc (fun c_2 hc_2 => ?_)
        replace h := lt_r hc_2 h
        refine aw_aload_n hG 0 rfl dX4_setLimb_35 rfl ?_
        refine aw_aload_n hG 0 rfl dX4_setLimb_36 rfl ?_
        refine gt_rwE hG hr0 l_73 dX4_setLimb_37 ?_
        refine aw_iload_n hG 1 rfl dX4_setLimb_40 rfl ?_
        refine aw_callSi (As := [.int (rwE c_2 r0), .int x1]) (rest := [.ref (wad (cxw g) (9 + 2 * r0))]) hG (c_JM_max (x0 := rwE c_2 r0) (x1 := x1) (c := c_2) ) l_193 ws_JM_max rfl rfl rfl (by decide) (Nat.zero_le _) (Nat.zero_le _) (Nat.le_of_ble_eq_true rfl) dX4_setLimb_41 ?_
        refine pt_rwE hG hr0 l_73 dX4_setLimb_44 ?_
        refine aw_stc (fun c_3 hc_3 => ?_)
        replace h := lt_r hc_3 h
        subst h
        exact FinV.z hK dX4_setLimb_47
    · replace h := it_n hc h
      subst h
      exact FinV.z hK dX4_setLimb_11
theorem c_X4_setLimb {c : CS} {m : MS} {z : Nat → Int64} {r0 : Nat} {x1 : Int32} {x2 : Int32} {s : CS} (hr0 : r0 < 4) (h : f_X4_setLimb r0 x1 x2 c = s) : Ct yX4_setLimb cX4_setLimb 3 none 2 (fun w => [.ref (wad w (9 + 2 * r0)), .int x1, .int x2]) (c, m, z) (fun _ => none) (s, m, z) := Ct_ofV (by decide +kernel) (fun _ => Nat.le_of_ble_eq_true rfl) (fun g hG hK => w_X4_setLimb hr0 hG h hK)
def f_X4_setWhole_L10 (r0 : Nat) (x3 : Int64) (x5 : Int32) (c : CS) : Option ((Int64 × Int32 × CS) ⊕ (CS)) :=
  if x5 < 0 then
    some (.inr c)
  else
    if x3 ≤ 0 then
      some (.inr c)
    else
      lt (f_X4_setLimb r0 x5 ((lrm x3 1000000000).toInt32) c) fun v_2 =>
      lt (x3 / 1000000000) fun x3_3 =>
      lt (x5 + (-1)) fun x5_4 =>
      some (.inl (x3_3, x5_4, v_2))
set_option maxRecDepth 20000 in
theorem w_X4_setWhole_L10 {g : Cx} {mc ms : Nat} {c : CS} {m : MS} {z : Nat → Int64} {r0 : Nat} {x3 : Int64} {x5 : Int32} {s : ((Int64 × Int32 × CS) ⊕ (CS))} (hr0 : r0 < 4) (hG : Gd g RX4 cX4_setWhole 6 3 mc ms) (h : f_X4_setWhole_L10 r0 x3 x5 c = some s) (hK : Sum.elim (fun a => AW g 10 [(0, .ref (wad (cxw g) (9 + 2 * r0))), (3, .long a.1), (5, .int a.2.1)] [] (a.2.2, m, z) 0 0) (fun e => AW g 45 [] [] (e, m, z) 0 0) s) : AW g 10 [(0, .ref (wad (cxw g) (9 + 2 * r0))), (3, .long x3), (5, .int x5)] [] (c, m, z) 0 0 := by
  unfold f_X4_setWhole_L10 at h
  refine aw_iload hG 2 rfl dX4_setWhole_10 ?_
  refine aw_if_lt (t := 45) hG dX4_setWhole_12 rfl (fun hc => ?_) (fun hc => ?_)
  · replace h := it_p hc h
    obtain rfl := Option.some.inj h
    refine aw_sub (L' := []) [] rfl ?_
    exact hK
  · replace h := it_n hc h
    refine aw_lload_n hG 1 rfl dX4_setWhole_15 rfl ?_
    refine aw_lconst (v := 0) hG dX4_setWhole_16 rfl ?_
    refine aw_lc_le (t := 45) hG dX4_setWhole_17 rfl dX4_setWhole_18 rfl rfl (fun hc => ?_) (fun hc => ?_)
    · replace h := it_p hc h
      obtain rfl := Option.some.inj h
      refine aw_sub (L' := []) [] rfl ?_
      exact hK
    · replace h := it_n hc h
      refine aw_aload_n hG 0 rfl dX4_setWhole_21 rfl ?_
      refine aw_iload hG 2 rfl dX4_setWhole_22 ?_
      refine aw_lload_n hG 1 rfl dX4_setWhole_24 rfl ?_
      refine aw_ldc2 hG l_200 dX4_setWhole_25 ?_
      refine aw_lremJ hG dX4_setWhole_28 (by decide) ?_
      refine aw_l2i hG dX4_setWhole_29 ?_
      obtain ⟨v_2, hv_2⟩ : ∃ y, y = f_X4_setLimb r0 x5 ((lrm x3 1000000000).toInt32) c := ⟨_, rfl⟩
      replace h := lt_r hv_2 h
      refine aw_callVv (As := [.int x5, .int ((lrm x3 1000000000).toInt32)]) (rest := []) hG (c_X4_setLimb (r0 := r0) (x1 := x5) (x2 := (lrm x3 1000000000).toInt32) (c := c) hr0 hv_2.symm) l_201 wv_X4_setLimb (rv_X4 hG hr0) rfl rfl rfl (by decide) (Nat.zero_le _) (Nat.zero_le _) (Nat.le_of_ble_eq_true rfl) dX4_setWhole_30 ?_
      refine aw_lload_n hG 1 rfl dX4_setWhole_33 rfl ?_
      refine aw_ldc2 hG l_200 dX4_setWhole_34 ?_
      refine aw_ldiv hG dX4_setWhole_37 (by decide) ?_
      refine aw_topl (fun x3_3 hx3_3 => ?_)
      replace h := lt_r hx3_3 h
      refine aw_lstore_n (L' := [(3, .long x3_3), (0, .ref (wad (cxw g) (9 + 2 * r0))), (5, .int x5)]) hG dX4_setWhole_38 rfl (by decide) rfl ?_
      obtain ⟨x5_4, hx5_4⟩ : ∃ y : Int32, y = x5 + (-1) := ⟨_, rfl⟩
      replace h := lt_r hx5_4 h
      refine aw_iinc (v := x5_4) (L' := [(5, .int x5_4), (3, .long x3_3), (0, .ref (wad (cxw g) (9 + 2 * r0)))]) hG 2 rfl dX4_setWhole_39 (by rw [hx5_4]; rfl) (by decide) rfl ?_
      refine aw_goto (t := 10) hG dX4_setWhole_42 rfl ?_
      obtain rfl := Option.some.inj h
      refine aw_sub (L' := [(0, .ref (wad (cxw g) (9 + 2 * r0))), (3, .long x3_3), (5, .int x5_4)]) [2, 1, 0] rfl ?_
      exact hK
noncomputable def f_X4_setWhole (r0 : Nat) (x1 : Int64) (c : CS) : Option CS :=
  Option.bind (f_X4_empty r0 c) fun v_1 =>
  Option.bind (Lp (fun a => f_X4_setWhole_L10 r0 a.1 a.2.1 a.2.2) (x1, 35, v_1)) fun e_7 =>
  some e_7
set_option maxRecDepth 20000 in
theorem w_X4_setWhole {g : Cx} {mc ms : Nat} {c : CS} {m : MS} {z : Nat → Int64} {r0 : Nat} {x1 : Int64} {s : CS} (hr0 : r0 < 4) (hG : Gd g RX4 cX4_setWhole 6 3 mc ms) (h : f_X4_setWhole r0 x1 c = some s) (hK : FinV g cX4_setWhole mc ms (s, m, z)) : AW g 0 [(0, .ref (wad (cxw g) (9 + 2 * r0))), (1, .long x1)] [] (c, m, z) 0 0 := by
  unfold f_X4_setWhole at h
  refine aw_aload_n hG 0 rfl dX4_setWhole_0 rfl ?_
  obtain ⟨v_1, hv_1, h⟩ := bd_o h
  refine aw_callVv (As := []) (rest := []) hG (c_X4_empty (r0 := r0) (c := c) hr0 hv_1) l_195 wv_X4_empty (rv_X4 hG hr0) rfl rfl rfl (by decide) (Nat.zero_le _) (Nat.zero_le _) (Nat.le_of_ble_eq_true rfl) dX4_setWhole_1 ?_
  refine aw_lload_n hG 1 rfl dX4_setWhole_4 rfl ?_
  refine aw_lstore_n (L' := [(3, .long x1), (0, .ref (wad (cxw g) (9 + 2 * r0))), (1, .long x1)]) hG dX4_setWhole_5 rfl (by decide) rfl ?_
  refine aw_bipush (v := 35) hG dX4_setWhole_6 rfl ?_
  refine aw_istore (L' := [(5, .int 35), (3, .long x1), (0, .ref (wad (cxw g) (9 + 2 * r0))), (1, .long x1)]) hG dX4_setWhole_8 (by decide) rfl ?_
  obtain ⟨e_7, he, h⟩ := bd_o h
  refine aw_sub (L' := [(0, .ref (wad (cxw g) (9 + 2 * r0))), (3, .long x1), (5, .int 35)]) [2, 1, 0] rfl ?_
  refine Lp_w (F := (fun a => f_X4_setWhole_L10 r0 a.1 a.2.1 a.2.2)) (S := (fun a => AW g 10 [(0, .ref (wad (cxw g) (9 + 2 * r0))), (3, .long a.1), (5, .int a.2.1)] [] (a.2.2, m, z) 0 0)) (E := (fun e => AW g 45 [] [] (e, m, z) 0 0)) (a := (x1, 35, v_1)) he (fun a s h hK => w_X4_setWhole_L10 (r0 := r0) (x3 := a.1) (x5 := a.2.1) (c := a.2.2) hr0 hG h hK) ?_
  show AW g 45 _ _ _ 0 0
  obtain rfl := Option.some.inj h
  exact FinV.z hK dX4_setWhole_45
theorem c_X4_setWhole {c : CS} {m : MS} {z : Nat → Int64} {r0 : Nat} {x1 : Int64} {s : CS} (hr0 : r0 < 4) (h : f_X4_setWhole r0 x1 c = some s) : Ct yX4_setWhole cX4_setWhole 6 none 3 (fun w => [.ref (wad w (9 + 2 * r0)), .long x1]) (c, m, z) (fun _ => none) (s, m, z) := Ct_ofV (by decide +kernel) (fun _ => Nat.le_of_ble_eq_true rfl) (fun g hG hK => w_X4_setWhole hr0 hG h hK)
def f_X4_limbAt (r0 : Nat) (x1 : Int32) (c : CS) : Int32 :=
  if x1 < 0 then
    0
  else
    if x1 < 156 then
      (rwL c r0 x1.toNatClampNeg)
    else
      0
set_option maxRecDepth 20000 in
theorem w_X4_limbAt {g : Cx} {mc ms : Nat} {c : CS} {m : MS} {z : Nat → Int64} {r0 : Nat} {x1 : Int32} {s : Int32} (hr0 : r0 < 4) (hG : Gd g RX4 cX4_limbAt 2 1 mc ms) (h : f_X4_limbAt r0 x1 c = s) (hK : FinI g cX4_limbAt mc ms s (c, m, z)) : AW g 0 [(0, .ref (wad (cxw g) (9 + 2 * r0))), (1, .int x1)] [] (c, m, z) 0 0 := by
  unfold f_X4_limbAt at h
  refine aw_iload_n hG 1 rfl dX4_limbAt_0 rfl ?_
  refine aw_if_lt (t := 11) hG dX4_limbAt_1 rfl (fun hc => ?_) (fun hc => ?_)
  · replace h := it_p hc h
    refine aw_iconst (v := 0) hG dX4_limbAt_11 rfl ?_
    refine aw_goto (t := 21) hG dX4_limbAt_12 rfl ?_
    subst h
    exact FinI.z hK dX4_limbAt_21
  · replace h := it_n hc h
    refine aw_iload_n hG 1 rfl dX4_limbAt_4 rfl ?_
    refine aw_sipush (v := 156) hG dX4_limbAt_5 rfl ?_
    refine aw_icmp_lt (t := 15) hG dX4_limbAt_8 rfl (fun hc => ?_) (fun hc => ?_)
    · replace h := it_p hc h
      refine aw_aload_n hG 0 rfl dX4_limbAt_15 rfl ?_
      refine gt_rwL hG hr0 l_71 dX4_limbAt_16 ?_
      refine aw_iload_n hG 1 rfl dX4_limbAt_19 rfl ?_
      refine al_rwL (x := 0) hG hr0 (by first | exact vI_mk (a := 156) (by assumption) (by assumption) rfl | exact vI_mk2 (a := 156) (by assumption) (by assumption) rfl) dX4_limbAt_20 ?_
      subst h
      exact FinI.z hK dX4_limbAt_21
    · replace h := it_n hc h
      refine aw_iconst (v := 0) hG dX4_limbAt_11 rfl ?_
      refine aw_goto (t := 21) hG dX4_limbAt_12 rfl ?_
      subst h
      exact FinI.z hK dX4_limbAt_21
theorem c_X4_limbAt {c : CS} {m : MS} {z : Nat → Int64} {r0 : Nat} {x1 : Int32} (hr0 : r0 < 4) : Ct yX4_limbAt cX4_limbAt 2 (some .int) 1 (fun w => [.ref (wad w (9 + 2 * r0)), .int x1]) (c, m, z) (fun _ => some (.int (f_X4_limbAt r0 x1 c))) (c, m, z) := Ct_ofI (by decide +kernel) (fun _ => Nat.le_of_ble_eq_true rfl) (fun g hG hK => w_X4_limbAt hr0 hG rfl hK)
def f_X4_limbOf (x0 : Int32) : Int32 :=
  (35 - (f_JM_floorDiv x0 9))
set_option maxRecDepth 20000 in
theorem w_X4_limbOf {g : Cx} {mc ms : Nat} {c : CS} {m : MS} {z : Nat → Int64} {x0 : Int32} {s : Int32}  (hG : Gd g RX4 cX4_limbOf 1 2 mc ms) (h : f_X4_limbOf x0 = s) (hK : FinI g cX4_limbOf mc ms s (c, m, z)) : AW g 0 [(0, .int x0)] [] (c, m, z) 0 0 := by
  unfold f_X4_limbOf at h
  refine aw_bipush (v := 35) hG dX4_limbOf_0 rfl ?_
  refine aw_iload_n hG 0 rfl dX4_limbOf_2 rfl ?_
  refine aw_bipush (v := 9) hG dX4_limbOf_3 rfl ?_
  refine aw_callSi (As := [.int x0, .int 9]) (rest := [.int 35]) hG (c_JM_floorDiv (x0 := x0) (x1 := 9) (c := c) (by decide)) l_188 ws_JM_floorDiv rfl rfl rfl (by decide) (Nat.zero_le _) (Nat.zero_le _) (Nat.le_of_ble_eq_true rfl) dX4_limbOf_5 ?_
  refine aw_isub hG dX4_limbOf_8 ?_
  subst h
  exact FinI.z hK dX4_limbOf_9
theorem c_X4_limbOf {c : CS} {m : MS} {z : Nat → Int64} {x0 : Int32}  : Ct yX4_limbOf cX4_limbOf 1 (some .int) 2 (fun w => [.int x0]) (c, m, z) (fun _ => some (.int (f_X4_limbOf x0))) (c, m, z) := Ct_ofI (by decide +kernel) (fun _ => Nat.le_of_ble_eq_true rfl) (fun g hG hK => w_X4_limbOf hG rfl hK)
def f_X4_placeLimb_J16 (r0 : Nat) (x1 : Int32) (x2 : Int32) (c : CS) : CS :=
  lt (f_X4_setLimb r0 x1 x2 c) fun v_1 =>
  v_1
set_option maxRecDepth 20000 in
theorem w_X4_placeLimb_J16 {g : Cx} {mc ms : Nat} {c : CS} {m : MS} {z : Nat → Int64} {r0 : Nat} {x1 : Int32} {x2 : Int32} {s : CS} (hr0 : r0 < 4) (hG : Gd g RX4 cX4_placeLimb 3 3 mc ms) (h : f_X4_placeLimb_J16 r0 x1 x2 c = s) (hK : FinV g cX4_placeLimb mc ms (s, m, z)) : AW g 16 [(0, .ref (wad (cxw g) (9 + 2 * r0))), (1, .int x1), (2, .int x2)] [] (c, m, z) 0 0 := by
  unfold f_X4_placeLimb_J16 at h
  refine aw_aload_n hG 0 rfl dX4_placeLimb_16 rfl ?_
  refine aw_iload_n hG 1 rfl dX4_placeLimb_17 rfl ?_
  refine aw_iload_n hG 2 rfl dX4_placeLimb_18 rfl ?_
  obtain ⟨v_1, hv_1⟩ : ∃ y, y = f_X4_setLimb r0 x1 x2 c := ⟨_, rfl⟩
  replace h := lt_r hv_1 h
  refine aw_callVv (As := [.int x1, .int x2]) (rest := []) hG (c_X4_setLimb (r0 := r0) (x1 := x1) (x2 := x2) (c := c) hr0 hv_1.symm) l_201 wv_X4_setLimb (rv_X4 hG hr0) rfl rfl rfl (by decide) (Nat.zero_le _) (Nat.zero_le _) (Nat.le_of_ble_eq_true rfl) dX4_placeLimb_19 ?_
  subst h
  exact FinV.z hK dX4_placeLimb_22
def f_X4_placeLimb (r0 : Nat) (x1 : Int32) (x2 : Int32) (c : CS) : CS :=
  if x1 < 156 then
    f_X4_placeLimb_J16 r0 x1 x2 c
  else
    if x2 = 0 then
      f_X4_placeLimb_J16 r0 x1 x2 c
    else
      lt (srwX c r0 1) fun c_2 =>
      f_X4_placeLimb_J16 r0 x1 x2 c_2
set_option maxRecDepth 20000 in
theorem w_X4_placeLimb {g : Cx} {mc ms : Nat} {c : CS} {m : MS} {z : Nat → Int64} {r0 : Nat} {x1 : Int32} {x2 : Int32} {s : CS} (hr0 : r0 < 4) (hG : Gd g RX4 cX4_placeLimb 3 3 mc ms) (h : f_X4_placeLimb r0 x1 x2 c = s) (hK : FinV g cX4_placeLimb mc ms (s, m, z)) : AW g 0 [(0, .ref (wad (cxw g) (9 + 2 * r0))), (1, .int x1), (2, .int x2)] [] (c, m, z) 0 0 := by
  unfold f_X4_placeLimb at h
  refine aw_iload_n hG 1 rfl dX4_placeLimb_0 rfl ?_
  refine aw_sipush (v := 156) hG dX4_placeLimb_1 rfl ?_
  refine aw_icmp_lt (t := 16) hG dX4_placeLimb_4 rfl (fun hc => ?_) (fun hc => ?_)
  · replace h := it_p hc h
    exact w_X4_placeLimb_J16 (r0 := r0) (x1 := x1) (x2 := x2) (c := c) hr0 hG h hK
  · replace h := it_n hc h
    refine aw_iload_n hG 2 rfl dX4_placeLimb_7 rfl ?_
    refine aw_if_eq (t := 16) hG dX4_placeLimb_8 rfl (fun hc => ?_) (fun hc => ?_)
    · replace h := it_p hc h
      exact w_X4_placeLimb_J16 (r0 := r0) (x1 := x1) (x2 := x2) (c := c) hr0 hG h hK
    · replace h := it_n hc h
      refine aw_aload_n hG 0 rfl dX4_placeLimb_11 rfl ?_
      refine aw_iconst (v := 1) hG dX4_placeLimb_12 rfl ?_
      refine pt_rwX hG hr0 (Or.inr rfl) l_194 dX4_placeLimb_13 ?_
      refine aw_stc (fun c_2 hc_2 => ?_)
      replace h := lt_r hc_2 h
      exact w_X4_placeLimb_J16 (r0 := r0) (x1 := x1) (x2 := x2) (c := c_2) hr0 hG h hK
theorem c_X4_placeLimb {c : CS} {m : MS} {z : Nat → Int64} {r0 : Nat} {x1 : Int32} {x2 : Int32} {s : CS} (hr0 : r0 < 4) (h : f_X4_placeLimb r0 x1 x2 c = s) : Ct yX4_placeLimb cX4_placeLimb 3 none 3 (fun w => [.ref (wad w (9 + 2 * r0)), .int x1, .int x2]) (c, m, z) (fun _ => none) (s, m, z) := Ct_ofV (by decide +kernel) (fun _ => Nat.le_of_ble_eq_true rfl) (fun g hG hK => w_X4_placeLimb hr0 hG h hK)
def f_X4_tenOf (x0 : Int32) : Int32 :=
  lt (f_JM_floorMod x0 9) fun x1_1 =>
  if x1_1 < 0 then
    1
  else
    if x1_1 < 9 then
      (tnV x1_1.toNatClampNeg)
    else
      1
set_option maxRecDepth 20000 in
theorem w_X4_tenOf {g : Cx} {mc ms : Nat} {c : CS} {m : MS} {z : Nat → Int64} {x0 : Int32} {s : Int32}  (hG : Gd g RX4 cX4_tenOf 2 2 mc ms) (h : f_X4_tenOf x0 = s) (hK : FinI g cX4_tenOf mc ms s (c, m, z)) : AW g 0 [(0, .int x0)] [] (c, m, z) 0 0 := by
  unfold f_X4_tenOf at h
  refine aw_iload_n hG 0 rfl dX4_tenOf_0 rfl ?_
  refine aw_bipush (v := 9) hG dX4_tenOf_1 rfl ?_
  refine aw_callSi (As := [.int x0, .int 9]) (rest := []) hG (c_JM_floorMod (x0 := x0) (x1 := 9) (c := c) (by decide)) l_74 ws_JM_floorMod rfl rfl rfl (by decide) (Nat.zero_le _) (Nat.zero_le _) (Nat.le_of_ble_eq_true rfl) dX4_tenOf_3 ?_
  refine aw_topi (fun x1_1 hx1_1 => ?_)
  replace h := lt_r hx1_1 h
  refine aw_istore_n (L' := [(1, .int x1_1), (0, .int x0)]) hG dX4_tenOf_6 rfl (by decide) rfl ?_
  refine aw_iload_n hG 0 rfl dX4_tenOf_7 rfl ?_
  refine aw_if_lt (t := 19) hG dX4_tenOf_8 rfl (fun hc => ?_) (fun hc => ?_)
  · replace h := it_p hc h
    refine aw_iconst (v := 1) hG dX4_tenOf_19 rfl ?_
    refine aw_goto (t := 28) hG dX4_tenOf_20 rfl ?_
    subst h
    exact FinI.z hK dX4_tenOf_28
  · replace h := it_n hc h
    refine aw_iload_n hG 0 rfl dX4_tenOf_11 rfl ?_
    refine aw_gTEN hG l_78 dX4_tenOf_12 ?_
    refine aw_lTEN hG dX4_tenOf_15 ?_
    refine aw_icmp_lt (t := 23) hG dX4_tenOf_16 rfl (fun hc => ?_) (fun hc => ?_)
    · replace h := it_p hc h
      refine aw_gTEN hG l_78 dX4_tenOf_23 ?_
      refine aw_iload_n hG 0 rfl dX4_tenOf_26 rfl ?_
      refine aw_aTEN hG (by first | exact vI_mk (a := 9) (by assumption) (by assumption) rfl | exact vI_mk2 (a := 9) (by assumption) (by assumption) rfl) dX4_tenOf_27 ?_
      subst h
      exact FinI.z hK dX4_tenOf_28
    · replace h := it_n hc h
      refine aw_iconst (v := 1) hG dX4_tenOf_19 rfl ?_
      refine aw_goto (t := 28) hG dX4_tenOf_20 rfl ?_
      subst h
      exact FinI.z hK dX4_tenOf_28
theorem c_X4_tenOf {c : CS} {m : MS} {z : Nat → Int64} {x0 : Int32}  : Ct yX4_tenOf cX4_tenOf 2 (some .int) 2 (fun w => [.int x0]) (c, m, z) (fun _ => some (.int (f_X4_tenOf x0))) (c, m, z) := Ct_ofI (by decide +kernel) (fun _ => Nat.le_of_ble_eq_true rfl) (fun g hG hK => w_X4_tenOf hG rfl hK)
def f_X4_addDigit (r0 : Nat) (x1 : Int32) (x2 : Int32) (c : CS) : CS :=
  lt (f_X4_limbOf x2) fun x3_1 =>
  lt (f_X4_placeLimb r0 x3_1 ((f_X4_limbAt r0 x3_1 c) + (x1 * (f_X4_tenOf x2))) c) fun v_2 =>
  v_2
set_option maxRecDepth 20000 in
theorem w_X4_addDigit {g : Cx} {mc ms : Nat} {c : CS} {m : MS} {z : Nat → Int64} {r0 : Nat} {x1 : Int32} {x2 : Int32} {s : CS} (hr0 : r0 < 4) (hG : Gd g RX4 cX4_addDigit 4 4 mc ms) (h : f_X4_addDigit r0 x1 x2 c = s) (hK : FinV g cX4_addDigit mc ms (s, m, z)) : AW g 0 [(0, .ref (wad (cxw g) (9 + 2 * r0))), (1, .int x1), (2, .int x2)] [] (c, m, z) 0 0 := by
  unfold f_X4_addDigit at h
  refine aw_iload_n hG 2 rfl dX4_addDigit_0 rfl ?_
  refine aw_callSi (As := [.int x2]) (rest := []) hG (c_X4_limbOf (x0 := x2) (c := c) ) l_206 ws_X4_limbOf rfl rfl rfl (by decide) (Nat.zero_le _) (Nat.zero_le _) (Nat.le_of_ble_eq_true rfl) dX4_addDigit_1 ?_
  refine aw_topi (fun x3_1 hx3_1 => ?_)
  replace h := lt_r hx3_1 h
  refine aw_istore_n (L' := [(3, .int x3_1), (0, .ref (wad (cxw g) (9 + 2 * r0))), (1, .int x1), (2, .int x2)]) hG dX4_addDigit_4 rfl (by decide) rfl ?_
  refine aw_aload_n hG 1 rfl dX4_addDigit_5 rfl ?_
  refine aw_iload_n hG 0 rfl dX4_addDigit_6 rfl ?_
  refine aw_aload_n hG 1 rfl dX4_addDigit_7 rfl ?_
  refine aw_iload_n hG 0 rfl dX4_addDigit_8 rfl ?_
  refine aw_callVi (As := [.int x3_1]) (rest := [.int x3_1, .ref (wad (cxw g) (9 + 2 * r0))]) hG (c_X4_limbAt (r0 := r0) (x1 := x3_1) (c := c) hr0) l_84 wv_X4_limbAt (rv_X4 hG hr0) rfl rfl rfl (by decide) (Nat.zero_le _) (Nat.zero_le _) (Nat.le_of_ble_eq_true rfl) dX4_addDigit_9 ?_
  refine aw_iload_n hG 2 rfl dX4_addDigit_12 rfl ?_
  refine aw_iload_n hG 3 rfl dX4_addDigit_13 rfl ?_
  refine aw_callSi (As := [.int x2]) (rest := [.int x1, .int (f_X4_limbAt r0 x3_1 c), .int x3_1, .ref (wad (cxw g) (9 + 2 * r0))]) hG (c_X4_tenOf (x0 := x2) (c := c) ) l_89 ws_X4_tenOf rfl rfl rfl (by decide) (Nat.zero_le _) (Nat.zero_le _) (Nat.le_of_ble_eq_true rfl) dX4_addDigit_14 ?_
  refine aw_imul hG dX4_addDigit_17 ?_
  refine aw_iadd hG dX4_addDigit_18 ?_
  obtain ⟨v_2, hv_2⟩ : ∃ y, y = f_X4_placeLimb r0 x3_1 ((f_X4_limbAt r0 x3_1 c) + (x1 * (f_X4_tenOf x2))) c := ⟨_, rfl⟩
  replace h := lt_r hv_2 h
  refine aw_callVv (As := [.int x3_1, .int ((f_X4_limbAt r0 x3_1 c) + (x1 * (f_X4_tenOf x2)))]) (rest := []) hG (c_X4_placeLimb (r0 := r0) (x1 := x3_1) (x2 := (f_X4_limbAt r0 x3_1 c) + (x1 * (f_X4_tenOf x2))) (c := c) hr0 hv_2.symm) l_210 wv_X4_placeLimb (rv_X4 hG hr0) rfl rfl rfl (by decide) (Nat.zero_le _) (Nat.zero_le _) (Nat.le_of_ble_eq_true rfl) dX4_addDigit_19 ?_
  subst h
  exact FinV.z hK dX4_addDigit_22
theorem c_X4_addDigit {c : CS} {m : MS} {z : Nat → Int64} {r0 : Nat} {x1 : Int32} {x2 : Int32} {s : CS} (hr0 : r0 < 4) (h : f_X4_addDigit r0 x1 x2 c = s) : Ct yX4_addDigit cX4_addDigit 4 none 4 (fun w => [.ref (wad w (9 + 2 * r0)), .int x1, .int x2]) (c, m, z) (fun _ => none) (s, m, z) := Ct_ofV (by decide +kernel) (fun _ => Nat.le_of_ble_eq_true rfl) (fun g hG hK => w_X4_addDigit hr0 hG h hK)
def f_X0_at (t0 : Nat) (x1 : Int32) (c : CS) : Int32 :=
  if x1 < 0 then
    (-1)
  else
    if (brN c t0) ≤ x1 then
      (-1)
    else
      if x1 < (Int32.ofNat (brLen t0)) then
        ((brB c t0 x1.toNatClampNeg) &&& 255)
      else
        (-1)
set_option maxRecDepth 20000 in
theorem w_X0_at {g : Cx} {mc ms : Nat} {c : CS} {m : MS} {z : Nat → Int64} {t0 : Nat} {x1 : Int32} {s : Int32} (ht0 : t0 < 2) (hG : Gd g RX0 cX0_at 2 1 mc ms) (h : f_X0_at t0 x1 c = s) (hK : FinI g cX0_at mc ms s (c, m, z)) : AW g 0 [(0, .ref (wad (cxw g) (1 + 2 * t0))), (1, .int x1)] [] (c, m, z) 0 0 := by
  unfold f_X0_at at h
  refine aw_iload_n hG 1 rfl dX0_at_0 rfl ?_
  refine aw_if_lt (t := 21) hG dX0_at_1 rfl (fun hc => ?_) (fun hc => ?_)
  · replace h := it_p hc h
    refine aw_iconst (v := (-1)) hG dX0_at_21 rfl ?_
    refine aw_goto (t := 35) hG dX0_at_22 rfl ?_
    subst h
    exact FinI.z hK dX0_at_35
  · replace h := it_n hc h
    refine aw_iload_n hG 1 rfl dX0_at_4 rfl ?_
    refine aw_aload_n hG 0 rfl dX0_at_5 rfl ?_
    refine gt_brN hG ht0 l_1 dX0_at_6 ?_
    refine aw_icmp_ge (t := 21) hG dX0_at_9 rfl (fun hc => ?_) (fun hc => ?_)
    · replace h := it_p hc h
      refine aw_iconst (v := (-1)) hG dX0_at_21 rfl ?_
      refine aw_goto (t := 35) hG dX0_at_22 rfl ?_
      subst h
      exact FinI.z hK dX0_at_35
    · replace h := it_n hc h
      refine aw_iload_n hG 1 rfl dX0_at_12 rfl ?_
      refine aw_aload_n hG 0 rfl dX0_at_13 rfl ?_
      refine gt_brB hG ht0 l_0 dX0_at_14 ?_
      refine an_brB hG ht0 dX0_at_17 ?_
      refine aw_icmp_lt (t := 25) hG dX0_at_18 rfl (fun hc => ?_) (fun hc => ?_)
      · replace h := it_p hc h
        refine aw_aload_n hG 0 rfl dX0_at_25 rfl ?_
        refine gt_brB hG ht0 l_0 dX0_at_26 ?_
        refine aw_iload_n hG 1 rfl dX0_at_29 rfl ?_
        refine al_brB (x := 0) hG ht0 (by first | exact vI_mk (a := Int32.ofNat (brLen t0)) (by assumption) (by assumption) (brL_toInt ht0) | exact vI_mk2 (a := Int32.ofNat (brLen t0)) (by assumption) (by assumption) (brL_toInt ht0)) dX0_at_30 ?_
        refine aw_sipush (v := 255) hG dX0_at_31 rfl ?_
        refine aw_iand hG dX0_at_34 ?_
        subst h
        exact FinI.z hK dX0_at_35
      · replace h := it_n hc h
        refine aw_iconst (v := (-1)) hG dX0_at_21 rfl ?_
        refine aw_goto (t := 35) hG dX0_at_22 rfl ?_
        subst h
        exact FinI.z hK dX0_at_35
theorem c_X0_at {c : CS} {m : MS} {z : Nat → Int64} {t0 : Nat} {x1 : Int32} (ht0 : t0 < 2) : Ct yX0_at cX0_at 2 (some .int) 1 (fun w => [.ref (wad w (1 + 2 * t0)), .int x1]) (c, m, z) (fun _ => some (.int (f_X0_at t0 x1 c))) (c, m, z) := Ct_ofI (by decide +kernel) (fun _ => Nat.le_of_ble_eq_true rfl) (fun g hG hK => w_X0_at ht0 hG rfl hK)
def f_X4_setDigits_L24 (r0 : Nat) (t1 : Nat) (x3 : Int32) (x5 : Int32) (x6 : Int32) (x7 : Int32) (x8 : Int32) (c : CS) : Option ((Int32 × Int32 × Int32 × Int32 × CS) ⊕ ((Int32 × Int32 × CS))) :=
  if x3 ≤ x8 then
    some (.inr (x5, x7, c))
  else
    lt (f_X0_at t1 x8 c) fun x9_4 =>
    if x9_4 = 46 then
      lt (x8 + 1) fun x8_12 =>
      some (.inl (x5, x6, x7, x8_12, c))
    else
      lt (x7 + ((x9_4 - 48) * x6)) fun x7_5 =>
      lt (x6 / 10) fun x6_6 =>
      if x6_6 = 0 then
        lt (f_X4_placeLimb r0 x5 x7_5 c) fun v_8 =>
        lt (x5 + 1) fun x5_9 =>
        lt (x8 + 1) fun x8_10 =>
        some (.inl (x5_9, 100000000, 0, x8_10, v_8))
      else
        lt (x8 + 1) fun x8_7 =>
        some (.inl (x5, x6_6, x7_5, x8_7, c))
set_option maxRecDepth 20000 in
theorem w_X4_setDigits_L24 {g : Cx} {mc ms : Nat} {c : CS} {m : MS} {z : Nat → Int64} {r0 : Nat} {t1 : Nat} {x3 : Int32} {x5 : Int32} {x6 : Int32} {x7 : Int32} {x8 : Int32} {s : ((Int32 × Int32 × Int32 × Int32 × CS) ⊕ ((Int32 × Int32 × CS)))} (hr0 : r0 < 4) (ht1 : t1 < 2) (hG : Gd g RX4 cX4_setDigits 10 4 mc ms) (h : f_X4_setDigits_L24 r0 t1 x3 x5 x6 x7 x8 c = some s) (hK : Sum.elim (fun a => AW g 24 [(0, .ref (wad (cxw g) (9 + 2 * r0))), (1, .ref (wad (cxw g) (1 + 2 * t1))), (3, .int x3), (5, .int a.1), (6, .int a.2.1), (7, .int a.2.2.1), (8, .int a.2.2.2.1)] [] (a.2.2.2.2, m, z) 0 0) (fun e => AW g 97 [(0, .ref (wad (cxw g) (9 + 2 * r0))), (5, .int e.1), (7, .int e.2.1)] [] (e.2.2, m, z) 0 0) s) : AW g 24 [(0, .ref (wad (cxw g) (9 + 2 * r0))), (1, .ref (wad (cxw g) (1 + 2 * t1))), (3, .int x3), (5, .int x5), (6, .int x6), (7, .int x7), (8, .int x8)] [] (c, m, z) 0 0 := by
  unfold f_X4_setDigits_L24 at h
  refine aw_iload hG 6 rfl dX4_setDigits_24 ?_
  refine aw_iload_n hG 2 rfl dX4_setDigits_26 rfl ?_
  refine aw_icmp_ge (t := 97) hG dX4_setDigits_27 rfl (fun hc => ?_) (fun hc => ?_)
  · replace h := it_p hc h
    obtain rfl := Option.some.inj h
    refine aw_sub (L' := [(0, .ref (wad (cxw g) (9 + 2 * r0))), (5, .int x5), (7, .int x7)]) [0, 3, 5] rfl ?_
    exact hK
  · replace h := it_n hc h
    refine aw_aload_n hG 1 rfl dX4_setDigits_30 rfl ?_
    refine aw_iload hG 6 rfl dX4_setDigits_31 ?_
    refine aw_callVi (As := [.int x8]) (rest := []) hG (c_X0_at (t0 := t1) (x1 := x8) (c := c) ht1) l_215 wv_X0_at (rv_X0 hG ht1) rfl rfl rfl (by decide) (Nat.zero_le _) (Nat.zero_le _) (Nat.le_of_ble_eq_true rfl) dX4_setDigits_33 ?_
    refine aw_topi (fun x9_4 hx9_4 => ?_)
    replace h := lt_r hx9_4 h
    refine aw_istore (L' := [(9, .int x9_4), (0, .ref (wad (cxw g) (9 + 2 * r0))), (1, .ref (wad (cxw g) (1 + 2 * t1))), (3, .int x3), (5, .int x5), (6, .int x6), (7, .int x7), (8, .int x8)]) hG dX4_setDigits_36 (by decide) rfl ?_
    refine aw_iload hG 0 rfl dX4_setDigits_38 ?_
    refine aw_bipush (v := 46) hG dX4_setDigits_40 rfl ?_
    refine aw_icmp_ne (t := 48) hG dX4_setDigits_42 rfl (fun hc => ?_) (fun hc => ?_)
    · replace h := it_n hc h
      refine aw_iload hG 6 rfl dX4_setDigits_48 ?_
      refine aw_iload hG 0 rfl dX4_setDigits_50 ?_
      refine aw_bipush (v := 48) hG dX4_setDigits_52 rfl ?_
      refine aw_isub hG dX4_setDigits_54 ?_
      refine aw_iload hG 5 rfl dX4_setDigits_55 ?_
      refine aw_imul hG dX4_setDigits_57 ?_
      refine aw_iadd hG dX4_setDigits_58 ?_
      refine aw_topi (fun x7_5 hx7_5 => ?_)
      replace h := lt_r hx7_5 h
      refine aw_istore (L' := [(7, .int x7_5), (9, .int x9_4), (0, .ref (wad (cxw g) (9 + 2 * r0))), (1, .ref (wad (cxw g) (1 + 2 * t1))), (3, .int x3), (5, .int x5), (6, .int x6), (8, .int x8)]) hG dX4_setDigits_59 (by decide) rfl ?_
      refine aw_iload hG 6 rfl dX4_setDigits_61 ?_
      refine aw_bipush (v := 10) hG dX4_setDigits_63 rfl ?_
      refine aw_idiv hG dX4_setDigits_65 (by decide) ?_
      refine aw_topi (fun x6_6 hx6_6 => ?_)
      replace h := lt_r hx6_6 h
      refine aw_istore (L' := [(6, .int x6_6), (7, .int x7_5), (9, .int x9_4), (0, .ref (wad (cxw g) (9 + 2 * r0))), (1, .ref (wad (cxw g) (1 + 2 * t1))), (3, .int x3), (5, .int x5), (8, .int x8)]) hG dX4_setDigits_66 (by decide) rfl ?_
      refine aw_iload hG 0 rfl dX4_setDigits_68 ?_
      refine aw_if_ne (t := 91) hG dX4_setDigits_70 rfl (fun hc => ?_) (fun hc => ?_)
      · replace h := it_n hc h
        obtain ⟨x8_7, hx8_7⟩ : ∃ y : Int32, y = x8 + 1 := ⟨_, rfl⟩
        replace h := lt_r hx8_7 h
        refine aw_iinc (v := x8_7) (L' := [(8, .int x8_7), (6, .int x6_6), (7, .int x7_5), (9, .int x9_4), (0, .ref (wad (cxw g) (9 + 2 * r0))), (1, .ref (wad (cxw g) (1 + 2 * t1))), (3, .int x3), (5, .int x5)]) hG 7 rfl dX4_setDigits_91 (by rw [hx8_7]; rfl) (by decide) rfl ?_
        refine aw_goto (t := 24) hG dX4_setDigits_94 rfl ?_
        obtain rfl := Option.some.inj h
        refine aw_sub (L' := [(0, .ref (wad (cxw g) (9 + 2 * r0))), (1, .ref (wad (cxw g) (1 + 2 * t1))), (3, .int x3), (5, .int x5), (6, .int x6_6), (7, .int x7_5), (8, .int x8_7)]) [4, 5, 6, 7, 1, 2, 0] rfl ?_
        exact hK
      · replace h := it_p hc h
        refine aw_aload_n hG 3 rfl dX4_setDigits_73 rfl ?_
        refine aw_iload hG 6 rfl dX4_setDigits_74 ?_
        refine aw_iload hG 1 rfl dX4_setDigits_76 ?_
        obtain ⟨v_8, hv_8⟩ : ∃ y, y = f_X4_placeLimb r0 x5 x7_5 c := ⟨_, rfl⟩
        replace h := lt_r hv_8 h
        refine aw_callVv (As := [.int x5, .int x7_5]) (rest := []) hG (c_X4_placeLimb (r0 := r0) (x1 := x5) (x2 := x7_5) (c := c) hr0 hv_8.symm) l_210 wv_X4_placeLimb (rv_X4 hG hr0) rfl rfl rfl (by decide) (Nat.zero_le _) (Nat.zero_le _) (Nat.le_of_ble_eq_true rfl) dX4_setDigits_78 ?_
        obtain ⟨x5_9, hx5_9⟩ : ∃ y : Int32, y = x5 + 1 := ⟨_, rfl⟩
        replace h := lt_r hx5_9 h
        refine aw_iinc (v := x5_9) (L' := [(5, .int x5_9), (6, .int x6_6), (7, .int x7_5), (9, .int x9_4), (0, .ref (wad (cxw g) (9 + 2 * r0))), (1, .ref (wad (cxw g) (1 + 2 * t1))), (3, .int x3), (8, .int x8)]) hG 6 rfl dX4_setDigits_81 (by rw [hx5_9]; rfl) (by decide) rfl ?_
        refine aw_iconst (v := 0) hG dX4_setDigits_84 rfl ?_
        refine aw_istore (L' := [(7, .int 0), (5, .int x5_9), (6, .int x6_6), (9, .int x9_4), (0, .ref (wad (cxw g) (9 + 2 * r0))), (1, .ref (wad (cxw g) (1 + 2 * t1))), (3, .int x3), (8, .int x8)]) hG dX4_setDigits_85 (by decide) rfl ?_
        refine aw_ldc hG l_98 dX4_setDigits_87 ?_
        refine aw_istore (L' := [(6, .int 100000000), (7, .int 0), (5, .int x5_9), (9, .int x9_4), (0, .ref (wad (cxw g) (9 + 2 * r0))), (1, .ref (wad (cxw g) (1 + 2 * t1))), (3, .int x3), (8, .int x8)]) hG dX4_setDigits_89 (by decide) rfl ?_
        obtain ⟨x8_10, hx8_10⟩ : ∃ y : Int32, y = x8 + 1 := ⟨_, rfl⟩
        replace h := lt_r hx8_10 h
        refine aw_iinc (v := x8_10) (L' := [(8, .int x8_10), (6, .int 100000000), (7, .int 0), (5, .int x5_9), (9, .int x9_4), (0, .ref (wad (cxw g) (9 + 2 * r0))), (1, .ref (wad (cxw g) (1 + 2 * t1))), (3, .int x3)]) hG 7 rfl dX4_setDigits_91 (by rw [hx8_10]; rfl) (by decide) rfl ?_
        refine aw_goto (t := 24) hG dX4_setDigits_94 rfl ?_
        obtain rfl := Option.some.inj h
        refine aw_sub (L' := [(0, .ref (wad (cxw g) (9 + 2 * r0))), (1, .ref (wad (cxw g) (1 + 2 * t1))), (3, .int x3), (5, .int x5_9), (6, .int 100000000), (7, .int 0), (8, .int x8_10)]) [5, 6, 7, 3, 1, 2, 0] rfl ?_
        exact hK
    · replace h := it_p hc h
      refine aw_goto (t := 91) hG dX4_setDigits_45 rfl ?_
      obtain ⟨x8_12, hx8_12⟩ : ∃ y : Int32, y = x8 + 1 := ⟨_, rfl⟩
      replace h := lt_r hx8_12 h
      refine aw_iinc (v := x8_12) (L' := [(8, .int x8_12), (9, .int x9_4), (0, .ref (wad (cxw g) (9 + 2 * r0))), (1, .ref (wad (cxw g) (1 + 2 * t1))), (3, .int x3), (5, .int x5), (6, .int x6), (7, .int x7)]) hG 7 rfl dX4_setDigits_91 (by rw [hx8_12]; rfl) (by decide) rfl ?_
      refine aw_goto (t := 24) hG dX4_setDigits_94 rfl ?_
      obtain rfl := Option.some.inj h
      refine aw_sub (L' := [(0, .ref (wad (cxw g) (9 + 2 * r0))), (1, .ref (wad (cxw g) (1 + 2 * t1))), (3, .int x3), (5, .int x5), (6, .int x6), (7, .int x7), (8, .int x8_12)]) [2, 3, 4, 5, 6, 7, 0] rfl ?_
      exact hK
noncomputable def f_X4_setDigits (r0 : Nat) (t1 : Nat) (x2 : Int32) (x3 : Int32) (x4 : Int32) (c : CS) : Option CS :=
  Option.bind (f_X4_empty r0 c) fun v_1 =>
  lt (f_X4_limbOf x4) fun x5_2 =>
  lt (f_X4_tenOf x4) fun x6_3 =>
  Option.bind (Lp (fun a => f_X4_setDigits_L24 r0 t1 x3 a.1 a.2.1 a.2.2.1 a.2.2.2.1 a.2.2.2.2) (x5_2, x6_3, 0, x2, v_1)) fun e_15 =>
  lt (f_X4_placeLimb r0 e_15.1 e_15.2.1 e_15.2.2) fun v_16 =>
  some v_16
set_option maxRecDepth 20000 in
theorem w_X4_setDigits {g : Cx} {mc ms : Nat} {c : CS} {m : MS} {z : Nat → Int64} {r0 : Nat} {t1 : Nat} {x2 : Int32} {x3 : Int32} {x4 : Int32} {s : CS} (hr0 : r0 < 4) (ht1 : t1 < 2) (hG : Gd g RX4 cX4_setDigits 10 4 mc ms) (h : f_X4_setDigits r0 t1 x2 x3 x4 c = some s) (hK : FinV g cX4_setDigits mc ms (s, m, z)) : AW g 0 [(0, .ref (wad (cxw g) (9 + 2 * r0))), (1, .ref (wad (cxw g) (1 + 2 * t1))), (2, .int x2), (3, .int x3), (4, .int x4)] [] (c, m, z) 0 0 := by
  unfold f_X4_setDigits at h
  refine aw_aload_n hG 0 rfl dX4_setDigits_0 rfl ?_
  obtain ⟨v_1, hv_1, h⟩ := bd_o h
  refine aw_callVv (As := []) (rest := []) hG (c_X4_empty (r0 := r0) (c := c) hr0 hv_1) l_195 wv_X4_empty (rv_X4 hG hr0) rfl rfl rfl (by decide) (Nat.zero_le _) (Nat.zero_le _) (Nat.le_of_ble_eq_true rfl) dX4_setDigits_1 ?_
  refine aw_iload hG 4 rfl dX4_setDigits_4 ?_
  refine aw_callSi (As := [.int x4]) (rest := []) hG (c_X4_limbOf (x0 := x4) (c := v_1) ) l_206 ws_X4_limbOf rfl rfl rfl (by decide) (Nat.zero_le _) (Nat.zero_le _) (Nat.le_of_ble_eq_true rfl) dX4_setDigits_6 ?_
  refine aw_topi (fun x5_2 hx5_2 => ?_)
  replace h := lt_r hx5_2 h
  refine aw_istore (L' := [(5, .int x5_2), (0, .ref (wad (cxw g) (9 + 2 * r0))), (1, .ref (wad (cxw g) (1 + 2 * t1))), (2, .int x2), (3, .int x3), (4, .int x4)]) hG dX4_setDigits_9 (by decide) rfl ?_
  refine aw_iload hG 5 rfl dX4_setDigits_11 ?_
  refine aw_callSi (As := [.int x4]) (rest := []) hG (c_X4_tenOf (x0 := x4) (c := v_1) ) l_89 ws_X4_tenOf rfl rfl rfl (by decide) (Nat.zero_le _) (Nat.zero_le _) (Nat.le_of_ble_eq_true rfl) dX4_setDigits_13 ?_
  refine aw_topi (fun x6_3 hx6_3 => ?_)
  replace h := lt_r hx6_3 h
  refine aw_istore (L' := [(6, .int x6_3), (5, .int x5_2), (0, .ref (wad (cxw g) (9 + 2 * r0))), (1, .ref (wad (cxw g) (1 + 2 * t1))), (2, .int x2), (3, .int x3), (4, .int x4)]) hG dX4_setDigits_16 (by decide) rfl ?_
  refine aw_iconst (v := 0) hG dX4_setDigits_18 rfl ?_
  refine aw_istore (L' := [(7, .int 0), (6, .int x6_3), (5, .int x5_2), (0, .ref (wad (cxw g) (9 + 2 * r0))), (1, .ref (wad (cxw g) (1 + 2 * t1))), (2, .int x2), (3, .int x3), (4, .int x4)]) hG dX4_setDigits_19 (by decide) rfl ?_
  refine aw_iload_n hG 5 rfl dX4_setDigits_21 rfl ?_
  refine aw_istore (L' := [(8, .int x2), (7, .int 0), (6, .int x6_3), (5, .int x5_2), (0, .ref (wad (cxw g) (9 + 2 * r0))), (1, .ref (wad (cxw g) (1 + 2 * t1))), (2, .int x2), (3, .int x3), (4, .int x4)]) hG dX4_setDigits_22 (by decide) rfl ?_
  obtain ⟨e_15, he, h⟩ := bd_o h
  refine aw_sub (L' := [(0, .ref (wad (cxw g) (9 + 2 * r0))), (1, .ref (wad (cxw g) (1 + 2 * t1))), (3, .int x3), (5, .int x5_2), (6, .int x6_3), (7, .int 0), (8, .int x2)]) [4, 5, 7, 3, 2, 1, 0] rfl ?_
  refine Lp_w (F := (fun a => f_X4_setDigits_L24 r0 t1 x3 a.1 a.2.1 a.2.2.1 a.2.2.2.1 a.2.2.2.2)) (S := (fun a => AW g 24 [(0, .ref (wad (cxw g) (9 + 2 * r0))), (1, .ref (wad (cxw g) (1 + 2 * t1))), (3, .int x3), (5, .int a.1), (6, .int a.2.1), (7, .int a.2.2.1), (8, .int a.2.2.2.1)] [] (a.2.2.2.2, m, z) 0 0)) (E := (fun e => AW g 97 [(0, .ref (wad (cxw g) (9 + 2 * r0))), (5, .int e.1), (7, .int e.2.1)] [] (e.2.2, m, z) 0 0)) (a := (x5_2, x6_3, 0, x2, v_1)) he (fun a s h hK => w_X4_setDigits_L24 (r0 := r0) (t1 := t1) (x3 := x3) (x5 := a.1) (x6 := a.2.1) (x7 := a.2.2.1) (x8 := a.2.2.2.1) (c := a.2.2.2.2) hr0 ht1 hG h hK) ?_
  show AW g 97 _ _ _ 0 0
  refine aw_aload_n hG 0 rfl dX4_setDigits_97 rfl ?_
  refine aw_iload hG 1 rfl dX4_setDigits_98 ?_
  refine aw_iload hG 2 rfl dX4_setDigits_100 ?_
  obtain ⟨v_16, hv_16⟩ : ∃ y, y = f_X4_placeLimb r0 e_15.1 e_15.2.1 e_15.2.2 := ⟨_, rfl⟩
  replace h := lt_r hv_16 h
  refine aw_callVv (As := [.int e_15.1, .int e_15.2.1]) (rest := []) hG (c_X4_placeLimb (r0 := r0) (x1 := e_15.1) (x2 := e_15.2.1) (c := e_15.2.2) hr0 hv_16.symm) l_210 wv_X4_placeLimb (rv_X4 hG hr0) rfl rfl rfl (by decide) (Nat.zero_le _) (Nat.zero_le _) (Nat.le_of_ble_eq_true rfl) dX4_setDigits_102 ?_
  obtain rfl := Option.some.inj h
  exact FinV.z hK dX4_setDigits_105
theorem c_X4_setDigits {c : CS} {m : MS} {z : Nat → Int64} {r0 : Nat} {t1 : Nat} {x2 : Int32} {x3 : Int32} {x4 : Int32} {s : CS} (hr0 : r0 < 4) (ht1 : t1 < 2) (h : f_X4_setDigits r0 t1 x2 x3 x4 c = some s) : Ct yX4_setDigits cX4_setDigits 10 none 4 (fun w => [.ref (wad w (9 + 2 * r0)), .ref (wad w (1 + 2 * t1)), .int x2, .int x3, .int x4]) (c, m, z) (fun _ => none) (s, m, z) := Ct_ofV (by decide +kernel) (fun _ => Nat.le_of_ble_eq_true rfl) (fun g hG hK => w_X4_setDigits hr0 ht1 hG h hK)
def f_X4_trim_L0 (r0 : Nat) (c : CS) : Option ((CS) ⊕ (CS)) :=
  if (rwE c r0) < (rwF c r0) then
    some (.inr c)
  else
    if (f_X4_limbAt r0 (rwE c r0) c) = 0 then
      lt (srwE c r0 ((rwE c r0) - 1)) fun c_1 =>
      some (.inl c_1)
    else
      some (.inr c)
set_option maxRecDepth 20000 in
theorem w_X4_trim_L0 {g : Cx} {mc ms : Nat} {c : CS} {m : MS} {z : Nat → Int64} {r0 : Nat} {s : ((CS) ⊕ (CS))} (hr0 : r0 < 4) (hG : Gd g RX4 cX4_trim 1 2 mc ms) (h : f_X4_trim_L0 r0 c = some s) (hK : Sum.elim (fun a => AW g 0 [(0, .ref (wad (cxw g) (9 + 2 * r0)))] [] (a, m, z) 0 0) (fun e => AW g 35 [(0, .ref (wad (cxw g) (9 + 2 * r0)))] [] (e, m, z) 0 0) s) : AW g 0 [(0, .ref (wad (cxw g) (9 + 2 * r0)))] [] (c, m, z) 0 0 := by
  unfold f_X4_trim_L0 at h
  refine aw_aload_n hG 0 rfl dX4_trim_0 rfl ?_
  refine gt_rwF hG hr0 l_72 dX4_trim_1 ?_
  refine aw_aload_n hG 0 rfl dX4_trim_4 rfl ?_
  refine gt_rwE hG hr0 l_73 dX4_trim_5 ?_
  refine aw_icmp_gt (t := 35) hG dX4_trim_8 rfl (fun hc => ?_) (fun hc => ?_)
  · replace h := it_p hc h
    obtain rfl := Option.some.inj h
    exact hK
  · replace h := it_n hc h
    refine aw_aload_n hG 0 rfl dX4_trim_11 rfl ?_
    refine aw_aload_n hG 0 rfl dX4_trim_12 rfl ?_
    refine gt_rwE hG hr0 l_73 dX4_trim_13 ?_
    refine aw_callVi (As := [.int (rwE c r0)]) (rest := []) hG (c_X4_limbAt (r0 := r0) (x1 := rwE c r0) (c := c) hr0) l_84 wv_X4_limbAt (rv_X4 hG hr0) rfl rfl rfl (by decide) (Nat.zero_le _) (Nat.zero_le _) (Nat.le_of_ble_eq_true rfl) dX4_trim_16 ?_
    refine aw_if_ne (t := 35) hG dX4_trim_19 rfl (fun hc => ?_) (fun hc => ?_)
    · replace h := it_n hc h
      obtain rfl := Option.some.inj h
      exact hK
    · replace h := it_p hc h
      refine aw_aload_n hG 0 rfl dX4_trim_22 rfl ?_
      refine aw_dup hG dX4_trim_23 rfl ?_
      refine gt_rwE hG hr0 l_73 dX4_trim_24 ?_
      refine aw_iconst (v := 1) hG dX4_trim_27 rfl ?_
      refine aw_isub hG dX4_trim_28 ?_
      refine pt_rwE hG hr0 l_73 dX4_trim_29 ?_
      refine aw_stc (fun c_1 hc_1 => ?_)
      replace h := lt_r hc_1 h
      refine aw_goto (t := 0) hG dX4_trim_32 rfl ?_
      obtain rfl := Option.some.inj h
      exact hK
def f_X4_trim_L35 (r0 : Nat) (c : CS) : Option ((CS) ⊕ (CS)) :=
  if (rwE c r0) < (rwF c r0) then
    some (.inr c)
  else
    if (f_X4_limbAt r0 (rwF c r0) c) = 0 then
      lt (srwF c r0 ((rwF c r0) + 1)) fun c_5 =>
      some (.inl c_5)
    else
      some (.inr c)
set_option maxRecDepth 20000 in
theorem w_X4_trim_L35 {g : Cx} {mc ms : Nat} {c : CS} {m : MS} {z : Nat → Int64} {r0 : Nat} {s : ((CS) ⊕ (CS))} (hr0 : r0 < 4) (hG : Gd g RX4 cX4_trim 1 2 mc ms) (h : f_X4_trim_L35 r0 c = some s) (hK : Sum.elim (fun a => AW g 35 [(0, .ref (wad (cxw g) (9 + 2 * r0)))] [] (a, m, z) 0 0) (fun e => AW g 70 [(0, .ref (wad (cxw g) (9 + 2 * r0)))] [] (e, m, z) 0 0) s) : AW g 35 [(0, .ref (wad (cxw g) (9 + 2 * r0)))] [] (c, m, z) 0 0 := by
  unfold f_X4_trim_L35 at h
  refine aw_aload_n hG 0 rfl dX4_trim_35 rfl ?_
  refine gt_rwF hG hr0 l_72 dX4_trim_36 ?_
  refine aw_aload_n hG 0 rfl dX4_trim_39 rfl ?_
  refine gt_rwE hG hr0 l_73 dX4_trim_40 ?_
  refine aw_icmp_gt (t := 70) hG dX4_trim_43 rfl (fun hc => ?_) (fun hc => ?_)
  · replace h := it_p hc h
    obtain rfl := Option.some.inj h
    exact hK
  · replace h := it_n hc h
    refine aw_aload_n hG 0 rfl dX4_trim_46 rfl ?_
    refine aw_aload_n hG 0 rfl dX4_trim_47 rfl ?_
    refine gt_rwF hG hr0 l_72 dX4_trim_48 ?_
    refine aw_callVi (As := [.int (rwF c r0)]) (rest := []) hG (c_X4_limbAt (r0 := r0) (x1 := rwF c r0) (c := c) hr0) l_84 wv_X4_limbAt (rv_X4 hG hr0) rfl rfl rfl (by decide) (Nat.zero_le _) (Nat.zero_le _) (Nat.le_of_ble_eq_true rfl) dX4_trim_51 ?_
    refine aw_if_ne (t := 70) hG dX4_trim_54 rfl (fun hc => ?_) (fun hc => ?_)
    · replace h := it_n hc h
      obtain rfl := Option.some.inj h
      exact hK
    · replace h := it_p hc h
      refine aw_aload_n hG 0 rfl dX4_trim_57 rfl ?_
      refine aw_dup hG dX4_trim_58 rfl ?_
      refine gt_rwF hG hr0 l_72 dX4_trim_59 ?_
      refine aw_iconst (v := 1) hG dX4_trim_62 rfl ?_
      refine aw_iadd hG dX4_trim_63 ?_
      refine pt_rwF hG hr0 l_72 dX4_trim_64 ?_
      refine aw_stc (fun c_5 hc_5 => ?_)
      replace h := lt_r hc_5 h
      refine aw_goto (t := 35) hG dX4_trim_67 rfl ?_
      obtain rfl := Option.some.inj h
      exact hK
noncomputable def f_X4_trim (r0 : Nat) (c : CS) : Option CS :=
  Option.bind (Lp (fun a => f_X4_trim_L0 r0 a) c) fun e_4 =>
  Option.bind (Lp (fun a => f_X4_trim_L35 r0 a) e_4) fun e_8 =>
  if (f_X4_isEmpty r0 e_8) = 0 then
    some e_8
  else
    lt (srwF e_8 r0 156) fun c_9 =>
    lt (srwE c_9 r0 (-1)) fun c_10 =>
    some c_10
set_option maxRecDepth 20000 in
theorem w_X4_trim {g : Cx} {mc ms : Nat} {c : CS} {m : MS} {z : Nat → Int64} {r0 : Nat} {s : CS} (hr0 : r0 < 4) (hG : Gd g RX4 cX4_trim 1 2 mc ms) (h : f_X4_trim r0 c = some s) (hK : FinV g cX4_trim mc ms (s, m, z)) : AW g 0 [(0, .ref (wad (cxw g) (9 + 2 * r0)))] [] (c, m, z) 0 0 := by
  unfold f_X4_trim at h
  obtain ⟨e_4, he, h⟩ := bd_o h
  refine Lp_w (F := (fun a => f_X4_trim_L0 r0 a)) (S := (fun a => AW g 0 [(0, .ref (wad (cxw g) (9 + 2 * r0)))] [] (a, m, z) 0 0)) (E := (fun e => AW g 35 [(0, .ref (wad (cxw g) (9 + 2 * r0)))] [] (e, m, z) 0 0)) (a := c) he (fun a s h hK => w_X4_trim_L0 (r0 := r0) (c := a) hr0 hG h hK) ?_
  show AW g 35 _ _ _ 0 0
  obtain ⟨e_8, he, h⟩ := bd_o h
  refine Lp_w (F := (fun a => f_X4_trim_L35 r0 a)) (S := (fun a => AW g 35 [(0, .ref (wad (cxw g) (9 + 2 * r0)))] [] (a, m, z) 0 0)) (E := (fun e => AW g 70 [(0, .ref (wad (cxw g) (9 + 2 * r0)))] [] (e, m, z) 0 0)) (a := e_4) he (fun a s h hK => w_X4_trim_L35 (r0 := r0) (c := a) hr0 hG h hK) ?_
  show AW g 70 _ _ _ 0 0
  refine aw_aload_n hG 0 rfl dX4_trim_70 rfl ?_
  refine aw_callVi (As := []) (rest := []) hG (c_X4_isEmpty (r0 := r0) (c := e_8) hr0) l_79 wv_X4_isEmpty (rv_X4 hG hr0) rfl rfl rfl (by decide) (Nat.zero_le _) (Nat.zero_le _) (Nat.le_of_ble_eq_true rfl) dX4_trim_71 ?_
  refine aw_if_eq (t := 89) hG dX4_trim_74 rfl (fun hc => ?_) (fun hc => ?_)
  · replace h := it_p hc h
    obtain rfl := Option.some.inj h
    exact FinV.z hK dX4_trim_89
  · replace h := it_n hc h
    refine aw_aload_n hG 0 rfl dX4_trim_77 rfl ?_
    refine aw_sipush (v := 156) hG dX4_trim_78 rfl ?_
    refine pt_rwF hG hr0 l_72 dX4_trim_81 ?_
    refine aw_stc (fun c_9 hc_9 => ?_)
    replace h := lt_r hc_9 h
    refine aw_aload_n hG 0 rfl dX4_trim_84 rfl ?_
    refine aw_iconst (v := (-1)) hG dX4_trim_85 rfl ?_
    refine pt_rwE hG hr0 l_73 dX4_trim_86 ?_
    refine aw_stc (fun c_10 hc_10 => ?_)
    replace h := lt_r hc_10 h
    obtain rfl := Option.some.inj h
    exact FinV.z hK dX4_trim_89
theorem c_X4_trim {c : CS} {m : MS} {z : Nat → Int64} {r0 : Nat} {s : CS} (hr0 : r0 < 4) (h : f_X4_trim r0 c = some s) : Ct yX4_trim cX4_trim 1 none 2 (fun w => [.ref (wad w (9 + 2 * r0))]) (c, m, z) (fun _ => none) (s, m, z) := Ct_ofV (by decide +kernel) (fun _ => Nat.le_of_ble_eq_true rfl) (fun g hG hK => w_X4_trim hr0 hG h hK)
def f_X4_divide_L31 (r0 : Nat) (x1 : Int32) (x2 : Int64) (x4 : Int64) (x6 : Int32) (x7 : Int32) (c : CS) : Option ((Int64 × Int32 × CS) ⊕ ((Int64 × CS))) :=
  if x6 < x7 then
    some (.inr (x4, c))
  else
    if vI x7 156 then
      lt ((x4 * 1000000000) + ((rwL c r0 x7.toNatClampNeg).toInt64)) fun x8_5 =>
      if vI x7 156 then
        lt (srwL c r0 (upd (rwL c r0) x7.toNatClampNeg ((jushr x8_5 x1).toInt32))) fun c_7 =>
        lt (x8_5 &&& x2) fun x4_8 =>
        lt (x7 + 1) fun x7_9 =>
        some (.inl (x4_8, x7_9, c_7))
      else none
    else none
set_option maxRecDepth 20000 in
theorem w_X4_divide_L31 {g : Cx} {mc ms : Nat} {c : CS} {m : MS} {z : Nat → Int64} {r0 : Nat} {x1 : Int32} {x2 : Int64} {x4 : Int64} {x6 : Int32} {x7 : Int32} {s : ((Int64 × Int32 × CS) ⊕ ((Int64 × CS)))} (hr0 : r0 < 4) (hG : Gd g RX4 cX4_divide 10 3 mc ms) (h : f_X4_divide_L31 r0 x1 x2 x4 x6 x7 c = some s) (hK : Sum.elim (fun a => AW g 31 [(0, .ref (wad (cxw g) (9 + 2 * r0))), (1, .int x1), (2, .long x2), (4, .long a.1), (6, .int x6), (7, .int a.2.1)] [] (a.2.2, m, z) 0 0) (fun e => AW g 79 [(0, .ref (wad (cxw g) (9 + 2 * r0))), (1, .int x1), (2, .long x2), (4, .long e.1), (6, .int x6)] [] (e.2, m, z) 0 0) s) : AW g 31 [(0, .ref (wad (cxw g) (9 + 2 * r0))), (1, .int x1), (2, .long x2), (4, .long x4), (6, .int x6), (7, .int x7)] [] (c, m, z) 0 0 := by
  unfold f_X4_divide_L31 at h
  refine aw_iload hG 5 rfl dX4_divide_31 ?_
  refine aw_iload hG 4 rfl dX4_divide_33 ?_
  refine aw_icmp_gt (t := 79) hG dX4_divide_35 rfl (fun hc => ?_) (fun hc => ?_)
  · replace h := it_p hc h
    obtain rfl := Option.some.inj h
    refine aw_sub (L' := [(0, .ref (wad (cxw g) (9 + 2 * r0))), (1, .int x1), (2, .long x2), (4, .long x4), (6, .int x6)]) [0, 1, 2, 3, 4] rfl ?_
    exact hK
  · replace h := it_n hc h
    refine aw_lload hG 3 rfl dX4_divide_38 ?_
    refine aw_ldc2 hG l_200 dX4_divide_40 ?_
    refine aw_lmul hG dX4_divide_43 ?_
    refine aw_aload_n hG 0 rfl dX4_divide_44 rfl ?_
    refine gt_rwL hG hr0 l_71 dX4_divide_45 ?_
    refine aw_iload hG 5 rfl dX4_divide_48 ?_
    obtain ⟨hi_4, h⟩ := it_o h
    refine al_rwL (x := 0) hG hr0 hi_4 dX4_divide_50 ?_
    refine aw_i2l hG dX4_divide_51 ?_
    refine aw_ladd hG dX4_divide_52 ?_
    refine aw_topl (fun x8_5 hx8_5 => ?_)
    replace h := lt_r hx8_5 h
    refine aw_lstore (L' := [(8, .long x8_5), (0, .ref (wad (cxw g) (9 + 2 * r0))), (1, .int x1), (2, .long x2), (4, .long x4), (6, .int x6), (7, .int x7)]) hG dX4_divide_53 (by decide) rfl ?_
    refine aw_aload_n hG 1 rfl dX4_divide_55 rfl ?_
    refine gt_rwL hG hr0 l_71 dX4_divide_56 ?_
    refine aw_iload hG 6 rfl dX4_divide_59 ?_
    refine aw_lload hG 0 rfl dX4_divide_61 ?_
    refine aw_iload_n hG 2 rfl dX4_divide_63 rfl ?_
    refine aw_lushrJ hG dX4_divide_64 ?_
    refine aw_l2i hG dX4_divide_65 ?_
    obtain ⟨hi_6, h⟩ := it_o h
    refine as_rwL hG hr0 hi_6 dX4_divide_66 ?_
    refine aw_stc (fun c_7 hc_7 => ?_)
    replace h := lt_r hc_7 h
    refine aw_lload hG 0 rfl dX4_divide_67 ?_
    refine aw_lload_n hG 3 rfl dX4_divide_69 rfl ?_
    refine aw_land hG dX4_divide_70 ?_
    refine aw_topl (fun x4_8 hx4_8 => ?_)
    replace h := lt_r hx4_8 h
    refine aw_lstore (L' := [(4, .long x4_8), (8, .long x8_5), (0, .ref (wad (cxw g) (9 + 2 * r0))), (1, .int x1), (2, .long x2), (6, .int x6), (7, .int x7)]) hG dX4_divide_71 (by decide) rfl ?_
    obtain ⟨x7_9, hx7_9⟩ : ∃ y : Int32, y = x7 + 1 := ⟨_, rfl⟩
    replace h := lt_r hx7_9 h
    refine aw_iinc (v := x7_9) (L' := [(7, .int x7_9), (4, .long x4_8), (8, .long x8_5), (0, .ref (wad (cxw g) (9 + 2 * r0))), (1, .int x1), (2, .long x2), (6, .int x6)]) hG 6 rfl dX4_divide_73 (by rw [hx7_9]; rfl) (by decide) rfl ?_
    refine aw_goto (t := 31) hG dX4_divide_76 rfl ?_
    obtain rfl := Option.some.inj h
    refine aw_sub (L' := [(0, .ref (wad (cxw g) (9 + 2 * r0))), (1, .int x1), (2, .long x2), (4, .long x4_8), (6, .int x6), (7, .int x7_9)]) [3, 4, 5, 1, 6, 0] rfl ?_
    exact hK
def f_X4_divide_L85 (r0 : Nat) (x1 : Int32) (x2 : Int64) (x4 : Int64) (x7 : Int32) (c : CS) : Option ((Int64 × Int32 × CS) ⊕ ((Int64 × CS))) :=
  if 156 ≤ x7 then
    some (.inr (x4, c))
  else
    if x4 = 0 then
      some (.inr (x4, c))
    else
      lt (x4 * 1000000000) fun x8_13 =>
      lt (f_X4_setLimb r0 x7 ((jushr x8_13 x1).toInt32) c) fun v_14 =>
      lt (x8_13 &&& x2) fun x4_15 =>
      lt (x7 + 1) fun x7_16 =>
      some (.inl (x4_15, x7_16, v_14))
set_option maxRecDepth 20000 in
theorem w_X4_divide_L85 {g : Cx} {mc ms : Nat} {c : CS} {m : MS} {z : Nat → Int64} {r0 : Nat} {x1 : Int32} {x2 : Int64} {x4 : Int64} {x7 : Int32} {s : ((Int64 × Int32 × CS) ⊕ ((Int64 × CS)))} (hr0 : r0 < 4) (hG : Gd g RX4 cX4_divide 10 3 mc ms) (h : f_X4_divide_L85 r0 x1 x2 x4 x7 c = some s) (hK : Sum.elim (fun a => AW g 85 [(0, .ref (wad (cxw g) (9 + 2 * r0))), (1, .int x1), (2, .long x2), (4, .long a.1), (7, .int a.2.1)] [] (a.2.2, m, z) 0 0) (fun e => AW g 131 [(0, .ref (wad (cxw g) (9 + 2 * r0))), (4, .long e.1)] [] (e.2, m, z) 0 0) s) : AW g 85 [(0, .ref (wad (cxw g) (9 + 2 * r0))), (1, .int x1), (2, .long x2), (4, .long x4), (7, .int x7)] [] (c, m, z) 0 0 := by
  unfold f_X4_divide_L85 at h
  refine aw_iload hG 4 rfl dX4_divide_85 ?_
  refine aw_sipush (v := 156) hG dX4_divide_87 rfl ?_
  refine aw_icmp_ge (t := 131) hG dX4_divide_90 rfl (fun hc => ?_) (fun hc => ?_)
  · replace h := it_p hc h
    obtain rfl := Option.some.inj h
    refine aw_sub (L' := [(0, .ref (wad (cxw g) (9 + 2 * r0))), (4, .long x4)]) [0, 3] rfl ?_
    exact hK
  · replace h := it_n hc h
    refine aw_lload hG 3 rfl dX4_divide_93 ?_
    refine aw_lconst (v := 0) hG dX4_divide_95 rfl ?_
    refine aw_lc_eq (t := 131) hG dX4_divide_96 rfl dX4_divide_97 rfl rfl (fun hc => ?_) (fun hc => ?_)
    · replace h := it_p hc h
      obtain rfl := Option.some.inj h
      refine aw_sub (L' := [(0, .ref (wad (cxw g) (9 + 2 * r0))), (4, .long x4)]) [0, 3] rfl ?_
      exact hK
    · replace h := it_n hc h
      refine aw_lload hG 3 rfl dX4_divide_100 ?_
      refine aw_ldc2 hG l_200 dX4_divide_102 ?_
      refine aw_lmul hG dX4_divide_105 ?_
      refine aw_topl (fun x8_13 hx8_13 => ?_)
      replace h := lt_r hx8_13 h
      refine aw_lstore (L' := [(8, .long x8_13), (0, .ref (wad (cxw g) (9 + 2 * r0))), (1, .int x1), (2, .long x2), (4, .long x4), (7, .int x7)]) hG dX4_divide_106 (by decide) rfl ?_
      refine aw_aload_n hG 1 rfl dX4_divide_108 rfl ?_
      refine aw_iload hG 5 rfl dX4_divide_109 ?_
      refine aw_lload hG 0 rfl dX4_divide_111 ?_
      refine aw_iload_n hG 2 rfl dX4_divide_113 rfl ?_
      refine aw_lushrJ hG dX4_divide_114 ?_
      refine aw_l2i hG dX4_divide_115 ?_
      obtain ⟨v_14, hv_14⟩ : ∃ y, y = f_X4_setLimb r0 x7 ((jushr x8_13 x1).toInt32) c := ⟨_, rfl⟩
      replace h := lt_r hv_14 h
      refine aw_callVv (As := [.int x7, .int ((jushr x8_13 x1).toInt32)]) (rest := []) hG (c_X4_setLimb (r0 := r0) (x1 := x7) (x2 := (jushr x8_13 x1).toInt32) (c := c) hr0 hv_14.symm) l_201 wv_X4_setLimb (rv_X4 hG hr0) rfl rfl rfl (by decide) (Nat.zero_le _) (Nat.zero_le _) (Nat.le_of_ble_eq_true rfl) dX4_divide_116 ?_
      refine aw_lload hG 0 rfl dX4_divide_119 ?_
      refine aw_lload_n hG 3 rfl dX4_divide_121 rfl ?_
      refine aw_land hG dX4_divide_122 ?_
      refine aw_topl (fun x4_15 hx4_15 => ?_)
      replace h := lt_r hx4_15 h
      refine aw_lstore (L' := [(4, .long x4_15), (8, .long x8_13), (0, .ref (wad (cxw g) (9 + 2 * r0))), (1, .int x1), (2, .long x2), (7, .int x7)]) hG dX4_divide_123 (by decide) rfl ?_
      obtain ⟨x7_16, hx7_16⟩ : ∃ y : Int32, y = x7 + 1 := ⟨_, rfl⟩
      replace h := lt_r hx7_16 h
      refine aw_iinc (v := x7_16) (L' := [(7, .int x7_16), (4, .long x4_15), (8, .long x8_13), (0, .ref (wad (cxw g) (9 + 2 * r0))), (1, .int x1), (2, .long x2)]) hG 5 rfl dX4_divide_125 (by rw [hx7_16]; rfl) (by decide) rfl ?_
      refine aw_goto (t := 85) hG dX4_divide_128 rfl ?_
      obtain rfl := Option.some.inj h
      refine aw_sub (L' := [(0, .ref (wad (cxw g) (9 + 2 * r0))), (1, .int x1), (2, .long x2), (4, .long x4_15), (7, .int x7_16)]) [3, 4, 5, 1, 0] rfl ?_
      exact hK
noncomputable def f_X4_divide_J143 (r0 : Nat) (c : CS) : Option CS :=
  Option.bind (f_X4_trim r0 c) fun v_20 =>
  some v_20
set_option maxRecDepth 20000 in
theorem w_X4_divide_J143 {g : Cx} {mc ms : Nat} {c : CS} {m : MS} {z : Nat → Int64} {r0 : Nat} {s : CS} (hr0 : r0 < 4) (hG : Gd g RX4 cX4_divide 10 3 mc ms) (h : f_X4_divide_J143 r0 c = some s) (hK : FinV g cX4_divide mc ms (s, m, z)) : AW g 143 [(0, .ref (wad (cxw g) (9 + 2 * r0)))] [] (c, m, z) 0 0 := by
  unfold f_X4_divide_J143 at h
  refine aw_aload_n hG 0 rfl dX4_divide_143 rfl ?_
  obtain ⟨v_20, hv_20, h⟩ := bd_o h
  refine aw_callVv (As := []) (rest := []) hG (c_X4_trim (r0 := r0) (c := c) hr0 hv_20) l_220 wv_X4_trim (rv_X4 hG hr0) rfl rfl rfl (by decide) (Nat.zero_le _) (Nat.zero_le _) (Nat.le_of_ble_eq_true rfl) dX4_divide_144 ?_
  obtain rfl := Option.some.inj h
  exact FinV.z hK dX4_divide_147
noncomputable def f_X4_divide (r0 : Nat) (x1 : Int32) (c : CS) : Option CS :=
  lt ((jshl 1 x1) - 1) fun x2_1 =>
  lt (f_JM_min (rwE c r0) 155) fun x6_2 =>
  lt (f_JM_max (rwF c r0) 0) fun x7_3 =>
  Option.bind (Lp (fun a => f_X4_divide_L31 r0 x1 x2_1 a.1 x6_2 a.2.1 a.2.2) (0, x7_3, c)) fun e_11 =>
  lt (x6_2 + 1) fun x7_12 =>
  Option.bind (Lp (fun a => f_X4_divide_L85 r0 x1 x2_1 a.1 a.2.1 a.2.2) (e_11.1, x7_12, e_11.2)) fun e_19 =>
  if e_19.1 = 0 then
    f_X4_divide_J143 r0 e_19.2
  else
    lt (srwX e_19.2 r0 1) fun c_21 =>
    f_X4_divide_J143 r0 c_21
set_option maxRecDepth 20000 in
theorem w_X4_divide {g : Cx} {mc ms : Nat} {c : CS} {m : MS} {z : Nat → Int64} {r0 : Nat} {x1 : Int32} {s : CS} (hr0 : r0 < 4) (hG : Gd g RX4 cX4_divide 10 3 mc ms) (h : f_X4_divide r0 x1 c = some s) (hK : FinV g cX4_divide mc ms (s, m, z)) : AW g 0 [(0, .ref (wad (cxw g) (9 + 2 * r0))), (1, .int x1)] [] (c, m, z) 0 0 := by
  unfold f_X4_divide at h
  refine aw_lconst (v := 1) hG dX4_divide_0 rfl ?_
  refine aw_iload_n hG 1 rfl dX4_divide_1 rfl ?_
  refine aw_lshlJ hG dX4_divide_2 ?_
  refine aw_lconst (v := 1) hG dX4_divide_3 rfl ?_
  refine aw_lsub hG dX4_divide_4 ?_
  refine aw_topl (fun x2_1 hx2_1 => ?_)
  replace h := lt_r hx2_1 h
  refine aw_lstore_n (L' := [(2, .long x2_1), (0, .ref (wad (cxw g) (9 + 2 * r0))), (1, .int x1)]) hG dX4_divide_5 rfl (by decide) rfl ?_
  refine aw_lconst (v := 0) hG dX4_divide_6 rfl ?_
  refine aw_lstore (L' := [(4, .long 0), (2, .long x2_1), (0, .ref (wad (cxw g) (9 + 2 * r0))), (1, .int x1)]) hG dX4_divide_7 (by decide) rfl ?_
  refine aw_aload_n hG 2 rfl dX4_divide_9 rfl ?_
  refine gt_rwE hG hr0 l_73 dX4_divide_10 ?_
  refine aw_sipush (v := 155) hG dX4_divide_13 rfl ?_
  refine aw_callSi (As := [.int (rwE c r0), .int 155]) (rest := []) hG (c_JM_min (x0 := rwE c r0) (x1 := 155) (c := c) ) l_192 ws_JM_min rfl rfl rfl (by decide) (Nat.zero_le _) (Nat.zero_le _) (Nat.le_of_ble_eq_true rfl) dX4_divide_16 ?_
  refine aw_topi (fun x6_2 hx6_2 => ?_)
  replace h := lt_r hx6_2 h
  refine aw_istore (L' := [(6, .int x6_2), (4, .long 0), (2, .long x2_1), (0, .ref (wad (cxw g) (9 + 2 * r0))), (1, .int x1)]) hG dX4_divide_19 (by decide) rfl ?_
  refine aw_aload_n hG 3 rfl dX4_divide_21 rfl ?_
  refine gt_rwF hG hr0 l_72 dX4_divide_22 ?_
  refine aw_iconst (v := 0) hG dX4_divide_25 rfl ?_
  refine aw_callSi (As := [.int (rwF c r0), .int 0]) (rest := []) hG (c_JM_max (x0 := rwF c r0) (x1 := 0) (c := c) ) l_193 ws_JM_max rfl rfl rfl (by decide) (Nat.zero_le _) (Nat.zero_le _) (Nat.le_of_ble_eq_true rfl) dX4_divide_26 ?_
  refine aw_topi (fun x7_3 hx7_3 => ?_)
  replace h := lt_r hx7_3 h
  refine aw_istore (L' := [(7, .int x7_3), (6, .int x6_2), (4, .long 0), (2, .long x2_1), (0, .ref (wad (cxw g) (9 + 2 * r0))), (1, .int x1)]) hG dX4_divide_29 (by decide) rfl ?_
  obtain ⟨e_11, he, h⟩ := bd_o h
  refine aw_sub (L' := [(0, .ref (wad (cxw g) (9 + 2 * r0))), (1, .int x1), (2, .long x2_1), (4, .long 0), (6, .int x6_2), (7, .int x7_3)]) [4, 5, 3, 2, 1, 0] rfl ?_
  refine Lp_w (F := (fun a => f_X4_divide_L31 r0 x1 x2_1 a.1 x6_2 a.2.1 a.2.2)) (S := (fun a => AW g 31 [(0, .ref (wad (cxw g) (9 + 2 * r0))), (1, .int x1), (2, .long x2_1), (4, .long a.1), (6, .int x6_2), (7, .int a.2.1)] [] (a.2.2, m, z) 0 0)) (E := (fun e => AW g 79 [(0, .ref (wad (cxw g) (9 + 2 * r0))), (1, .int x1), (2, .long x2_1), (4, .long e.1), (6, .int x6_2)] [] (e.2, m, z) 0 0)) (a := (0, x7_3, c)) he (fun a s h hK => w_X4_divide_L31 (r0 := r0) (x1 := x1) (x2 := x2_1) (x4 := a.1) (x6 := x6_2) (x7 := a.2.1) (c := a.2.2) hr0 hG h hK) ?_
  show AW g 79 _ _ _ 0 0
  refine aw_iload hG 4 rfl dX4_divide_79 ?_
  refine aw_iconst (v := 1) hG dX4_divide_81 rfl ?_
  refine aw_iadd hG dX4_divide_82 ?_
  refine aw_topi (fun x7_12 hx7_12 => ?_)
  replace h := lt_r hx7_12 h
  refine aw_istore (L' := [(7, .int x7_12), (0, .ref (wad (cxw g) (9 + 2 * r0))), (1, .int x1), (2, .long x2_1), (4, .long e_11.1), (6, .int x6_2)]) hG dX4_divide_83 (by decide) rfl ?_
  obtain ⟨e_19, he, h⟩ := bd_o h
  refine aw_sub (L' := [(0, .ref (wad (cxw g) (9 + 2 * r0))), (1, .int x1), (2, .long x2_1), (4, .long e_11.1), (7, .int x7_12)]) [1, 2, 3, 4, 0] rfl ?_
  refine Lp_w (F := (fun a => f_X4_divide_L85 r0 x1 x2_1 a.1 a.2.1 a.2.2)) (S := (fun a => AW g 85 [(0, .ref (wad (cxw g) (9 + 2 * r0))), (1, .int x1), (2, .long x2_1), (4, .long a.1), (7, .int a.2.1)] [] (a.2.2, m, z) 0 0)) (E := (fun e => AW g 131 [(0, .ref (wad (cxw g) (9 + 2 * r0))), (4, .long e.1)] [] (e.2, m, z) 0 0)) (a := (e_11.1, x7_12, e_11.2)) he (fun a s h hK => w_X4_divide_L85 (r0 := r0) (x1 := x1) (x2 := x2_1) (x4 := a.1) (x7 := a.2.1) (c := a.2.2) hr0 hG h hK) ?_
  show AW g 131 _ _ _ 0 0
  refine aw_lload hG 1 rfl dX4_divide_131 ?_
  refine aw_lconst (v := 0) hG dX4_divide_133 rfl ?_
  refine aw_lc_eq (t := 143) hG dX4_divide_134 rfl dX4_divide_135 rfl rfl (fun hc => ?_) (fun hc => ?_)
  · replace h := it_p hc h
    refine aw_sub (L' := [(0, .ref (wad (cxw g) (9 + 2 * r0)))]) [0] rfl ?_
    exact w_X4_divide_J143 (r0 := r0) (c := e_19.2) hr0 hG h hK
  · replace h := it_n hc h
    refine aw_aload_n hG 0 rfl dX4_divide_138 rfl ?_
    refine aw_iconst (v := 1) hG dX4_divide_139 rfl ?_
    refine pt_rwX hG hr0 (Or.inr rfl) l_194 dX4_divide_140 ?_
    refine aw_stc (fun c_21 hc_21 => ?_)
    replace h := lt_r hc_21 h
    refine aw_sub (L' := [(0, .ref (wad (cxw g) (9 + 2 * r0)))]) [0] rfl ?_
    exact w_X4_divide_J143 (r0 := r0) (c := c_21) hr0 hG h hK
theorem c_X4_divide {c : CS} {m : MS} {z : Nat → Int64} {r0 : Nat} {x1 : Int32} {s : CS} (hr0 : r0 < 4) (h : f_X4_divide r0 x1 c = some s) : Ct yX4_divide cX4_divide 10 none 3 (fun w => [.ref (wad w (9 + 2 * r0)), .int x1]) (c, m, z) (fun _ => none) (s, m, z) := Ct_ofV (by decide +kernel) (fun _ => Nat.le_of_ble_eq_true rfl) (fun g hG hK => w_X4_divide hr0 hG h hK)
def f_X4_multiply_L24 (r0 : Nat) (x1 : Int32) (x2 : Int64) (x4 : Int32) (x5 : Int32) (c : CS) : Option ((Int64 × Int32 × CS) ⊕ ((Int64 × CS))) :=
  if x5 < x4 then
    some (.inr (x2, c))
  else
    if vI x5 156 then
      lt ((jshl ((rwL c r0 x5.toNatClampNeg).toInt64) x1) + x2) fun x6_4 =>
      lt (x6_4 / 1000000000) fun x2_5 =>
      if vI x5 156 then
        lt (srwL c r0 (upd (rwL c r0) x5.toNatClampNeg ((x6_4 - (x2_5 * 1000000000)).toInt32))) fun c_7 =>
        lt (x5 + (-1)) fun x5_8 =>
        some (.inl (x2_5, x5_8, c_7))
      else none
    else none
set_option maxRecDepth 20000 in
theorem w_X4_multiply_L24 {g : Cx} {mc ms : Nat} {c : CS} {m : MS} {z : Nat → Int64} {r0 : Nat} {x1 : Int32} {x2 : Int64} {x4 : Int32} {x5 : Int32} {s : ((Int64 × Int32 × CS) ⊕ ((Int64 × CS)))} (hr0 : r0 < 4) (hG : Gd g RX4 cX4_multiply 8 3 mc ms) (h : f_X4_multiply_L24 r0 x1 x2 x4 x5 c = some s) (hK : Sum.elim (fun a => AW g 24 [(0, .ref (wad (cxw g) (9 + 2 * r0))), (1, .int x1), (2, .long a.1), (4, .int x4), (5, .int a.2.1)] [] (a.2.2, m, z) 0 0) (fun e => AW g 74 [(0, .ref (wad (cxw g) (9 + 2 * r0))), (2, .long e.1)] [] (e.2, m, z) 0 0) s) : AW g 24 [(0, .ref (wad (cxw g) (9 + 2 * r0))), (1, .int x1), (2, .long x2), (4, .int x4), (5, .int x5)] [] (c, m, z) 0 0 := by
  unfold f_X4_multiply_L24 at h
  refine aw_iload hG 4 rfl dX4_multiply_24 ?_
  refine aw_iload hG 3 rfl dX4_multiply_26 ?_
  refine aw_icmp_lt (t := 74) hG dX4_multiply_28 rfl (fun hc => ?_) (fun hc => ?_)
  · replace h := it_p hc h
    obtain rfl := Option.some.inj h
    refine aw_sub (L' := [(0, .ref (wad (cxw g) (9 + 2 * r0))), (2, .long x2)]) [0, 2] rfl ?_
    exact hK
  · replace h := it_n hc h
    refine aw_aload_n hG 0 rfl dX4_multiply_31 rfl ?_
    refine gt_rwL hG hr0 l_71 dX4_multiply_32 ?_
    refine aw_iload hG 4 rfl dX4_multiply_35 ?_
    obtain ⟨hi_3, h⟩ := it_o h
    refine al_rwL (x := 0) hG hr0 hi_3 dX4_multiply_37 ?_
    refine aw_i2l hG dX4_multiply_38 ?_
    refine aw_iload_n hG 1 rfl dX4_multiply_39 rfl ?_
    refine aw_lshlJ hG dX4_multiply_40 ?_
    refine aw_lload_n hG 2 rfl dX4_multiply_41 rfl ?_
    refine aw_ladd hG dX4_multiply_42 ?_
    refine aw_topl (fun x6_4 hx6_4 => ?_)
    replace h := lt_r hx6_4 h
    refine aw_lstore (L' := [(6, .long x6_4), (0, .ref (wad (cxw g) (9 + 2 * r0))), (1, .int x1), (2, .long x2), (4, .int x4), (5, .int x5)]) hG dX4_multiply_43 (by decide) rfl ?_
    refine aw_lload hG 0 rfl dX4_multiply_45 ?_
    refine aw_ldc2 hG l_200 dX4_multiply_47 ?_
    refine aw_ldiv hG dX4_multiply_50 (by decide) ?_
    refine aw_topl (fun x2_5 hx2_5 => ?_)
    replace h := lt_r hx2_5 h
    refine aw_lstore_n (L' := [(2, .long x2_5), (6, .long x6_4), (0, .ref (wad (cxw g) (9 + 2 * r0))), (1, .int x1), (4, .int x4), (5, .int x5)]) hG dX4_multiply_51 rfl (by decide) rfl ?_
    refine aw_aload_n hG 2 rfl dX4_multiply_52 rfl ?_
    refine gt_rwL hG hr0 l_71 dX4_multiply_53 ?_
    refine aw_iload hG 5 rfl dX4_multiply_56 ?_
    refine aw_lload hG 1 rfl dX4_multiply_58 ?_
    refine aw_lload_n hG 0 rfl dX4_multiply_60 rfl ?_
    refine aw_ldc2 hG l_200 dX4_multiply_61 ?_
    refine aw_lmul hG dX4_multiply_64 ?_
    refine aw_lsub hG dX4_multiply_65 ?_
    refine aw_l2i hG dX4_multiply_66 ?_
    obtain ⟨hi_6, h⟩ := it_o h
    refine as_rwL hG hr0 hi_6 dX4_multiply_67 ?_
    refine aw_stc (fun c_7 hc_7 => ?_)
    replace h := lt_r hc_7 h
    obtain ⟨x5_8, hx5_8⟩ : ∃ y : Int32, y = x5 + (-1) := ⟨_, rfl⟩
    replace h := lt_r hx5_8 h
    refine aw_iinc (v := x5_8) (L' := [(5, .int x5_8), (2, .long x2_5), (6, .long x6_4), (0, .ref (wad (cxw g) (9 + 2 * r0))), (1, .int x1), (4, .int x4)]) hG 5 rfl dX4_multiply_68 (by rw [hx5_8]; rfl) (by decide) rfl ?_
    refine aw_goto (t := 24) hG dX4_multiply_71 rfl ?_
    obtain rfl := Option.some.inj h
    refine aw_sub (L' := [(0, .ref (wad (cxw g) (9 + 2 * r0))), (1, .int x1), (2, .long x2_5), (4, .int x4), (5, .int x5_8)]) [3, 4, 1, 5, 0] rfl ?_
    exact hK
noncomputable def f_X4_multiply (r0 : Nat) (x1 : Int32) (c : CS) : Option CS :=
  lt (f_JM_max (rwF c r0) 0) fun x4_1 =>
  lt (f_JM_min (rwE c r0) 155) fun x5_2 =>
  Option.bind (Lp (fun a => f_X4_multiply_L24 r0 x1 a.1 x4_1 a.2.1 a.2.2) (0, x5_2, c)) fun e_10 =>
  lt (f_X4_setLimb r0 ((rwF e_10.2 r0) - 1) e_10.1.toInt32 e_10.2) fun v_11 =>
  Option.bind (f_X4_trim r0 v_11) fun v_12 =>
  some v_12
set_option maxRecDepth 20000 in
theorem w_X4_multiply {g : Cx} {mc ms : Nat} {c : CS} {m : MS} {z : Nat → Int64} {r0 : Nat} {x1 : Int32} {s : CS} (hr0 : r0 < 4) (hG : Gd g RX4 cX4_multiply 8 3 mc ms) (h : f_X4_multiply r0 x1 c = some s) (hK : FinV g cX4_multiply mc ms (s, m, z)) : AW g 0 [(0, .ref (wad (cxw g) (9 + 2 * r0))), (1, .int x1)] [] (c, m, z) 0 0 := by
  unfold f_X4_multiply at h
  refine aw_lconst (v := 0) hG dX4_multiply_0 rfl ?_
  refine aw_lstore_n (L' := [(2, .long 0), (0, .ref (wad (cxw g) (9 + 2 * r0))), (1, .int x1)]) hG dX4_multiply_1 rfl (by decide) rfl ?_
  refine aw_aload_n hG 1 rfl dX4_multiply_2 rfl ?_
  refine gt_rwF hG hr0 l_72 dX4_multiply_3 ?_
  refine aw_iconst (v := 0) hG dX4_multiply_6 rfl ?_
  refine aw_callSi (As := [.int (rwF c r0), .int 0]) (rest := []) hG (c_JM_max (x0 := rwF c r0) (x1 := 0) (c := c) ) l_193 ws_JM_max rfl rfl rfl (by decide) (Nat.zero_le _) (Nat.zero_le _) (Nat.le_of_ble_eq_true rfl) dX4_multiply_7 ?_
  refine aw_topi (fun x4_1 hx4_1 => ?_)
  replace h := lt_r hx4_1 h
  refine aw_istore (L' := [(4, .int x4_1), (2, .long 0), (0, .ref (wad (cxw g) (9 + 2 * r0))), (1, .int x1)]) hG dX4_multiply_10 (by decide) rfl ?_
  refine aw_aload_n hG 2 rfl dX4_multiply_12 rfl ?_
  refine gt_rwE hG hr0 l_73 dX4_multiply_13 ?_
  refine aw_sipush (v := 155) hG dX4_multiply_16 rfl ?_
  refine aw_callSi (As := [.int (rwE c r0), .int 155]) (rest := []) hG (c_JM_min (x0 := rwE c r0) (x1 := 155) (c := c) ) l_192 ws_JM_min rfl rfl rfl (by decide) (Nat.zero_le _) (Nat.zero_le _) (Nat.le_of_ble_eq_true rfl) dX4_multiply_19 ?_
  refine aw_topi (fun x5_2 hx5_2 => ?_)
  replace h := lt_r hx5_2 h
  refine aw_istore (L' := [(5, .int x5_2), (4, .int x4_1), (2, .long 0), (0, .ref (wad (cxw g) (9 + 2 * r0))), (1, .int x1)]) hG dX4_multiply_22 (by decide) rfl ?_
  obtain ⟨e_10, he, h⟩ := bd_o h
  refine aw_sub (L' := [(0, .ref (wad (cxw g) (9 + 2 * r0))), (1, .int x1), (2, .long 0), (4, .int x4_1), (5, .int x5_2)]) [3, 4, 2, 1, 0] rfl ?_
  refine Lp_w (F := (fun a => f_X4_multiply_L24 r0 x1 a.1 x4_1 a.2.1 a.2.2)) (S := (fun a => AW g 24 [(0, .ref (wad (cxw g) (9 + 2 * r0))), (1, .int x1), (2, .long a.1), (4, .int x4_1), (5, .int a.2.1)] [] (a.2.2, m, z) 0 0)) (E := (fun e => AW g 74 [(0, .ref (wad (cxw g) (9 + 2 * r0))), (2, .long e.1)] [] (e.2, m, z) 0 0)) (a := (0, x5_2, c)) he (fun a s h hK => w_X4_multiply_L24 (r0 := r0) (x1 := x1) (x2 := a.1) (x4 := x4_1) (x5 := a.2.1) (c := a.2.2) hr0 hG h hK) ?_
  show AW g 74 _ _ _ 0 0
  refine aw_aload_n hG 0 rfl dX4_multiply_74 rfl ?_
  refine aw_aload_n hG 0 rfl dX4_multiply_75 rfl ?_
  refine gt_rwF hG hr0 l_72 dX4_multiply_76 ?_
  refine aw_iconst (v := 1) hG dX4_multiply_79 rfl ?_
  refine aw_isub hG dX4_multiply_80 ?_
  refine aw_lload_n hG 1 rfl dX4_multiply_81 rfl ?_
  refine aw_l2i hG dX4_multiply_82 ?_
  obtain ⟨v_11, hv_11⟩ : ∃ y, y = f_X4_setLimb r0 ((rwF e_10.2 r0) - 1) e_10.1.toInt32 e_10.2 := ⟨_, rfl⟩
  replace h := lt_r hv_11 h
  refine aw_callVv (As := [.int ((rwF e_10.2 r0) - 1), .int e_10.1.toInt32]) (rest := []) hG (c_X4_setLimb (r0 := r0) (x1 := (rwF e_10.2 r0) - 1) (x2 := e_10.1.toInt32) (c := e_10.2) hr0 hv_11.symm) l_201 wv_X4_setLimb (rv_X4 hG hr0) rfl rfl rfl (by decide) (Nat.zero_le _) (Nat.zero_le _) (Nat.le_of_ble_eq_true rfl) dX4_multiply_83 ?_
  refine aw_aload_n hG 0 rfl dX4_multiply_86 rfl ?_
  obtain ⟨v_12, hv_12, h⟩ := bd_o h
  refine aw_callVv (As := []) (rest := []) hG (c_X4_trim (r0 := r0) (c := v_11) hr0 hv_12) l_220 wv_X4_trim (rv_X4 hG hr0) rfl rfl rfl (by decide) (Nat.zero_le _) (Nat.zero_le _) (Nat.le_of_ble_eq_true rfl) dX4_multiply_87 ?_
  obtain rfl := Option.some.inj h
  exact FinV.z hK dX4_multiply_90
theorem c_X4_multiply {c : CS} {m : MS} {z : Nat → Int64} {r0 : Nat} {x1 : Int32} {s : CS} (hr0 : r0 < 4) (h : f_X4_multiply r0 x1 c = some s) : Ct yX4_multiply cX4_multiply 8 none 3 (fun w => [.ref (wad w (9 + 2 * r0)), .int x1]) (c, m, z) (fun _ => none) (s, m, z) := Ct_ofV (by decide +kernel) (fun _ => Nat.le_of_ble_eq_true rfl) (fun g hG hK => w_X4_multiply hr0 hG h hK)
noncomputable def f_X4_scale_L2 (r0 : Nat) (x1 : Int32) (x2 : Int32) (c : CS) : Option ((Int32 × CS) ⊕ (CS)) :=
  if x2 ≤ 0 then
    some (.inr c)
  else
    Option.bind (f_X4_multiply r0 (f_JM_min x2 29) c) fun v_1 =>
    lt (x2 + (-29)) fun x2_2 =>
    some (.inl (x2_2, v_1))
set_option maxRecDepth 20000 in
theorem w_X4_scale_L2 {g : Cx} {mc ms : Nat} {c : CS} {m : MS} {z : Nat → Int64} {r0 : Nat} {x1 : Int32} {x2 : Int32} {s : ((Int32 × CS) ⊕ (CS))} (hr0 : r0 < 4) (hG : Gd g RX4 cX4_scale 3 4 mc ms) (h : f_X4_scale_L2 r0 x1 x2 c = some s) (hK : Sum.elim (fun a => AW g 2 [(0, .ref (wad (cxw g) (9 + 2 * r0))), (1, .int x1), (2, .int a.1)] [] (a.2, m, z) 0 0) (fun e => AW g 22 [(0, .ref (wad (cxw g) (9 + 2 * r0))), (1, .int x1)] [] (e, m, z) 0 0) s) : AW g 2 [(0, .ref (wad (cxw g) (9 + 2 * r0))), (1, .int x1), (2, .int x2)] [] (c, m, z) 0 0 := by
  unfold f_X4_scale_L2 at h
  refine aw_iload_n hG 2 rfl dX4_scale_2 rfl ?_
  refine aw_if_le (t := 22) hG dX4_scale_3 rfl (fun hc => ?_) (fun hc => ?_)
  · replace h := it_p hc h
    obtain rfl := Option.some.inj h
    refine aw_sub (L' := [(0, .ref (wad (cxw g) (9 + 2 * r0))), (1, .int x1)]) [0, 1] rfl ?_
    exact hK
  · replace h := it_n hc h
    refine aw_aload_n hG 0 rfl dX4_scale_6 rfl ?_
    refine aw_iload_n hG 2 rfl dX4_scale_7 rfl ?_
    refine aw_bipush (v := 29) hG dX4_scale_8 rfl ?_
    refine aw_callSi (As := [.int x2, .int 29]) (rest := [.ref (wad (cxw g) (9 + 2 * r0))]) hG (c_JM_min (x0 := x2) (x1 := 29) (c := c) ) l_192 ws_JM_min rfl rfl rfl (by decide) (Nat.zero_le _) (Nat.zero_le _) (Nat.le_of_ble_eq_true rfl) dX4_scale_10 ?_
    obtain ⟨v_1, hv_1, h⟩ := bd_o h
    refine aw_callVv (As := [.int (f_JM_min x2 29)]) (rest := []) hG (c_X4_multiply (r0 := r0) (x1 := f_JM_min x2 29) (c := c) hr0 hv_1) l_225 wv_X4_multiply (rv_X4 hG hr0) rfl rfl rfl (by decide) (Nat.zero_le _) (Nat.zero_le _) (Nat.le_of_ble_eq_true rfl) dX4_scale_13 ?_
    obtain ⟨x2_2, hx2_2⟩ : ∃ y : Int32, y = x2 + (-29) := ⟨_, rfl⟩
    replace h := lt_r hx2_2 h
    refine aw_iinc (v := x2_2) (L' := [(2, .int x2_2), (0, .ref (wad (cxw g) (9 + 2 * r0))), (1, .int x1)]) hG 2 rfl dX4_scale_16 (by rw [hx2_2]; rfl) (by decide) rfl ?_
    refine aw_goto (t := 2) hG dX4_scale_19 rfl ?_
    obtain rfl := Option.some.inj h
    refine aw_sub (L' := [(0, .ref (wad (cxw g) (9 + 2 * r0))), (1, .int x1), (2, .int x2_2)]) [1, 2, 0] rfl ?_
    exact hK
noncomputable def f_X4_scale_L25 (r0 : Nat) (x2 : Int32) (c : CS) : Option ((Int32 × CS) ⊕ (CS)) :=
  if x2 ≤ 0 then
    some (.inr c)
  else
    Option.bind (f_X4_divide r0 (f_JM_min x2 29) c) fun v_6 =>
    lt (x2 + (-29)) fun x2_7 =>
    some (.inl (x2_7, v_6))
set_option maxRecDepth 20000 in
theorem w_X4_scale_L25 {g : Cx} {mc ms : Nat} {c : CS} {m : MS} {z : Nat → Int64} {r0 : Nat} {x2 : Int32} {s : ((Int32 × CS) ⊕ (CS))} (hr0 : r0 < 4) (hG : Gd g RX4 cX4_scale 3 4 mc ms) (h : f_X4_scale_L25 r0 x2 c = some s) (hK : Sum.elim (fun a => AW g 25 [(0, .ref (wad (cxw g) (9 + 2 * r0))), (2, .int a.1)] [] (a.2, m, z) 0 0) (fun e => AW g 45 [] [] (e, m, z) 0 0) s) : AW g 25 [(0, .ref (wad (cxw g) (9 + 2 * r0))), (2, .int x2)] [] (c, m, z) 0 0 := by
  unfold f_X4_scale_L25 at h
  refine aw_iload_n hG 1 rfl dX4_scale_25 rfl ?_
  refine aw_if_le (t := 45) hG dX4_scale_26 rfl (fun hc => ?_) (fun hc => ?_)
  · replace h := it_p hc h
    obtain rfl := Option.some.inj h
    refine aw_sub (L' := []) [] rfl ?_
    exact hK
  · replace h := it_n hc h
    refine aw_aload_n hG 0 rfl dX4_scale_29 rfl ?_
    refine aw_iload_n hG 1 rfl dX4_scale_30 rfl ?_
    refine aw_bipush (v := 29) hG dX4_scale_31 rfl ?_
    refine aw_callSi (As := [.int x2, .int 29]) (rest := [.ref (wad (cxw g) (9 + 2 * r0))]) hG (c_JM_min (x0 := x2) (x1 := 29) (c := c) ) l_192 ws_JM_min rfl rfl rfl (by decide) (Nat.zero_le _) (Nat.zero_le _) (Nat.le_of_ble_eq_true rfl) dX4_scale_33 ?_
    obtain ⟨v_6, hv_6, h⟩ := bd_o h
    refine aw_callVv (As := [.int (f_JM_min x2 29)]) (rest := []) hG (c_X4_divide (r0 := r0) (x1 := f_JM_min x2 29) (c := c) hr0 hv_6) l_230 wv_X4_divide (rv_X4 hG hr0) rfl rfl rfl (by decide) (Nat.zero_le _) (Nat.zero_le _) (Nat.le_of_ble_eq_true rfl) dX4_scale_36 ?_
    obtain ⟨x2_7, hx2_7⟩ : ∃ y : Int32, y = x2 + (-29) := ⟨_, rfl⟩
    replace h := lt_r hx2_7 h
    refine aw_iinc (v := x2_7) (L' := [(2, .int x2_7), (0, .ref (wad (cxw g) (9 + 2 * r0)))]) hG 1 rfl dX4_scale_39 (by rw [hx2_7]; rfl) (by decide) rfl ?_
    refine aw_goto (t := 25) hG dX4_scale_42 rfl ?_
    obtain rfl := Option.some.inj h
    refine aw_sub (L' := [(0, .ref (wad (cxw g) (9 + 2 * r0))), (2, .int x2_7)]) [1, 0] rfl ?_
    exact hK
noncomputable def f_X4_scale (r0 : Nat) (x1 : Int32) (c : CS) : Option CS :=
  Option.bind (Lp (fun a => f_X4_scale_L2 r0 x1 a.1 a.2) (x1, c)) fun e_4 =>
  lt (-x1) fun x2_5 =>
  Option.bind (Lp (fun a => f_X4_scale_L25 r0 a.1 a.2) (x2_5, e_4)) fun e_9 =>
  some e_9
set_option maxRecDepth 20000 in
theorem w_X4_scale {g : Cx} {mc ms : Nat} {c : CS} {m : MS} {z : Nat → Int64} {r0 : Nat} {x1 : Int32} {s : CS} (hr0 : r0 < 4) (hG : Gd g RX4 cX4_scale 3 4 mc ms) (h : f_X4_scale r0 x1 c = some s) (hK : FinV g cX4_scale mc ms (s, m, z)) : AW g 0 [(0, .ref (wad (cxw g) (9 + 2 * r0))), (1, .int x1)] [] (c, m, z) 0 0 := by
  unfold f_X4_scale at h
  refine aw_iload_n hG 1 rfl dX4_scale_0 rfl ?_
  refine aw_istore_n (L' := [(2, .int x1), (0, .ref (wad (cxw g) (9 + 2 * r0))), (1, .int x1)]) hG dX4_scale_1 rfl (by decide) rfl ?_
  obtain ⟨e_4, he, h⟩ := bd_o h
  refine aw_sub (L' := [(0, .ref (wad (cxw g) (9 + 2 * r0))), (1, .int x1), (2, .int x1)]) [1, 2, 0] rfl ?_
  refine Lp_w (F := (fun a => f_X4_scale_L2 r0 x1 a.1 a.2)) (S := (fun a => AW g 2 [(0, .ref (wad (cxw g) (9 + 2 * r0))), (1, .int x1), (2, .int a.1)] [] (a.2, m, z) 0 0)) (E := (fun e => AW g 22 [(0, .ref (wad (cxw g) (9 + 2 * r0))), (1, .int x1)] [] (e, m, z) 0 0)) (a := (x1, c)) he (fun a s h hK => w_X4_scale_L2 (r0 := r0) (x1 := x1) (x2 := a.1) (c := a.2) hr0 hG h hK) ?_
  show AW g 22 _ _ _ 0 0
  refine aw_iload_n hG 1 rfl dX4_scale_22 rfl ?_
  refine aw_ineg hG dX4_scale_23 ?_
  refine aw_topi (fun x2_5 hx2_5 => ?_)
  replace h := lt_r hx2_5 h
  refine aw_istore_n (L' := [(2, .int x2_5), (0, .ref (wad (cxw g) (9 + 2 * r0))), (1, .int x1)]) hG dX4_scale_24 rfl (by decide) rfl ?_
  obtain ⟨e_9, he, h⟩ := bd_o h
  refine aw_sub (L' := [(0, .ref (wad (cxw g) (9 + 2 * r0))), (2, .int x2_5)]) [1, 0] rfl ?_
  refine Lp_w (F := (fun a => f_X4_scale_L25 r0 a.1 a.2)) (S := (fun a => AW g 25 [(0, .ref (wad (cxw g) (9 + 2 * r0))), (2, .int a.1)] [] (a.2, m, z) 0 0)) (E := (fun e => AW g 45 [] [] (e, m, z) 0 0)) (a := (x2_5, e_4)) he (fun a s h hK => w_X4_scale_L25 (r0 := r0) (x2 := a.1) (c := a.2) hr0 hG h hK) ?_
  show AW g 45 _ _ _ 0 0
  obtain rfl := Option.some.inj h
  exact FinV.z hK dX4_scale_45
theorem c_X4_scale {c : CS} {m : MS} {z : Nat → Int64} {r0 : Nat} {x1 : Int32} {s : CS} (hr0 : r0 < 4) (h : f_X4_scale r0 x1 c = some s) : Ct yX4_scale cX4_scale 3 none 4 (fun w => [.ref (wad w (9 + 2 * r0)), .int x1]) (c, m, z) (fun _ => none) (s, m, z) := Ct_ofV (by decide +kernel) (fun _ => Nat.le_of_ble_eq_true rfl) (fun g hG hK => w_X4_scale hr0 hG h hK)
def f_X4_point_L20 (r0 : Nat) (x1 : Int32) (x2 : Int32) (c : CS) : Option ((Int32) ⊕ (Int32)) :=
  if 9 ≤ x2 then
    some (.inr x2)
  else
    if x1 < (f_X4_tenOf x2) then
      some (.inr x2)
    else
      lt (x2 + 1) fun x2_2 =>
      some (.inl x2_2)
set_option maxRecDepth 20000 in
theorem w_X4_point_L20 {g : Cx} {mc ms : Nat} {c : CS} {m : MS} {z : Nat → Int64} {r0 : Nat} {x1 : Int32} {x2 : Int32} {s : ((Int32) ⊕ (Int32))} (hr0 : r0 < 4) (hG : Gd g RX4 cX4_point 3 3 mc ms) (h : f_X4_point_L20 r0 x1 x2 c = some s) (hK : Sum.elim (fun a => AW g 20 [(0, .ref (wad (cxw g) (9 + 2 * r0))), (1, .int x1), (2, .int a)] [] (c, m, z) 0 0) (fun e => AW g 40 [(0, .ref (wad (cxw g) (9 + 2 * r0))), (2, .int e)] [] (c, m, z) 0 0) s) : AW g 20 [(0, .ref (wad (cxw g) (9 + 2 * r0))), (1, .int x1), (2, .int x2)] [] (c, m, z) 0 0 := by
  unfold f_X4_point_L20 at h
  refine aw_iload_n hG 2 rfl dX4_point_20 rfl ?_
  refine aw_bipush (v := 9) hG dX4_point_21 rfl ?_
  refine aw_icmp_ge (t := 40) hG dX4_point_23 rfl (fun hc => ?_) (fun hc => ?_)
  · replace h := it_p hc h
    obtain rfl := Option.some.inj h
    refine aw_sub (L' := [(0, .ref (wad (cxw g) (9 + 2 * r0))), (2, .int x2)]) [0, 2] rfl ?_
    exact hK
  · replace h := it_n hc h
    refine aw_iload_n hG 1 rfl dX4_point_26 rfl ?_
    refine aw_iload_n hG 2 rfl dX4_point_27 rfl ?_
    refine aw_callSi (As := [.int x2]) (rest := [.int x1]) hG (c_X4_tenOf (x0 := x2) (c := c) ) l_89 ws_X4_tenOf rfl rfl rfl (by decide) (Nat.zero_le _) (Nat.zero_le _) (Nat.le_of_ble_eq_true rfl) dX4_point_28 ?_
    refine aw_icmp_lt (t := 40) hG dX4_point_31 rfl (fun hc => ?_) (fun hc => ?_)
    · replace h := it_p hc h
      obtain rfl := Option.some.inj h
      refine aw_sub (L' := [(0, .ref (wad (cxw g) (9 + 2 * r0))), (2, .int x2)]) [0, 2] rfl ?_
      exact hK
    · replace h := it_n hc h
      obtain ⟨x2_2, hx2_2⟩ : ∃ y : Int32, y = x2 + 1 := ⟨_, rfl⟩
      replace h := lt_r hx2_2 h
      refine aw_iinc (v := x2_2) (L' := [(2, .int x2_2), (0, .ref (wad (cxw g) (9 + 2 * r0))), (1, .int x1)]) hG 2 rfl dX4_point_34 (by rw [hx2_2]; rfl) (by decide) rfl ?_
      refine aw_goto (t := 20) hG dX4_point_37 rfl ?_
      obtain rfl := Option.some.inj h
      refine aw_sub (L' := [(0, .ref (wad (cxw g) (9 + 2 * r0))), (1, .int x1), (2, .int x2_2)]) [1, 2, 0] rfl ?_
      exact hK
noncomputable def f_X4_point (r0 : Nat) (c : CS) : Option Int32 :=
  if (f_X4_isEmpty r0 c) = 0 then
    lt (f_X4_limbAt r0 (rwF c r0) c) fun x1_1 =>
    Option.bind (Lp (fun a => f_X4_point_L20 r0 x1_1 a c) 1) fun e_5 =>
    some (((35 - (rwF c r0)) * 9) + e_5)
  else
    some 1
set_option maxRecDepth 20000 in
theorem w_X4_point {g : Cx} {mc ms : Nat} {c : CS} {m : MS} {z : Nat → Int64} {r0 : Nat} {s : Int32} (hr0 : r0 < 4) (hG : Gd g RX4 cX4_point 3 3 mc ms) (h : f_X4_point r0 c = some s) (hK : FinI g cX4_point mc ms s (c, m, z)) : AW g 0 [(0, .ref (wad (cxw g) (9 + 2 * r0)))] [] (c, m, z) 0 0 := by
  unfold f_X4_point at h
  refine aw_aload_n hG 0 rfl dX4_point_0 rfl ?_
  refine aw_callVi (As := []) (rest := []) hG (c_X4_isEmpty (r0 := r0) (c := c) hr0) l_79 wv_X4_isEmpty (rv_X4 hG hr0) rfl rfl rfl (by decide) (Nat.zero_le _) (Nat.zero_le _) (Nat.le_of_ble_eq_true rfl) dX4_point_1 ?_
  refine aw_if_eq (t := 9) hG dX4_point_4 rfl (fun hc => ?_) (fun hc => ?_)
  · replace h := it_p hc h
    refine aw_aload_n hG 0 rfl dX4_point_9 rfl ?_
    refine aw_aload_n hG 0 rfl dX4_point_10 rfl ?_
    refine gt_rwF hG hr0 l_72 dX4_point_11 ?_
    refine aw_callVi (As := [.int (rwF c r0)]) (rest := []) hG (c_X4_limbAt (r0 := r0) (x1 := rwF c r0) (c := c) hr0) l_84 wv_X4_limbAt (rv_X4 hG hr0) rfl rfl rfl (by decide) (Nat.zero_le _) (Nat.zero_le _) (Nat.le_of_ble_eq_true rfl) dX4_point_14 ?_
    refine aw_topi (fun x1_1 hx1_1 => ?_)
    replace h := lt_r hx1_1 h
    refine aw_istore_n (L' := [(1, .int x1_1), (0, .ref (wad (cxw g) (9 + 2 * r0)))]) hG dX4_point_17 rfl (by decide) rfl ?_
    refine aw_iconst (v := 1) hG dX4_point_18 rfl ?_
    refine aw_istore_n (L' := [(2, .int 1), (1, .int x1_1), (0, .ref (wad (cxw g) (9 + 2 * r0)))]) hG dX4_point_19 rfl (by decide) rfl ?_
    obtain ⟨e_5, he, h⟩ := bd_o h
    refine aw_sub (L' := [(0, .ref (wad (cxw g) (9 + 2 * r0))), (1, .int x1_1), (2, .int 1)]) [2, 1, 0] rfl ?_
    refine Lp_w (F := (fun a => f_X4_point_L20 r0 x1_1 a c)) (S := (fun a => AW g 20 [(0, .ref (wad (cxw g) (9 + 2 * r0))), (1, .int x1_1), (2, .int a)] [] (c, m, z) 0 0)) (E := (fun e => AW g 40 [(0, .ref (wad (cxw g) (9 + 2 * r0))), (2, .int e)] [] (c, m, z) 0 0)) (a := 1) he (fun a s h hK => w_X4_point_L20 (r0 := r0) (x1 := x1_1) (x2 := a) (c := c) hr0 hG h hK) ?_
    show AW g 40 _ _ _ 0 0
    refine aw_bipush (v := 35) hG dX4_point_40 rfl ?_
    refine aw_aload_n hG 0 rfl dX4_point_42 rfl ?_
    refine gt_rwF hG hr0 l_72 dX4_point_43 ?_
    refine aw_isub hG dX4_point_46 ?_
    refine aw_bipush (v := 9) hG dX4_point_47 rfl ?_
    refine aw_imul hG dX4_point_49 ?_
    refine aw_iload_n hG 1 rfl dX4_point_50 rfl ?_
    refine aw_iadd hG dX4_point_51 ?_
    obtain rfl := Option.some.inj h
    exact FinI.z hK dX4_point_52
  · replace h := it_n hc h
    refine aw_iconst (v := 1) hG dX4_point_7 rfl ?_
    obtain rfl := Option.some.inj h
    exact FinI.z hK dX4_point_8
theorem c_X4_point {c : CS} {m : MS} {z : Nat → Int64} {r0 : Nat} {s : Int32} (hr0 : r0 < 4) (h : f_X4_point r0 c = some s) : Ct yX4_point cX4_point 3 (some .int) 3 (fun w => [.ref (wad w (9 + 2 * r0))]) (c, m, z) (fun _ => some (.int s)) (c, m, z) := Ct_ofI (by decide +kernel) (fun _ => Nat.le_of_ble_eq_true rfl) (fun g hG hK => w_X4_point hr0 hG h hK)
def f_X4_lowest_L22 (x1 : Int32) (x2 : Int32) (x3 : Int32) (c : CS) : Option ((Int32 × Int32 × Int32) ⊕ (Int32)) :=
  if 9 ≤ x3 then
    some (.inr x1)
  else
    if (irm x2 10) = 0 then
      lt (x2 / 10) fun x2_3 =>
      lt (x1 + 1) fun x1_4 =>
      lt (x3 + 1) fun x3_5 =>
      some (.inl (x1_4, x2_3, x3_5))
    else
      some (.inr x1)
set_option maxRecDepth 20000 in
theorem w_X4_lowest_L22 {g : Cx} {mc ms : Nat} {c : CS} {m : MS} {z : Nat → Int64} {x1 : Int32} {x2 : Int32} {x3 : Int32} {s : ((Int32 × Int32 × Int32) ⊕ (Int32))}  (hG : Gd g RX4 cX4_lowest 4 2 mc ms) (h : f_X4_lowest_L22 x1 x2 x3 c = some s) (hK : Sum.elim (fun a => AW g 22 [(1, .int a.1), (2, .int a.2.1), (3, .int a.2.2)] [] (c, m, z) 0 0) (fun e => AW g 49 [(1, .int e)] [] (c, m, z) 0 0) s) : AW g 22 [(1, .int x1), (2, .int x2), (3, .int x3)] [] (c, m, z) 0 0 := by
  unfold f_X4_lowest_L22 at h
  refine aw_iload_n hG 2 rfl dX4_lowest_22 rfl ?_
  refine aw_bipush (v := 9) hG dX4_lowest_23 rfl ?_
  refine aw_icmp_ge (t := 49) hG dX4_lowest_25 rfl (fun hc => ?_) (fun hc => ?_)
  · replace h := it_p hc h
    obtain rfl := Option.some.inj h
    refine aw_sub (L' := [(1, .int x1)]) [0] rfl ?_
    exact hK
  · replace h := it_n hc h
    refine aw_iload_n hG 1 rfl dX4_lowest_28 rfl ?_
    refine aw_bipush (v := 10) hG dX4_lowest_29 rfl ?_
    refine aw_iremJ hG dX4_lowest_31 (by decide) ?_
    refine aw_if_ne (t := 49) hG dX4_lowest_32 rfl (fun hc => ?_) (fun hc => ?_)
    · replace h := it_n hc h
      obtain rfl := Option.some.inj h
      refine aw_sub (L' := [(1, .int x1)]) [0] rfl ?_
      exact hK
    · replace h := it_p hc h
      refine aw_iload_n hG 1 rfl dX4_lowest_35 rfl ?_
      refine aw_bipush (v := 10) hG dX4_lowest_36 rfl ?_
      refine aw_idiv hG dX4_lowest_38 (by decide) ?_
      refine aw_topi (fun x2_3 hx2_3 => ?_)
      replace h := lt_r hx2_3 h
      refine aw_istore_n (L' := [(2, .int x2_3), (1, .int x1), (3, .int x3)]) hG dX4_lowest_39 rfl (by decide) rfl ?_
      obtain ⟨x1_4, hx1_4⟩ : ∃ y : Int32, y = x1 + 1 := ⟨_, rfl⟩
      replace h := lt_r hx1_4 h
      refine aw_iinc (v := x1_4) (L' := [(1, .int x1_4), (2, .int x2_3), (3, .int x3)]) hG 1 rfl dX4_lowest_40 (by rw [hx1_4]; rfl) (by decide) rfl ?_
      obtain ⟨x3_5, hx3_5⟩ : ∃ y : Int32, y = x3 + 1 := ⟨_, rfl⟩
      replace h := lt_r hx3_5 h
      refine aw_iinc (v := x3_5) (L' := [(3, .int x3_5), (1, .int x1_4), (2, .int x2_3)]) hG 2 rfl dX4_lowest_43 (by rw [hx3_5]; rfl) (by decide) rfl ?_
      refine aw_goto (t := 22) hG dX4_lowest_46 rfl ?_
      obtain rfl := Option.some.inj h
      refine aw_sub (L' := [(1, .int x1_4), (2, .int x2_3), (3, .int x3_5)]) [1, 2, 0] rfl ?_
      exact hK
noncomputable def f_X4_lowest (r0 : Nat) (c : CS) : Option Int32 :=
  lt ((35 - (rwE c r0)) * 9) fun x1_1 =>
  lt (f_X4_limbAt r0 (rwE c r0) c) fun x2_2 =>
  Option.bind (Lp (fun a => f_X4_lowest_L22 a.1 a.2.1 a.2.2 c) (x1_1, x2_2, 1)) fun e_8 =>
  some e_8
set_option maxRecDepth 20000 in
theorem w_X4_lowest {g : Cx} {mc ms : Nat} {c : CS} {m : MS} {z : Nat → Int64} {r0 : Nat} {s : Int32} (hr0 : r0 < 4) (hG : Gd g RX4 cX4_lowest 4 2 mc ms) (h : f_X4_lowest r0 c = some s) (hK : FinI g cX4_lowest mc ms s (c, m, z)) : AW g 0 [(0, .ref (wad (cxw g) (9 + 2 * r0)))] [] (c, m, z) 0 0 := by
  unfold f_X4_lowest at h
  refine aw_bipush (v := 35) hG dX4_lowest_0 rfl ?_
  refine aw_aload_n hG 0 rfl dX4_lowest_2 rfl ?_
  refine gt_rwE hG hr0 l_73 dX4_lowest_3 ?_
  refine aw_isub hG dX4_lowest_6 ?_
  refine aw_bipush (v := 9) hG dX4_lowest_7 rfl ?_
  refine aw_imul hG dX4_lowest_9 ?_
  refine aw_topi (fun x1_1 hx1_1 => ?_)
  replace h := lt_r hx1_1 h
  refine aw_istore_n (L' := [(1, .int x1_1), (0, .ref (wad (cxw g) (9 + 2 * r0)))]) hG dX4_lowest_10 rfl (by decide) rfl ?_
  refine aw_aload_n hG 1 rfl dX4_lowest_11 rfl ?_
  refine aw_aload_n hG 1 rfl dX4_lowest_12 rfl ?_
  refine gt_rwE hG hr0 l_73 dX4_lowest_13 ?_
  refine aw_callVi (As := [.int (rwE c r0)]) (rest := []) hG (c_X4_limbAt (r0 := r0) (x1 := rwE c r0) (c := c) hr0) l_84 wv_X4_limbAt (rv_X4 hG hr0) rfl rfl rfl (by decide) (Nat.zero_le _) (Nat.zero_le _) (Nat.le_of_ble_eq_true rfl) dX4_lowest_16 ?_
  refine aw_topi (fun x2_2 hx2_2 => ?_)
  replace h := lt_r hx2_2 h
  refine aw_istore_n (L' := [(2, .int x2_2), (1, .int x1_1), (0, .ref (wad (cxw g) (9 + 2 * r0)))]) hG dX4_lowest_19 rfl (by decide) rfl ?_
  refine aw_iconst (v := 1) hG dX4_lowest_20 rfl ?_
  refine aw_istore_n (L' := [(3, .int 1), (2, .int x2_2), (1, .int x1_1), (0, .ref (wad (cxw g) (9 + 2 * r0)))]) hG dX4_lowest_21 rfl (by decide) rfl ?_
  obtain ⟨e_8, he, h⟩ := bd_o h
  refine aw_sub (L' := [(1, .int x1_1), (2, .int x2_2), (3, .int 1)]) [2, 1, 0] rfl ?_
  refine Lp_w (F := (fun a => f_X4_lowest_L22 a.1 a.2.1 a.2.2 c)) (S := (fun a => AW g 22 [(1, .int a.1), (2, .int a.2.1), (3, .int a.2.2)] [] (c, m, z) 0 0)) (E := (fun e => AW g 49 [(1, .int e)] [] (c, m, z) 0 0)) (a := (x1_1, x2_2, 1)) he (fun a s h hK => w_X4_lowest_L22 (x1 := a.1) (x2 := a.2.1) (x3 := a.2.2) (c := c) hG h hK) ?_
  show AW g 49 _ _ _ 0 0
  refine aw_iload_n hG 0 rfl dX4_lowest_49 rfl ?_
  obtain rfl := Option.some.inj h
  exact FinI.z hK dX4_lowest_50
theorem c_X4_lowest {c : CS} {m : MS} {z : Nat → Int64} {r0 : Nat} {s : Int32} (hr0 : r0 < 4) (h : f_X4_lowest r0 c = some s) : Ct yX4_lowest cX4_lowest 4 (some .int) 2 (fun w => [.ref (wad w (9 + 2 * r0))]) (c, m, z) (fun _ => some (.int s)) (c, m, z) := Ct_ofI (by decide +kernel) (fun _ => Nat.le_of_ble_eq_true rfl) (fun g hG hK => w_X4_lowest hr0 hG h hK)
noncomputable def f_X4_significant (r0 : Nat) (c : CS) : Option Int32 :=
  if (f_X4_isEmpty r0 c) = 0 then
    Option.bind (f_X4_point r0 c) fun v_1 =>
    Option.bind (f_X4_lowest r0 c) fun v_2 =>
    some (v_1 - v_2)
  else
    some 1
set_option maxRecDepth 20000 in
theorem w_X4_significant {g : Cx} {mc ms : Nat} {c : CS} {m : MS} {z : Nat → Int64} {r0 : Nat} {s : Int32} (hr0 : r0 < 4) (hG : Gd g RX4 cX4_significant 1 4 mc ms) (h : f_X4_significant r0 c = some s) (hK : FinI g cX4_significant mc ms s (c, m, z)) : AW g 0 [(0, .ref (wad (cxw g) (9 + 2 * r0)))] [] (c, m, z) 0 0 := by
  unfold f_X4_significant at h
  refine aw_aload_n hG 0 rfl dX4_significant_0 rfl ?_
  refine aw_callVi (As := []) (rest := []) hG (c_X4_isEmpty (r0 := r0) (c := c) hr0) l_79 wv_X4_isEmpty (rv_X4 hG hr0) rfl rfl rfl (by decide) (Nat.zero_le _) (Nat.zero_le _) (Nat.le_of_ble_eq_true rfl) dX4_significant_1 ?_
  refine aw_if_eq (t := 11) hG dX4_significant_4 rfl (fun hc => ?_) (fun hc => ?_)
  · replace h := it_p hc h
    refine aw_aload_n hG 0 rfl dX4_significant_11 rfl ?_
    obtain ⟨v_1, hv_1, h⟩ := bd_o h
    refine aw_callVi (As := []) (rest := []) hG (c_X4_point (r0 := r0) (c := c) hr0 hv_1) l_93 wv_X4_point (rv_X4 hG hr0) rfl rfl rfl (by decide) (Nat.zero_le _) (Nat.zero_le _) (Nat.le_of_ble_eq_true rfl) dX4_significant_12 ?_
    refine aw_aload_n hG 0 rfl dX4_significant_15 rfl ?_
    obtain ⟨v_2, hv_2, h⟩ := bd_o h
    refine aw_callVi (As := []) (rest := [.int v_1]) hG (c_X4_lowest (r0 := r0) (c := c) hr0 hv_2) l_235 wv_X4_lowest (rv_X4 hG hr0) rfl rfl rfl (by decide) (Nat.zero_le _) (Nat.zero_le _) (Nat.le_of_ble_eq_true rfl) dX4_significant_16 ?_
    refine aw_isub hG dX4_significant_19 ?_
    obtain rfl := Option.some.inj h
    exact FinI.z hK dX4_significant_20
  · replace h := it_n hc h
    refine aw_iconst (v := 1) hG dX4_significant_7 rfl ?_
    refine aw_goto (t := 20) hG dX4_significant_8 rfl ?_
    obtain rfl := Option.some.inj h
    exact FinI.z hK dX4_significant_20
theorem c_X4_significant {c : CS} {m : MS} {z : Nat → Int64} {r0 : Nat} {s : Int32} (hr0 : r0 < 4) (h : f_X4_significant r0 c = some s) : Ct yX4_significant cX4_significant 1 (some .int) 4 (fun w => [.ref (wad w (9 + 2 * r0))]) (c, m, z) (fun _ => some (.int s)) (c, m, z) := Ct_ofI (by decide +kernel) (fun _ => Nat.le_of_ble_eq_true rfl) (fun g hG hK => w_X4_significant hr0 hG h hK)
def f_X4_giveDigits_L26 (r0 : Nat) (x2 : Int32) (x3 : Int32) (x4 : Int32) (x5 : Int32) (x6 : Int32) (c : CS) : Option ((Int32 × Int32 × Int32 × Int32 × CS) ⊕ (CS)) :=
  if x2 ≤ x6 then
    some (.inr c)
  else
    if 1420 ≤ x6 then
      some (.inr c)
    else
      if x5 ≤ 0 then
        some (.inr c)
      else
        if ¬ x5 = 0 then
          if vI x6 1420 then
            lt (sdcD c (upd (dcD c) x6.toNatClampNeg (vp_nar .byte (i2by (irm (x4 / x5) 10))))) fun c_7 =>
            lt (x5 / 10) fun x5_8 =>
            if x5_8 = 0 then
              lt (x3 + 1) fun x3_10 =>
              lt (f_X4_limbAt r0 x3_10 c_7) fun x4_11 =>
              lt (x6 + 1) fun x6_12 =>
              some (.inl (x3_10, x4_11, 100000000, x6_12, c_7))
            else
              lt (x6 + 1) fun x6_9 =>
              some (.inl (x3, x4, x5_8, x6_9, c_7))
          else none
        else none
set_option maxRecDepth 20000 in
theorem w_X4_giveDigits_L26 {g : Cx} {mc ms : Nat} {c : CS} {m : MS} {z : Nat → Int64} {r0 : Nat} {x2 : Int32} {x3 : Int32} {x4 : Int32} {x5 : Int32} {x6 : Int32} {s : ((Int32 × Int32 × Int32 × Int32 × CS) ⊕ (CS))} (hr0 : r0 < 4) (hG : Gd g RX4 cX4_giveDigits 7 4 mc ms) (h : f_X4_giveDigits_L26 r0 x2 x3 x4 x5 x6 c = some s) (hK : Sum.elim (fun a => AW g 26 [(0, .ref (wad (cxw g) (9 + 2 * r0))), (1, .ref (wad (cxw g) 6)), (2, .int x2), (3, .int a.1), (4, .int a.2.1), (5, .int a.2.2.1), (6, .int a.2.2.2.1)] [] (a.2.2.2.2, m, z) 0 0) (fun e => AW g 89 [] [] (e, m, z) 0 0) s) : AW g 26 [(0, .ref (wad (cxw g) (9 + 2 * r0))), (1, .ref (wad (cxw g) 6)), (2, .int x2), (3, .int x3), (4, .int x4), (5, .int x5), (6, .int x6)] [] (c, m, z) 0 0 := by
  unfold f_X4_giveDigits_L26 at h
  refine aw_iload hG 6 rfl dX4_giveDigits_26 ?_
  refine aw_iload_n hG 2 rfl dX4_giveDigits_28 rfl ?_
  refine aw_icmp_ge (t := 89) hG dX4_giveDigits_29 rfl (fun hc => ?_) (fun hc => ?_)
  · replace h := it_p hc h
    obtain rfl := Option.some.inj h
    refine aw_sub (L' := []) [] rfl ?_
    exact hK
  · replace h := it_n hc h
    refine aw_iload hG 6 rfl dX4_giveDigits_32 ?_
    refine aw_aload_n hG 1 rfl dX4_giveDigits_34 rfl ?_
    refine an_dcD hG dX4_giveDigits_35 ?_
    refine aw_icmp_ge (t := 89) hG dX4_giveDigits_36 rfl (fun hc => ?_) (fun hc => ?_)
    · replace h := it_p hc h
      obtain rfl := Option.some.inj h
      refine aw_sub (L' := []) [] rfl ?_
      exact hK
    · replace h := it_n hc h
      refine aw_iload hG 5 rfl dX4_giveDigits_39 ?_
      refine aw_if_le (t := 89) hG dX4_giveDigits_41 rfl (fun hc => ?_) (fun hc => ?_)
      · replace h := it_p hc h
        obtain rfl := Option.some.inj h
        refine aw_sub (L' := []) [] rfl ?_
        exact hK
      · replace h := it_n hc h
        refine aw_aload_n hG 1 rfl dX4_giveDigits_44 rfl ?_
        refine aw_iload hG 6 rfl dX4_giveDigits_45 ?_
        refine aw_iload hG 4 rfl dX4_giveDigits_47 ?_
        refine aw_iload hG 5 rfl dX4_giveDigits_49 ?_
        obtain ⟨hz_5, h⟩ := it_o h
        refine aw_idiv hG dX4_giveDigits_51 hz_5 ?_
        refine aw_bipush (v := 10) hG dX4_giveDigits_52 rfl ?_
        refine aw_iremJ hG dX4_giveDigits_54 (by decide) ?_
        refine aw_i2bJ hG dX4_giveDigits_55 ?_
        obtain ⟨hi_6, h⟩ := it_o h
        refine as_dcD hG hi_6 dX4_giveDigits_56 ?_
        refine aw_stc (fun c_7 hc_7 => ?_)
        replace h := lt_r hc_7 h
        refine aw_iload hG 5 rfl dX4_giveDigits_57 ?_
        refine aw_bipush (v := 10) hG dX4_giveDigits_59 rfl ?_
        refine aw_idiv hG dX4_giveDigits_61 (by decide) ?_
        refine aw_topi (fun x5_8 hx5_8 => ?_)
        replace h := lt_r hx5_8 h
        refine aw_istore (L' := [(5, .int x5_8), (0, .ref (wad (cxw g) (9 + 2 * r0))), (1, .ref (wad (cxw g) 6)), (2, .int x2), (3, .int x3), (4, .int x4), (6, .int x6)]) hG dX4_giveDigits_62 (by decide) rfl ?_
        refine aw_iload hG 0 rfl dX4_giveDigits_64 ?_
        refine aw_if_ne (t := 83) hG dX4_giveDigits_66 rfl (fun hc => ?_) (fun hc => ?_)
        · replace h := it_n hc h
          obtain ⟨x6_9, hx6_9⟩ : ∃ y : Int32, y = x6 + 1 := ⟨_, rfl⟩
          replace h := lt_r hx6_9 h
          refine aw_iinc (v := x6_9) (L' := [(6, .int x6_9), (5, .int x5_8), (0, .ref (wad (cxw g) (9 + 2 * r0))), (1, .ref (wad (cxw g) 6)), (2, .int x2), (3, .int x3), (4, .int x4)]) hG 6 rfl dX4_giveDigits_83 (by rw [hx6_9]; rfl) (by decide) rfl ?_
          refine aw_goto (t := 26) hG dX4_giveDigits_86 rfl ?_
          obtain rfl := Option.some.inj h
          refine aw_sub (L' := [(0, .ref (wad (cxw g) (9 + 2 * r0))), (1, .ref (wad (cxw g) 6)), (2, .int x2), (3, .int x3), (4, .int x4), (5, .int x5_8), (6, .int x6_9)]) [2, 3, 4, 5, 6, 1, 0] rfl ?_
          exact hK
        · replace h := it_p hc h
          obtain ⟨x3_10, hx3_10⟩ : ∃ y : Int32, y = x3 + 1 := ⟨_, rfl⟩
          replace h := lt_r hx3_10 h
          refine aw_iinc (v := x3_10) (L' := [(3, .int x3_10), (5, .int x5_8), (0, .ref (wad (cxw g) (9 + 2 * r0))), (1, .ref (wad (cxw g) 6)), (2, .int x2), (4, .int x4), (6, .int x6)]) hG 4 rfl dX4_giveDigits_69 (by rw [hx3_10]; rfl) (by decide) rfl ?_
          refine aw_aload_n hG 2 rfl dX4_giveDigits_72 rfl ?_
          refine aw_iload_n hG 0 rfl dX4_giveDigits_73 rfl ?_
          refine aw_callVi (As := [.int x3_10]) (rest := []) hG (c_X4_limbAt (r0 := r0) (x1 := x3_10) (c := c_7) hr0) l_84 wv_X4_limbAt (rv_X4 hG hr0) rfl rfl rfl (by decide) (Nat.zero_le _) (Nat.zero_le _) (Nat.le_of_ble_eq_true rfl) dX4_giveDigits_74 ?_
          refine aw_topi (fun x4_11 hx4_11 => ?_)
          replace h := lt_r hx4_11 h
          refine aw_istore (L' := [(4, .int x4_11), (3, .int x3_10), (5, .int x5_8), (0, .ref (wad (cxw g) (9 + 2 * r0))), (1, .ref (wad (cxw g) 6)), (2, .int x2), (6, .int x6)]) hG dX4_giveDigits_77 (by decide) rfl ?_
          refine aw_ldc hG l_98 dX4_giveDigits_79 ?_
          refine aw_istore (L' := [(5, .int 100000000), (4, .int x4_11), (3, .int x3_10), (0, .ref (wad (cxw g) (9 + 2 * r0))), (1, .ref (wad (cxw g) 6)), (2, .int x2), (6, .int x6)]) hG dX4_giveDigits_81 (by decide) rfl ?_
          obtain ⟨x6_12, hx6_12⟩ : ∃ y : Int32, y = x6 + 1 := ⟨_, rfl⟩
          replace h := lt_r hx6_12 h
          refine aw_iinc (v := x6_12) (L' := [(6, .int x6_12), (5, .int 100000000), (4, .int x4_11), (3, .int x3_10), (0, .ref (wad (cxw g) (9 + 2 * r0))), (1, .ref (wad (cxw g) 6)), (2, .int x2)]) hG 6 rfl dX4_giveDigits_83 (by rw [hx6_12]; rfl) (by decide) rfl ?_
          refine aw_goto (t := 26) hG dX4_giveDigits_86 rfl ?_
          obtain rfl := Option.some.inj h
          refine aw_sub (L' := [(0, .ref (wad (cxw g) (9 + 2 * r0))), (1, .ref (wad (cxw g) 6)), (2, .int x2), (3, .int x3_10), (4, .int x4_11), (5, .int 100000000), (6, .int x6_12)]) [4, 5, 6, 3, 2, 1, 0] rfl ?_
          exact hK
noncomputable def f_X4_giveDigits (r0 : Nat) (x2 : Int32) (c : CS) : Option CS :=
  lt (rwF c r0) fun x3_1 =>
  lt (f_X4_limbAt r0 x3_1 c) fun x4_2 =>
  Option.bind (f_X4_point r0 c) fun v_3 =>
  lt (f_X4_tenOf (v_3 - 1)) fun x5_4 =>
  Option.bind (Lp (fun a => f_X4_giveDigits_L26 r0 x2 a.1 a.2.1 a.2.2.1 a.2.2.2.1 a.2.2.2.2) (x3_1, x4_2, x5_4, 0, c)) fun e_17 =>
  some e_17
set_option maxRecDepth 20000 in
theorem w_X4_giveDigits {g : Cx} {mc ms : Nat} {c : CS} {m : MS} {z : Nat → Int64} {r0 : Nat} {x2 : Int32} {s : CS} (hr0 : r0 < 4) (hG : Gd g RX4 cX4_giveDigits 7 4 mc ms) (h : f_X4_giveDigits r0 x2 c = some s) (hK : FinV g cX4_giveDigits mc ms (s, m, z)) : AW g 0 [(0, .ref (wad (cxw g) (9 + 2 * r0))), (1, .ref (wad (cxw g) 6)), (2, .int x2)] [] (c, m, z) 0 0 := by
  unfold f_X4_giveDigits at h
  refine aw_aload_n hG 0 rfl dX4_giveDigits_0 rfl ?_
  refine gt_rwF hG hr0 l_72 dX4_giveDigits_1 ?_
  refine aw_topi (fun x3_1 hx3_1 => ?_)
  replace h := lt_r hx3_1 h
  refine aw_istore_n (L' := [(3, .int x3_1), (0, .ref (wad (cxw g) (9 + 2 * r0))), (1, .ref (wad (cxw g) 6)), (2, .int x2)]) hG dX4_giveDigits_4 rfl (by decide) rfl ?_
  refine aw_aload_n hG 1 rfl dX4_giveDigits_5 rfl ?_
  refine aw_iload_n hG 0 rfl dX4_giveDigits_6 rfl ?_
  refine aw_callVi (As := [.int x3_1]) (rest := []) hG (c_X4_limbAt (r0 := r0) (x1 := x3_1) (c := c) hr0) l_84 wv_X4_limbAt (rv_X4 hG hr0) rfl rfl rfl (by decide) (Nat.zero_le _) (Nat.zero_le _) (Nat.le_of_ble_eq_true rfl) dX4_giveDigits_7 ?_
  refine aw_topi (fun x4_2 hx4_2 => ?_)
  replace h := lt_r hx4_2 h
  refine aw_istore (L' := [(4, .int x4_2), (3, .int x3_1), (0, .ref (wad (cxw g) (9 + 2 * r0))), (1, .ref (wad (cxw g) 6)), (2, .int x2)]) hG dX4_giveDigits_10 (by decide) rfl ?_
  refine aw_aload_n hG 2 rfl dX4_giveDigits_12 rfl ?_
  obtain ⟨v_3, hv_3, h⟩ := bd_o h
  refine aw_callVi (As := []) (rest := []) hG (c_X4_point (r0 := r0) (c := c) hr0 hv_3) l_93 wv_X4_point (rv_X4 hG hr0) rfl rfl rfl (by decide) (Nat.zero_le _) (Nat.zero_le _) (Nat.le_of_ble_eq_true rfl) dX4_giveDigits_13 ?_
  refine aw_iconst (v := 1) hG dX4_giveDigits_16 rfl ?_
  refine aw_isub hG dX4_giveDigits_17 ?_
  refine aw_callSi (As := [.int (v_3 - 1)]) (rest := []) hG (c_X4_tenOf (x0 := v_3 - 1) (c := c) ) l_89 ws_X4_tenOf rfl rfl rfl (by decide) (Nat.zero_le _) (Nat.zero_le _) (Nat.le_of_ble_eq_true rfl) dX4_giveDigits_18 ?_
  refine aw_topi (fun x5_4 hx5_4 => ?_)
  replace h := lt_r hx5_4 h
  refine aw_istore (L' := [(5, .int x5_4), (4, .int x4_2), (3, .int x3_1), (0, .ref (wad (cxw g) (9 + 2 * r0))), (1, .ref (wad (cxw g) 6)), (2, .int x2)]) hG dX4_giveDigits_21 (by decide) rfl ?_
  refine aw_iconst (v := 0) hG dX4_giveDigits_23 rfl ?_
  refine aw_istore (L' := [(6, .int 0), (5, .int x5_4), (4, .int x4_2), (3, .int x3_1), (0, .ref (wad (cxw g) (9 + 2 * r0))), (1, .ref (wad (cxw g) 6)), (2, .int x2)]) hG dX4_giveDigits_24 (by decide) rfl ?_
  obtain ⟨e_17, he, h⟩ := bd_o h
  refine aw_sub (L' := [(0, .ref (wad (cxw g) (9 + 2 * r0))), (1, .ref (wad (cxw g) 6)), (2, .int x2), (3, .int x3_1), (4, .int x4_2), (5, .int x5_4), (6, .int 0)]) [4, 5, 6, 3, 2, 1, 0] rfl ?_
  refine Lp_w (F := (fun a => f_X4_giveDigits_L26 r0 x2 a.1 a.2.1 a.2.2.1 a.2.2.2.1 a.2.2.2.2)) (S := (fun a => AW g 26 [(0, .ref (wad (cxw g) (9 + 2 * r0))), (1, .ref (wad (cxw g) 6)), (2, .int x2), (3, .int a.1), (4, .int a.2.1), (5, .int a.2.2.1), (6, .int a.2.2.2.1)] [] (a.2.2.2.2, m, z) 0 0)) (E := (fun e => AW g 89 [] [] (e, m, z) 0 0)) (a := (x3_1, x4_2, x5_4, 0, c)) he (fun a s h hK => w_X4_giveDigits_L26 (r0 := r0) (x2 := x2) (x3 := a.1) (x4 := a.2.1) (x5 := a.2.2.1) (x6 := a.2.2.2.1) (c := a.2.2.2.2) hr0 hG h hK) ?_
  show AW g 89 _ _ _ 0 0
  obtain rfl := Option.some.inj h
  exact FinV.z hK dX4_giveDigits_89
theorem c_X4_giveDigits {c : CS} {m : MS} {z : Nat → Int64} {r0 : Nat} {x2 : Int32} {s : CS} (hr0 : r0 < 4) (h : f_X4_giveDigits r0 x2 c = some s) : Ct yX4_giveDigits cX4_giveDigits 7 none 4 (fun w => [.ref (wad w (9 + 2 * r0)), .ref (wad w 6), .int x2]) (c, m, z) (fun _ => none) (s, m, z) := Ct_ofV (by decide +kernel) (fun _ => Nat.le_of_ble_eq_true rfl) (fun g hG hK => w_X4_giveDigits hr0 hG h hK)
def f_X4_digitAt (r0 : Nat) (x1 : Int32) (c : CS) : Int32 :=
  lt (f_X4_tenOf x1) fun x2_1 =>
  if x2_1 ≤ 0 then
    0
  else
    (irm ((f_X4_limbAt r0 (f_X4_limbOf x1) c) / x2_1) 10)
set_option maxRecDepth 20000 in
theorem w_X4_digitAt {g : Cx} {mc ms : Nat} {c : CS} {m : MS} {z : Nat → Int64} {r0 : Nat} {x1 : Int32} {s : Int32} (hr0 : r0 < 4) (hG : Gd g RX4 cX4_digitAt 3 3 mc ms) (h : f_X4_digitAt r0 x1 c = s) (hK : FinI g cX4_digitAt mc ms s (c, m, z)) : AW g 0 [(0, .ref (wad (cxw g) (9 + 2 * r0))), (1, .int x1)] [] (c, m, z) 0 0 := by
  unfold f_X4_digitAt at h
  refine aw_iload_n hG 1 rfl dX4_digitAt_0 rfl ?_
  refine aw_callSi (As := [.int x1]) (rest := []) hG (c_X4_tenOf (x0 := x1) (c := c) ) l_89 ws_X4_tenOf rfl rfl rfl (by decide) (Nat.zero_le _) (Nat.zero_le _) (Nat.le_of_ble_eq_true rfl) dX4_digitAt_1 ?_
  refine aw_topi (fun x2_1 hx2_1 => ?_)
  replace h := lt_r hx2_1 h
  refine aw_istore_n (L' := [(2, .int x2_1), (0, .ref (wad (cxw g) (9 + 2 * r0))), (1, .int x1)]) hG dX4_digitAt_4 rfl (by decide) rfl ?_
  refine aw_iload_n hG 0 rfl dX4_digitAt_5 rfl ?_
  refine aw_if_le (t := 25) hG dX4_digitAt_6 rfl (fun hc => ?_) (fun hc => ?_)
  · replace h := it_p hc h
    refine aw_iconst (v := 0) hG dX4_digitAt_25 rfl ?_
    subst h
    exact FinI.z hK dX4_digitAt_26
  · replace h := it_n hc h
    refine aw_aload_n hG 1 rfl dX4_digitAt_9 rfl ?_
    refine aw_iload_n hG 2 rfl dX4_digitAt_10 rfl ?_
    refine aw_callSi (As := [.int x1]) (rest := [.ref (wad (cxw g) (9 + 2 * r0))]) hG (c_X4_limbOf (x0 := x1) (c := c) ) l_206 ws_X4_limbOf rfl rfl rfl (by decide) (Nat.zero_le _) (Nat.zero_le _) (Nat.le_of_ble_eq_true rfl) dX4_digitAt_11 ?_
    refine aw_callVi (As := [.int (f_X4_limbOf x1)]) (rest := []) hG (c_X4_limbAt (r0 := r0) (x1 := f_X4_limbOf x1) (c := c) hr0) l_84 wv_X4_limbAt (rv_X4 hG hr0) rfl rfl rfl (by decide) (Nat.zero_le _) (Nat.zero_le _) (Nat.le_of_ble_eq_true rfl) dX4_digitAt_14 ?_
    refine aw_iload_n hG 0 rfl dX4_digitAt_17 rfl ?_
    refine aw_idiv hG dX4_digitAt_18 (by first | exact nz_of (by assumption) | exact nz_of2 (by assumption)) ?_
    refine aw_bipush (v := 10) hG dX4_digitAt_19 rfl ?_
    refine aw_iremJ hG dX4_digitAt_21 (by decide) ?_
    refine aw_goto (t := 26) hG dX4_digitAt_22 rfl ?_
    subst h
    exact FinI.z hK dX4_digitAt_26
theorem c_X4_digitAt {c : CS} {m : MS} {z : Nat → Int64} {r0 : Nat} {x1 : Int32} (hr0 : r0 < 4) : Ct yX4_digitAt cX4_digitAt 3 (some .int) 3 (fun w => [.ref (wad w (9 + 2 * r0)), .int x1]) (c, m, z) (fun _ => some (.int (f_X4_digitAt r0 x1 c))) (c, m, z) := Ct_ofI (by decide +kernel) (fun _ => Nat.le_of_ble_eq_true rfl) (fun g hG hK => w_X4_digitAt hr0 hG rfl hK)
def f_X4_restBelow_J47 (x2 : Int32) (x3 : Int32) (c : CS) : Option Int32 :=
  if x2 = 5 then
    some 2
  else
    if 0 < x2 then
      some 1
    else
      if x3 = 0 then
        some 0
      else
        some 1
set_option maxRecDepth 20000 in
theorem w_X4_restBelow_J47 {g : Cx} {mc ms : Nat} {c : CS} {m : MS} {z : Nat → Int64} {x2 : Int32} {x3 : Int32} {s : Int32}  (hG : Gd g RX4 cX4_restBelow 4 4 mc ms) (h : f_X4_restBelow_J47 x2 x3 c = some s) (hK : FinI g cX4_restBelow mc ms s (c, m, z)) : AW g 47 [(2, .int x2), (3, .int x3)] [] (c, m, z) 0 0 := by
  unfold f_X4_restBelow_J47 at h
  refine aw_iload_n hG 0 rfl dX4_restBelow_47 rfl ?_
  refine aw_iconst (v := 5) hG dX4_restBelow_48 rfl ?_
  refine aw_icmp_ne (t := 54) hG dX4_restBelow_49 rfl (fun hc => ?_) (fun hc => ?_)
  · replace h := it_n hc h
    refine aw_iload_n hG 0 rfl dX4_restBelow_54 rfl ?_
    refine aw_if_gt (t := 62) hG dX4_restBelow_55 rfl (fun hc => ?_) (fun hc => ?_)
    · replace h := it_p hc h
      refine aw_iconst (v := 1) hG dX4_restBelow_62 rfl ?_
      refine aw_goto (t := 67) hG dX4_restBelow_63 rfl ?_
      obtain rfl := Option.some.inj h
      exact FinI.z hK dX4_restBelow_67
    · replace h := it_n hc h
      refine aw_iload_n hG 1 rfl dX4_restBelow_58 rfl ?_
      refine aw_if_eq (t := 66) hG dX4_restBelow_59 rfl (fun hc => ?_) (fun hc => ?_)
      · replace h := it_p hc h
        refine aw_iconst (v := 0) hG dX4_restBelow_66 rfl ?_
        obtain rfl := Option.some.inj h
        exact FinI.z hK dX4_restBelow_67
      · replace h := it_n hc h
        refine aw_iconst (v := 1) hG dX4_restBelow_62 rfl ?_
        refine aw_goto (t := 67) hG dX4_restBelow_63 rfl ?_
        obtain rfl := Option.some.inj h
        exact FinI.z hK dX4_restBelow_67
  · replace h := it_p hc h
    refine aw_iconst (v := 2) hG dX4_restBelow_52 rfl ?_
    obtain rfl := Option.some.inj h
    exact FinI.z hK dX4_restBelow_53
def f_X4_restBelow_J30 (x2 : Int32) (s0 : Int32) (c : CS) : Option Int32 :=
  if 5 < x2 then
    some 3
  else
    if x2 = 5 then
      if s0 = 0 then
        f_X4_restBelow_J47 x2 s0 c
      else
        some 3
    else
      f_X4_restBelow_J47 x2 s0 c
set_option maxRecDepth 20000 in
theorem w_X4_restBelow_J30 {g : Cx} {mc ms : Nat} {c : CS} {m : MS} {z : Nat → Int64} {x2 : Int32} {s0 : Int32} {s : Int32}  (hG : Gd g RX4 cX4_restBelow 4 4 mc ms) (h : f_X4_restBelow_J30 x2 s0 c = some s) (hK : FinI g cX4_restBelow mc ms s (c, m, z)) : AW g 30 [(2, .int x2)] [.int s0] (c, m, z) 0 0 := by
  unfold f_X4_restBelow_J30 at h
  refine aw_istore_n (L' := [(3, .int s0), (2, .int x2)]) hG dX4_restBelow_30 rfl (by decide) rfl ?_
  refine aw_iload_n hG 1 rfl dX4_restBelow_31 rfl ?_
  refine aw_iconst (v := 5) hG dX4_restBelow_32 rfl ?_
  refine aw_icmp_gt (t := 45) hG dX4_restBelow_33 rfl (fun hc => ?_) (fun hc => ?_)
  · replace h := it_p hc h
    refine aw_iconst (v := 3) hG dX4_restBelow_45 rfl ?_
    obtain rfl := Option.some.inj h
    exact FinI.z hK dX4_restBelow_46
  · replace h := it_n hc h
    refine aw_iload_n hG 1 rfl dX4_restBelow_36 rfl ?_
    refine aw_iconst (v := 5) hG dX4_restBelow_37 rfl ?_
    refine aw_icmp_ne (t := 47) hG dX4_restBelow_38 rfl (fun hc => ?_) (fun hc => ?_)
    · replace h := it_n hc h
      refine aw_sub (L' := [(2, .int x2), (3, .int s0)]) [1, 0] rfl ?_
      exact w_X4_restBelow_J47 (x2 := x2) (x3 := s0) (c := c) hG h hK
    · replace h := it_p hc h
      refine aw_iload_n hG 0 rfl dX4_restBelow_41 rfl ?_
      refine aw_if_eq (t := 47) hG dX4_restBelow_42 rfl (fun hc => ?_) (fun hc => ?_)
      · replace h := it_p hc h
        refine aw_sub (L' := [(2, .int x2), (3, .int s0)]) [1, 0] rfl ?_
        exact w_X4_restBelow_J47 (x2 := x2) (x3 := s0) (c := c) hG h hK
      · replace h := it_n hc h
        refine aw_iconst (v := 3) hG dX4_restBelow_45 rfl ?_
        obtain rfl := Option.some.inj h
        exact FinI.z hK dX4_restBelow_46
noncomputable def f_X4_restBelow (r0 : Nat) (x1 : Int32) (c : CS) : Option Int32 :=
  lt (f_X4_digitAt r0 (x1 - 1) c) fun x2_1 =>
  if (f_X4_isEmpty r0 c) = 0 then
    Option.bind (f_X4_lowest r0 c) fun v_8 =>
    if (x1 - 1) ≤ v_8 then
      f_X4_restBelow_J30 x2_1 0 c
    else
      f_X4_restBelow_J30 x2_1 1 c
  else
    f_X4_restBelow_J30 x2_1 0 c
set_option maxRecDepth 20000 in
theorem w_X4_restBelow {g : Cx} {mc ms : Nat} {c : CS} {m : MS} {z : Nat → Int64} {r0 : Nat} {x1 : Int32} {s : Int32} (hr0 : r0 < 4) (hG : Gd g RX4 cX4_restBelow 4 4 mc ms) (h : f_X4_restBelow r0 x1 c = some s) (hK : FinI g cX4_restBelow mc ms s (c, m, z)) : AW g 0 [(0, .ref (wad (cxw g) (9 + 2 * r0))), (1, .int x1)] [] (c, m, z) 0 0 := by
  unfold f_X4_restBelow at h
  refine aw_aload_n hG 0 rfl dX4_restBelow_0 rfl ?_
  refine aw_iload_n hG 1 rfl dX4_restBelow_1 rfl ?_
  refine aw_iconst (v := 1) hG dX4_restBelow_2 rfl ?_
  refine aw_isub hG dX4_restBelow_3 ?_
  refine aw_callVi (As := [.int (x1 - 1)]) (rest := []) hG (c_X4_digitAt (r0 := r0) (x1 := x1 - 1) (c := c) hr0) l_240 wv_X4_digitAt (rv_X4 hG hr0) rfl rfl rfl (by decide) (Nat.zero_le _) (Nat.zero_le _) (Nat.le_of_ble_eq_true rfl) dX4_restBelow_4 ?_
  refine aw_topi (fun x2_1 hx2_1 => ?_)
  replace h := lt_r hx2_1 h
  refine aw_istore_n (L' := [(2, .int x2_1), (0, .ref (wad (cxw g) (9 + 2 * r0))), (1, .int x1)]) hG dX4_restBelow_7 rfl (by decide) rfl ?_
  refine aw_aload_n hG 1 rfl dX4_restBelow_8 rfl ?_
  refine aw_callVi (As := []) (rest := []) hG (c_X4_isEmpty (r0 := r0) (c := c) hr0) l_79 wv_X4_isEmpty (rv_X4 hG hr0) rfl rfl rfl (by decide) (Nat.zero_le _) (Nat.zero_le _) (Nat.le_of_ble_eq_true rfl) dX4_restBelow_9 ?_
  refine aw_if_ne (t := 29) hG dX4_restBelow_12 rfl (fun hc => ?_) (fun hc => ?_)
  · replace h := it_n hc h
    refine aw_iconst (v := 0) hG dX4_restBelow_29 rfl ?_
    refine aw_sub (L' := [(2, .int x2_1)]) [0] rfl ?_
    exact w_X4_restBelow_J30 (x2 := x2_1) (s0 := 0) (c := c) hG h hK
  · replace h := it_p hc h
    refine aw_aload_n hG 1 rfl dX4_restBelow_15 rfl ?_
    obtain ⟨v_8, hv_8, h⟩ := bd_o h
    refine aw_callVi (As := []) (rest := []) hG (c_X4_lowest (r0 := r0) (c := c) hr0 hv_8) l_235 wv_X4_lowest (rv_X4 hG hr0) rfl rfl rfl (by decide) (Nat.zero_le _) (Nat.zero_le _) (Nat.le_of_ble_eq_true rfl) dX4_restBelow_16 ?_
    refine aw_iload_n hG 2 rfl dX4_restBelow_19 rfl ?_
    refine aw_iconst (v := 1) hG dX4_restBelow_20 rfl ?_
    refine aw_isub hG dX4_restBelow_21 ?_
    refine aw_icmp_ge (t := 29) hG dX4_restBelow_22 rfl (fun hc => ?_) (fun hc => ?_)
    · replace h := it_p hc h
      refine aw_iconst (v := 0) hG dX4_restBelow_29 rfl ?_
      refine aw_sub (L' := [(2, .int x2_1)]) [0] rfl ?_
      exact w_X4_restBelow_J30 (x2 := x2_1) (s0 := 0) (c := c) hG h hK
    · replace h := it_n hc h
      refine aw_iconst (v := 1) hG dX4_restBelow_25 rfl ?_
      refine aw_goto (t := 30) hG dX4_restBelow_26 rfl ?_
      refine aw_sub (L' := [(2, .int x2_1)]) [0] rfl ?_
      exact w_X4_restBelow_J30 (x2 := x2_1) (s0 := 1) (c := c) hG h hK
theorem c_X4_restBelow {c : CS} {m : MS} {z : Nat → Int64} {r0 : Nat} {x1 : Int32} {s : Int32} (hr0 : r0 < 4) (h : f_X4_restBelow r0 x1 c = some s) : Ct yX4_restBelow cX4_restBelow 4 (some .int) 4 (fun w => [.ref (wad w (9 + 2 * r0)), .int x1]) (c, m, z) (fun _ => some (.int s)) (c, m, z) := Ct_ofI (by decide +kernel) (fun _ => Nat.le_of_ble_eq_true rfl) (fun g hG hK => w_X4_restBelow hr0 hG h hK)
def f_X4_takeDownTo_L15 (r0 : Nat) (r1 : Nat) (x2 : Int32) (x3 : Int32) (x4 : Int32) (c : CS) : Option ((Int32 × CS) ⊕ (CS)) :=
  if (rwE c r1) < x4 then
    some (.inr c)
  else
    if x3 ≤ x4 then
      some (.inr c)
    else
      lt (f_X4_setLimb r0 x4 (f_X4_limbAt r1 x4 c) c) fun v_4 =>
      lt (x4 + 1) fun x4_5 =>
      some (.inl (x4_5, v_4))
set_option maxRecDepth 20000 in
theorem w_X4_takeDownTo_L15 {g : Cx} {mc ms : Nat} {c : CS} {m : MS} {z : Nat → Int64} {r0 : Nat} {r1 : Nat} {x2 : Int32} {x3 : Int32} {x4 : Int32} {s : ((Int32 × CS) ⊕ (CS))} (hr0 : r0 < 4) (hr1 : r1 < 4) (hG : Gd g RX4 cX4_takeDownTo 6 3 mc ms) (h : f_X4_takeDownTo_L15 r0 r1 x2 x3 x4 c = some s) (hK : Sum.elim (fun a => AW g 15 [(0, .ref (wad (cxw g) (9 + 2 * r0))), (1, .ref (wad (cxw g) (9 + 2 * r1))), (2, .int x2), (3, .int x3), (4, .int a.1)] [] (a.2, m, z) 0 0) (fun e => AW g 48 [(0, .ref (wad (cxw g) (9 + 2 * r0))), (1, .ref (wad (cxw g) (9 + 2 * r1))), (2, .int x2), (3, .int x3)] [] (e, m, z) 0 0) s) : AW g 15 [(0, .ref (wad (cxw g) (9 + 2 * r0))), (1, .ref (wad (cxw g) (9 + 2 * r1))), (2, .int x2), (3, .int x3), (4, .int x4)] [] (c, m, z) 0 0 := by
  unfold f_X4_takeDownTo_L15 at h
  refine aw_iload hG 4 rfl dX4_takeDownTo_15 ?_
  refine aw_aload_n hG 1 rfl dX4_takeDownTo_17 rfl ?_
  refine gt_rwE hG hr1 l_73 dX4_takeDownTo_18 ?_
  refine aw_icmp_gt (t := 48) hG dX4_takeDownTo_21 rfl (fun hc => ?_) (fun hc => ?_)
  · replace h := it_p hc h
    obtain rfl := Option.some.inj h
    refine aw_sub (L' := [(0, .ref (wad (cxw g) (9 + 2 * r0))), (1, .ref (wad (cxw g) (9 + 2 * r1))), (2, .int x2), (3, .int x3)]) [0, 1, 2, 3] rfl ?_
    exact hK
  · replace h := it_n hc h
    refine aw_iload hG 4 rfl dX4_takeDownTo_24 ?_
    refine aw_iload_n hG 3 rfl dX4_takeDownTo_26 rfl ?_
    refine aw_icmp_ge (t := 48) hG dX4_takeDownTo_27 rfl (fun hc => ?_) (fun hc => ?_)
    · replace h := it_p hc h
      obtain rfl := Option.some.inj h
      refine aw_sub (L' := [(0, .ref (wad (cxw g) (9 + 2 * r0))), (1, .ref (wad (cxw g) (9 + 2 * r1))), (2, .int x2), (3, .int x3)]) [0, 1, 2, 3] rfl ?_
      exact hK
    · replace h := it_n hc h
      refine aw_aload_n hG 0 rfl dX4_takeDownTo_30 rfl ?_
      refine aw_iload hG 4 rfl dX4_takeDownTo_31 ?_
      refine aw_aload_n hG 1 rfl dX4_takeDownTo_33 rfl ?_
      refine aw_iload hG 4 rfl dX4_takeDownTo_34 ?_
      refine aw_callVi (As := [.int x4]) (rest := [.int x4, .ref (wad (cxw g) (9 + 2 * r0))]) hG (c_X4_limbAt (r0 := r1) (x1 := x4) (c := c) hr1) l_84 wv_X4_limbAt (rv_X4 hG hr1) rfl rfl rfl (by decide) (Nat.zero_le _) (Nat.zero_le _) (Nat.le_of_ble_eq_true rfl) dX4_takeDownTo_36 ?_
      obtain ⟨v_4, hv_4⟩ : ∃ y, y = f_X4_setLimb r0 x4 (f_X4_limbAt r1 x4 c) c := ⟨_, rfl⟩
      replace h := lt_r hv_4 h
      refine aw_callVv (As := [.int x4, .int (f_X4_limbAt r1 x4 c)]) (rest := []) hG (c_X4_setLimb (r0 := r0) (x1 := x4) (x2 := f_X4_limbAt r1 x4 c) (c := c) hr0 hv_4.symm) l_201 wv_X4_setLimb (rv_X4 hG hr0) rfl rfl rfl (by decide) (Nat.zero_le _) (Nat.zero_le _) (Nat.le_of_ble_eq_true rfl) dX4_takeDownTo_39 ?_
      obtain ⟨x4_5, hx4_5⟩ : ∃ y : Int32, y = x4 + 1 := ⟨_, rfl⟩
      replace h := lt_r hx4_5 h
      refine aw_iinc (v := x4_5) (L' := [(4, .int x4_5), (0, .ref (wad (cxw g) (9 + 2 * r0))), (1, .ref (wad (cxw g) (9 + 2 * r1))), (2, .int x2), (3, .int x3)]) hG 4 rfl dX4_takeDownTo_42 (by rw [hx4_5]; rfl) (by decide) rfl ?_
      refine aw_goto (t := 15) hG dX4_takeDownTo_45 rfl ?_
      obtain rfl := Option.some.inj h
      refine aw_sub (L' := [(0, .ref (wad (cxw g) (9 + 2 * r0))), (1, .ref (wad (cxw g) (9 + 2 * r1))), (2, .int x2), (3, .int x3), (4, .int x4_5)]) [1, 2, 3, 4, 0] rfl ?_
      exact hK
def f_X4_takeDownTo_J81 (s0 : Int32) (s1 : Int32) (q2 : Nat) (c : CS) : Option CS :=
  lt (f_X4_setLimb q2 s1 s0 c) fun v_11 =>
  some v_11
set_option maxRecDepth 20000 in
theorem w_X4_takeDownTo_J81 {g : Cx} {mc ms : Nat} {c : CS} {m : MS} {z : Nat → Int64} {s0 : Int32} {s1 : Int32} {q2 : Nat} {s : CS} (hq2 : q2 < 4) (hG : Gd g RX4 cX4_takeDownTo 6 3 mc ms) (h : f_X4_takeDownTo_J81 s0 s1 q2 c = some s) (hK : FinV g cX4_takeDownTo mc ms (s, m, z)) : AW g 81 [] [.int s0, .int s1, .ref (wad (cxw g) (9 + 2 * q2))] (c, m, z) 0 0 := by
  unfold f_X4_takeDownTo_J81 at h
  obtain ⟨v_11, hv_11⟩ : ∃ y, y = f_X4_setLimb q2 s1 s0 c := ⟨_, rfl⟩
  replace h := lt_r hv_11 h
  refine aw_callVv (As := [.int s1, .int s0]) (rest := []) hG (c_X4_setLimb (r0 := q2) (x1 := s1) (x2 := s0) (c := c) hq2 hv_11.symm) l_201 wv_X4_setLimb (rv_X4 hG hq2) rfl rfl rfl (by decide) (Nat.zero_le _) (Nat.zero_le _) (Nat.le_of_ble_eq_true rfl) dX4_takeDownTo_81 ?_
  obtain rfl := Option.some.inj h
  exact FinV.z hK dX4_takeDownTo_84
noncomputable def f_X4_takeDownTo (r0 : Nat) (r1 : Nat) (x2 : Int32) (c : CS) : Option CS :=
  Option.bind (f_X4_empty r0 c) fun v_1 =>
  lt (f_X4_limbOf x2) fun x3_2 =>
  lt (rwF v_1 r1) fun x4_3 =>
  Option.bind (Lp (fun a => f_X4_takeDownTo_L15 r0 r1 x2 x3_2 a.1 a.2) (x4_3, v_1)) fun e_8 =>
  lt (f_X4_limbAt r1 x3_2 e_8) fun x4_9 =>
  lt (f_X4_tenOf x2) fun x5_10 =>
  if x5_10 ≤ 0 then
    f_X4_takeDownTo_J81 x4_9 x3_2 r0 e_8
  else
    if ¬ x5_10 = 0 then
      f_X4_takeDownTo_J81 (x4_9 - (irm x4_9 x5_10)) x3_2 r0 e_8
    else none
set_option maxRecDepth 20000 in
theorem w_X4_takeDownTo {g : Cx} {mc ms : Nat} {c : CS} {m : MS} {z : Nat → Int64} {r0 : Nat} {r1 : Nat} {x2 : Int32} {s : CS} (hr0 : r0 < 4) (hr1 : r1 < 4) (hG : Gd g RX4 cX4_takeDownTo 6 3 mc ms) (h : f_X4_takeDownTo r0 r1 x2 c = some s) (hK : FinV g cX4_takeDownTo mc ms (s, m, z)) : AW g 0 [(0, .ref (wad (cxw g) (9 + 2 * r0))), (1, .ref (wad (cxw g) (9 + 2 * r1))), (2, .int x2)] [] (c, m, z) 0 0 := by
  unfold f_X4_takeDownTo at h
  refine aw_aload_n hG 0 rfl dX4_takeDownTo_0 rfl ?_
  obtain ⟨v_1, hv_1, h⟩ := bd_o h
  refine aw_callVv (As := []) (rest := []) hG (c_X4_empty (r0 := r0) (c := c) hr0 hv_1) l_195 wv_X4_empty (rv_X4 hG hr0) rfl rfl rfl (by decide) (Nat.zero_le _) (Nat.zero_le _) (Nat.le_of_ble_eq_true rfl) dX4_takeDownTo_1 ?_
  refine aw_iload_n hG 2 rfl dX4_takeDownTo_4 rfl ?_
  refine aw_callSi (As := [.int x2]) (rest := []) hG (c_X4_limbOf (x0 := x2) (c := v_1) ) l_206 ws_X4_limbOf rfl rfl rfl (by decide) (Nat.zero_le _) (Nat.zero_le _) (Nat.le_of_ble_eq_true rfl) dX4_takeDownTo_5 ?_
  refine aw_topi (fun x3_2 hx3_2 => ?_)
  replace h := lt_r hx3_2 h
  refine aw_istore_n (L' := [(3, .int x3_2), (0, .ref (wad (cxw g) (9 + 2 * r0))), (1, .ref (wad (cxw g) (9 + 2 * r1))), (2, .int x2)]) hG dX4_takeDownTo_8 rfl (by decide) rfl ?_
  refine aw_aload_n hG 2 rfl dX4_takeDownTo_9 rfl ?_
  refine gt_rwF hG hr1 l_72 dX4_takeDownTo_10 ?_
  refine aw_topi (fun x4_3 hx4_3 => ?_)
  replace h := lt_r hx4_3 h
  refine aw_istore (L' := [(4, .int x4_3), (3, .int x3_2), (0, .ref (wad (cxw g) (9 + 2 * r0))), (1, .ref (wad (cxw g) (9 + 2 * r1))), (2, .int x2)]) hG dX4_takeDownTo_13 (by decide) rfl ?_
  obtain ⟨e_8, he, h⟩ := bd_o h
  refine aw_sub (L' := [(0, .ref (wad (cxw g) (9 + 2 * r0))), (1, .ref (wad (cxw g) (9 + 2 * r1))), (2, .int x2), (3, .int x3_2), (4, .int x4_3)]) [2, 3, 4, 1, 0] rfl ?_
  refine Lp_w (F := (fun a => f_X4_takeDownTo_L15 r0 r1 x2 x3_2 a.1 a.2)) (S := (fun a => AW g 15 [(0, .ref (wad (cxw g) (9 + 2 * r0))), (1, .ref (wad (cxw g) (9 + 2 * r1))), (2, .int x2), (3, .int x3_2), (4, .int a.1)] [] (a.2, m, z) 0 0)) (E := (fun e => AW g 48 [(0, .ref (wad (cxw g) (9 + 2 * r0))), (1, .ref (wad (cxw g) (9 + 2 * r1))), (2, .int x2), (3, .int x3_2)] [] (e, m, z) 0 0)) (a := (x4_3, v_1)) he (fun a s h hK => w_X4_takeDownTo_L15 (r0 := r0) (r1 := r1) (x2 := x2) (x3 := x3_2) (x4 := a.1) (c := a.2) hr0 hr1 hG h hK) ?_
  show AW g 48 _ _ _ 0 0
  refine aw_aload_n hG 1 rfl dX4_takeDownTo_48 rfl ?_
  refine aw_iload_n hG 3 rfl dX4_takeDownTo_49 rfl ?_
  refine aw_callVi (As := [.int x3_2]) (rest := []) hG (c_X4_limbAt (r0 := r1) (x1 := x3_2) (c := e_8) hr1) l_84 wv_X4_limbAt (rv_X4 hG hr1) rfl rfl rfl (by decide) (Nat.zero_le _) (Nat.zero_le _) (Nat.le_of_ble_eq_true rfl) dX4_takeDownTo_50 ?_
  refine aw_topi (fun x4_9 hx4_9 => ?_)
  replace h := lt_r hx4_9 h
  refine aw_istore (L' := [(4, .int x4_9), (0, .ref (wad (cxw g) (9 + 2 * r0))), (1, .ref (wad (cxw g) (9 + 2 * r1))), (2, .int x2), (3, .int x3_2)]) hG dX4_takeDownTo_53 (by decide) rfl ?_
  refine aw_iload_n hG 3 rfl dX4_takeDownTo_55 rfl ?_
  refine aw_callSi (As := [.int x2]) (rest := []) hG (c_X4_tenOf (x0 := x2) (c := e_8) ) l_89 ws_X4_tenOf rfl rfl rfl (by decide) (Nat.zero_le _) (Nat.zero_le _) (Nat.le_of_ble_eq_true rfl) dX4_takeDownTo_56 ?_
  refine aw_topi (fun x5_10 hx5_10 => ?_)
  replace h := lt_r hx5_10 h
  refine aw_istore (L' := [(5, .int x5_10), (4, .int x4_9), (0, .ref (wad (cxw g) (9 + 2 * r0))), (1, .ref (wad (cxw g) (9 + 2 * r1))), (2, .int x2), (3, .int x3_2)]) hG dX4_takeDownTo_59 (by decide) rfl ?_
  refine aw_aload_n hG 2 rfl dX4_takeDownTo_61 rfl ?_
  refine aw_iload_n hG 5 rfl dX4_takeDownTo_62 rfl ?_
  refine aw_iload hG 0 rfl dX4_takeDownTo_63 ?_
  refine aw_if_le (t := 79) hG dX4_takeDownTo_65 rfl (fun hc => ?_) (fun hc => ?_)
  · replace h := it_p hc h
    refine aw_iload hG 1 rfl dX4_takeDownTo_79 ?_
    refine aw_sub (L' := []) [] rfl ?_
    exact w_X4_takeDownTo_J81 (s0 := x4_9) (s1 := x3_2) (q2 := r0) (c := e_8) hr0 hG h hK
  · replace h := it_n hc h
    refine aw_iload hG 1 rfl dX4_takeDownTo_68 ?_
    refine aw_iload hG 1 rfl dX4_takeDownTo_70 ?_
    refine aw_iload hG 0 rfl dX4_takeDownTo_72 ?_
    obtain ⟨hz_12, h⟩ := it_o h
    refine aw_iremJ hG dX4_takeDownTo_74 hz_12 ?_
    refine aw_isub hG dX4_takeDownTo_75 ?_
    refine aw_goto (t := 81) hG dX4_takeDownTo_76 rfl ?_
    refine aw_sub (L' := []) [] rfl ?_
    exact w_X4_takeDownTo_J81 (s0 := x4_9 - (irm x4_9 x5_10)) (s1 := x3_2) (q2 := r0) (c := e_8) hr0 hG h hK
theorem c_X4_takeDownTo {c : CS} {m : MS} {z : Nat → Int64} {r0 : Nat} {r1 : Nat} {x2 : Int32} {s : CS} (hr0 : r0 < 4) (hr1 : r1 < 4) (h : f_X4_takeDownTo r0 r1 x2 c = some s) : Ct yX4_takeDownTo cX4_takeDownTo 6 none 3 (fun w => [.ref (wad w (9 + 2 * r0)), .ref (wad w (9 + 2 * r1)), .int x2]) (c, m, z) (fun _ => none) (s, m, z) := Ct_ofV (by decide +kernel) (fun _ => Nat.le_of_ble_eq_true rfl) (fun g hG hK => w_X4_takeDownTo hr0 hr1 hG h hK)
def f_X4_addUnit_J65 (r0 : Nat) (x2 : Int32) (x3 : Int32) (s0 : Int32) (s1 : Int32) (q2 : Nat) (c : CS) : Option ((Int32 × Int32 × CS) ⊕ (CS)) :=
  lt (f_X4_setLimb q2 s1 s0 c) fun v_4 =>
  lt (x3 + (-1)) fun x3_5 =>
  some (.inl (x2, x3_5, v_4))
set_option maxRecDepth 20000 in
theorem w_X4_addUnit_J65 {g : Cx} {mc ms : Nat} {c : CS} {m : MS} {z : Nat → Int64} {r0 : Nat} {x2 : Int32} {x3 : Int32} {s0 : Int32} {s1 : Int32} {q2 : Nat} {s : ((Int32 × Int32 × CS) ⊕ (CS))} (hr0 : r0 < 4) (hq2 : q2 < 4) (hG : Gd g RX4 cX4_addUnit 5 3 mc ms) (h : f_X4_addUnit_J65 r0 x2 x3 s0 s1 q2 c = some s) (hK : Sum.elim (fun a => AW g 16 [(0, .ref (wad (cxw g) (9 + 2 * r0))), (2, .int a.1), (3, .int a.2.1)] [] (a.2.2, m, z) 0 0) (fun e => AW g 74 [(0, .ref (wad (cxw g) (9 + 2 * r0)))] [] (e, m, z) 0 0) s) : AW g 65 [(0, .ref (wad (cxw g) (9 + 2 * r0))), (2, .int x2), (3, .int x3)] [.int s0, .int s1, .ref (wad (cxw g) (9 + 2 * q2))] (c, m, z) 0 0 := by
  unfold f_X4_addUnit_J65 at h
  obtain ⟨v_4, hv_4⟩ : ∃ y, y = f_X4_setLimb q2 s1 s0 c := ⟨_, rfl⟩
  replace h := lt_r hv_4 h
  refine aw_callVv (As := [.int s1, .int s0]) (rest := []) hG (c_X4_setLimb (r0 := q2) (x1 := s1) (x2 := s0) (c := c) hq2 hv_4.symm) l_201 wv_X4_setLimb (rv_X4 hG hq2) rfl rfl rfl (by decide) (Nat.zero_le _) (Nat.zero_le _) (Nat.le_of_ble_eq_true rfl) dX4_addUnit_65 ?_
  obtain ⟨x3_5, hx3_5⟩ : ∃ y : Int32, y = x3 + (-1) := ⟨_, rfl⟩
  replace h := lt_r hx3_5 h
  refine aw_iinc (v := x3_5) (L' := [(3, .int x3_5), (0, .ref (wad (cxw g) (9 + 2 * r0))), (2, .int x2)]) hG 2 rfl dX4_addUnit_68 (by rw [hx3_5]; rfl) (by decide) rfl ?_
  refine aw_goto (t := 16) hG dX4_addUnit_71 rfl ?_
  obtain rfl := Option.some.inj h
  refine aw_sub (L' := [(0, .ref (wad (cxw g) (9 + 2 * r0))), (2, .int x2), (3, .int x3_5)]) [1, 2, 0] rfl ?_
  exact hK
def f_X4_addUnit_J45 (r0 : Nat) (x3 : Int32) (x4 : Int32) (s0 : Int32) (c : CS) : Option ((Int32 × Int32 × CS) ⊕ (CS)) :=
  if x4 < 1000000000 then
    f_X4_addUnit_J65 r0 s0 x3 x4 x3 r0 c
  else
    f_X4_addUnit_J65 r0 s0 x3 (x4 - 1000000000) x3 r0 c
set_option maxRecDepth 20000 in
theorem w_X4_addUnit_J45 {g : Cx} {mc ms : Nat} {c : CS} {m : MS} {z : Nat → Int64} {r0 : Nat} {x3 : Int32} {x4 : Int32} {s0 : Int32} {s : ((Int32 × Int32 × CS) ⊕ (CS))} (hr0 : r0 < 4) (hG : Gd g RX4 cX4_addUnit 5 3 mc ms) (h : f_X4_addUnit_J45 r0 x3 x4 s0 c = some s) (hK : Sum.elim (fun a => AW g 16 [(0, .ref (wad (cxw g) (9 + 2 * r0))), (2, .int a.1), (3, .int a.2.1)] [] (a.2.2, m, z) 0 0) (fun e => AW g 74 [(0, .ref (wad (cxw g) (9 + 2 * r0)))] [] (e, m, z) 0 0) s) : AW g 45 [(0, .ref (wad (cxw g) (9 + 2 * r0))), (3, .int x3), (4, .int x4)] [.int s0] (c, m, z) 0 0 := by
  unfold f_X4_addUnit_J45 at h
  refine aw_istore_n (L' := [(2, .int s0), (0, .ref (wad (cxw g) (9 + 2 * r0))), (3, .int x3), (4, .int x4)]) hG dX4_addUnit_45 rfl (by decide) rfl ?_
  refine aw_aload_n hG 1 rfl dX4_addUnit_46 rfl ?_
  refine aw_iload_n hG 2 rfl dX4_addUnit_47 rfl ?_
  refine aw_iload hG 3 rfl dX4_addUnit_48 ?_
  refine aw_ldc hG l_245 dX4_addUnit_50 ?_
  refine aw_icmp_lt (t := 63) hG dX4_addUnit_52 rfl (fun hc => ?_) (fun hc => ?_)
  · replace h := it_p hc h
    refine aw_iload hG 3 rfl dX4_addUnit_63 ?_
    refine aw_sub (L' := [(0, .ref (wad (cxw g) (9 + 2 * r0))), (2, .int s0), (3, .int x3)]) [1, 0, 2] rfl ?_
    exact w_X4_addUnit_J65 (r0 := r0) (x2 := s0) (x3 := x3) (s0 := x4) (s1 := x3) (q2 := r0) (c := c) hr0 hr0 hG h hK
  · replace h := it_n hc h
    refine aw_iload hG 3 rfl dX4_addUnit_55 ?_
    refine aw_ldc hG l_245 dX4_addUnit_57 ?_
    refine aw_isub hG dX4_addUnit_59 ?_
    refine aw_goto (t := 65) hG dX4_addUnit_60 rfl ?_
    refine aw_sub (L' := [(0, .ref (wad (cxw g) (9 + 2 * r0))), (2, .int s0), (3, .int x3)]) [1, 0, 2] rfl ?_
    exact w_X4_addUnit_J65 (r0 := r0) (x2 := s0) (x3 := x3) (s0 := x4 - 1000000000) (s1 := x3) (q2 := r0) (c := c) hr0 hr0 hG h hK
def f_X4_addUnit_L16 (r0 : Nat) (x2 : Int32) (x3 : Int32) (c : CS) : Option ((Int32 × Int32 × CS) ⊕ (CS)) :=
  if x3 < 0 then
    some (.inr c)
  else
    if x2 ≤ 0 then
      some (.inr c)
    else
      lt ((f_X4_limbAt r0 x3 c) + x2) fun x4_3 =>
      if x4_3 < 1000000000 then
        f_X4_addUnit_J45 r0 x3 x4_3 0 c
      else
        f_X4_addUnit_J45 r0 x3 x4_3 1 c
set_option maxRecDepth 20000 in
theorem w_X4_addUnit_L16 {g : Cx} {mc ms : Nat} {c : CS} {m : MS} {z : Nat → Int64} {r0 : Nat} {x2 : Int32} {x3 : Int32} {s : ((Int32 × Int32 × CS) ⊕ (CS))} (hr0 : r0 < 4) (hG : Gd g RX4 cX4_addUnit 5 3 mc ms) (h : f_X4_addUnit_L16 r0 x2 x3 c = some s) (hK : Sum.elim (fun a => AW g 16 [(0, .ref (wad (cxw g) (9 + 2 * r0))), (2, .int a.1), (3, .int a.2.1)] [] (a.2.2, m, z) 0 0) (fun e => AW g 74 [(0, .ref (wad (cxw g) (9 + 2 * r0)))] [] (e, m, z) 0 0) s) : AW g 16 [(0, .ref (wad (cxw g) (9 + 2 * r0))), (2, .int x2), (3, .int x3)] [] (c, m, z) 0 0 := by
  unfold f_X4_addUnit_L16 at h
  refine aw_iload_n hG 2 rfl dX4_addUnit_16 rfl ?_
  refine aw_if_lt (t := 74) hG dX4_addUnit_17 rfl (fun hc => ?_) (fun hc => ?_)
  · replace h := it_p hc h
    obtain rfl := Option.some.inj h
    refine aw_sub (L' := [(0, .ref (wad (cxw g) (9 + 2 * r0)))]) [0] rfl ?_
    exact hK
  · replace h := it_n hc h
    refine aw_iload_n hG 1 rfl dX4_addUnit_20 rfl ?_
    refine aw_if_le (t := 74) hG dX4_addUnit_21 rfl (fun hc => ?_) (fun hc => ?_)
    · replace h := it_p hc h
      obtain rfl := Option.some.inj h
      refine aw_sub (L' := [(0, .ref (wad (cxw g) (9 + 2 * r0)))]) [0] rfl ?_
      exact hK
    · replace h := it_n hc h
      refine aw_aload_n hG 0 rfl dX4_addUnit_24 rfl ?_
      refine aw_iload_n hG 2 rfl dX4_addUnit_25 rfl ?_
      refine aw_callVi (As := [.int x3]) (rest := []) hG (c_X4_limbAt (r0 := r0) (x1 := x3) (c := c) hr0) l_84 wv_X4_limbAt (rv_X4 hG hr0) rfl rfl rfl (by decide) (Nat.zero_le _) (Nat.zero_le _) (Nat.le_of_ble_eq_true rfl) dX4_addUnit_26 ?_
      refine aw_iload_n hG 1 rfl dX4_addUnit_29 rfl ?_
      refine aw_iadd hG dX4_addUnit_30 ?_
      refine aw_topi (fun x4_3 hx4_3 => ?_)
      replace h := lt_r hx4_3 h
      refine aw_istore (L' := [(4, .int x4_3), (0, .ref (wad (cxw g) (9 + 2 * r0))), (2, .int x2), (3, .int x3)]) hG dX4_addUnit_31 (by decide) rfl ?_
      refine aw_iload hG 0 rfl dX4_addUnit_33 ?_
      refine aw_ldc hG l_245 dX4_addUnit_35 ?_
      refine aw_icmp_lt (t := 44) hG dX4_addUnit_37 rfl (fun hc => ?_) (fun hc => ?_)
      · replace h := it_p hc h
        refine aw_iconst (v := 0) hG dX4_addUnit_44 rfl ?_
        refine aw_sub (L' := [(0, .ref (wad (cxw g) (9 + 2 * r0))), (3, .int x3), (4, .int x4_3)]) [1, 3, 0] rfl ?_
        exact w_X4_addUnit_J45 (r0 := r0) (x3 := x3) (x4 := x4_3) (s0 := 0) (c := c) hr0 hG h hK
      · replace h := it_n hc h
        refine aw_iconst (v := 1) hG dX4_addUnit_40 rfl ?_
        refine aw_goto (t := 45) hG dX4_addUnit_41 rfl ?_
        refine aw_sub (L' := [(0, .ref (wad (cxw g) (9 + 2 * r0))), (3, .int x3), (4, .int x4_3)]) [1, 3, 0] rfl ?_
        exact w_X4_addUnit_J45 (r0 := r0) (x3 := x3) (x4 := x4_3) (s0 := 1) (c := c) hr0 hG h hK
noncomputable def f_X4_addUnit (r0 : Nat) (x1 : Int32) (c : CS) : Option CS :=
  lt (f_X4_tenOf x1) fun x2_1 =>
  lt (f_JM_min (f_X4_limbOf x1) 155) fun x3_2 =>
  Option.bind (Lp (fun a => f_X4_addUnit_L16 r0 a.1 a.2.1 a.2.2) (x2_1, x3_2, c)) fun e_10 =>
  Option.bind (f_X4_trim r0 e_10) fun v_11 =>
  some v_11
set_option maxRecDepth 20000 in
theorem w_X4_addUnit {g : Cx} {mc ms : Nat} {c : CS} {m : MS} {z : Nat → Int64} {r0 : Nat} {x1 : Int32} {s : CS} (hr0 : r0 < 4) (hG : Gd g RX4 cX4_addUnit 5 3 mc ms) (h : f_X4_addUnit r0 x1 c = some s) (hK : FinV g cX4_addUnit mc ms (s, m, z)) : AW g 0 [(0, .ref (wad (cxw g) (9 + 2 * r0))), (1, .int x1)] [] (c, m, z) 0 0 := by
  unfold f_X4_addUnit at h
  refine aw_iload_n hG 1 rfl dX4_addUnit_0 rfl ?_
  refine aw_callSi (As := [.int x1]) (rest := []) hG (c_X4_tenOf (x0 := x1) (c := c) ) l_89 ws_X4_tenOf rfl rfl rfl (by decide) (Nat.zero_le _) (Nat.zero_le _) (Nat.le_of_ble_eq_true rfl) dX4_addUnit_1 ?_
  refine aw_topi (fun x2_1 hx2_1 => ?_)
  replace h := lt_r hx2_1 h
  refine aw_istore_n (L' := [(2, .int x2_1), (0, .ref (wad (cxw g) (9 + 2 * r0))), (1, .int x1)]) hG dX4_addUnit_4 rfl (by decide) rfl ?_
  refine aw_iload_n hG 2 rfl dX4_addUnit_5 rfl ?_
  refine aw_callSi (As := [.int x1]) (rest := []) hG (c_X4_limbOf (x0 := x1) (c := c) ) l_206 ws_X4_limbOf rfl rfl rfl (by decide) (Nat.zero_le _) (Nat.zero_le _) (Nat.le_of_ble_eq_true rfl) dX4_addUnit_6 ?_
  refine aw_sipush (v := 155) hG dX4_addUnit_9 rfl ?_
  refine aw_callSi (As := [.int (f_X4_limbOf x1), .int 155]) (rest := []) hG (c_JM_min (x0 := f_X4_limbOf x1) (x1 := 155) (c := c) ) l_192 ws_JM_min rfl rfl rfl (by decide) (Nat.zero_le _) (Nat.zero_le _) (Nat.le_of_ble_eq_true rfl) dX4_addUnit_12 ?_
  refine aw_topi (fun x3_2 hx3_2 => ?_)
  replace h := lt_r hx3_2 h
  refine aw_istore_n (L' := [(3, .int x3_2), (2, .int x2_1), (0, .ref (wad (cxw g) (9 + 2 * r0))), (1, .int x1)]) hG dX4_addUnit_15 rfl (by decide) rfl ?_
  obtain ⟨e_10, he, h⟩ := bd_o h
  refine aw_sub (L' := [(0, .ref (wad (cxw g) (9 + 2 * r0))), (2, .int x2_1), (3, .int x3_2)]) [2, 1, 0] rfl ?_
  refine Lp_w (F := (fun a => f_X4_addUnit_L16 r0 a.1 a.2.1 a.2.2)) (S := (fun a => AW g 16 [(0, .ref (wad (cxw g) (9 + 2 * r0))), (2, .int a.1), (3, .int a.2.1)] [] (a.2.2, m, z) 0 0)) (E := (fun e => AW g 74 [(0, .ref (wad (cxw g) (9 + 2 * r0)))] [] (e, m, z) 0 0)) (a := (x2_1, x3_2, c)) he (fun a s h hK => w_X4_addUnit_L16 (r0 := r0) (x2 := a.1) (x3 := a.2.1) (c := a.2.2) hr0 hG h hK) ?_
  show AW g 74 _ _ _ 0 0
  refine aw_aload_n hG 0 rfl dX4_addUnit_74 rfl ?_
  obtain ⟨v_11, hv_11, h⟩ := bd_o h
  refine aw_callVv (As := []) (rest := []) hG (c_X4_trim (r0 := r0) (c := e_10) hr0 hv_11) l_220 wv_X4_trim (rv_X4 hG hr0) rfl rfl rfl (by decide) (Nat.zero_le _) (Nat.zero_le _) (Nat.le_of_ble_eq_true rfl) dX4_addUnit_75 ?_
  obtain rfl := Option.some.inj h
  exact FinV.z hK dX4_addUnit_78
theorem c_X4_addUnit {c : CS} {m : MS} {z : Nat → Int64} {r0 : Nat} {x1 : Int32} {s : CS} (hr0 : r0 < 4) (h : f_X4_addUnit r0 x1 c = some s) : Ct yX4_addUnit cX4_addUnit 5 none 3 (fun w => [.ref (wad w (9 + 2 * r0)), .int x1]) (c, m, z) (fun _ => none) (s, m, z) := Ct_ofV (by decide +kernel) (fun _ => Nat.le_of_ble_eq_true rfl) (fun g hG hK => w_X4_addUnit hr0 hG h hK)
def f_X4_against_L24 (r0 : Nat) (r1 : Nat) (x2 : Int32) (x3 : Int32) (c : CS) : Option ((Int32) ⊕ (Int32 ⊕ Unit)) :=
  if x2 < x3 then
    some (.inr (.inr ()))
  else
    lt ((f_X4_limbAt r0 x3 c) - (f_X4_limbAt r1 x3 c)) fun x4_3 =>
    if x4_3 = 0 then
      lt (x3 + 1) fun x3_4 =>
      some (.inl x3_4)
    else
      some (.inr (.inl x4_3))
set_option maxRecDepth 20000 in
theorem w_X4_against_L24 {g : Cx} {mc ms : Nat} {c : CS} {m : MS} {z : Nat → Int64} {r0 : Nat} {r1 : Nat} {x2 : Int32} {x3 : Int32} {s : ((Int32) ⊕ (Int32 ⊕ Unit))} (hr0 : r0 < 4) (hr1 : r1 < 4) (hG : Gd g RX4 cX4_against 5 2 mc ms) (h : f_X4_against_L24 r0 r1 x2 x3 c = some s) (hK : Sum.elim (fun a => AW g 24 [(0, .ref (wad (cxw g) (9 + 2 * r0))), (1, .ref (wad (cxw g) (9 + 2 * r1))), (2, .int x2), (3, .int a)] [] (c, m, z) 0 0) (Sum.elim (fun e => AW g 47 [(4, .int e)] [] (c, m, z) 0 0) (fun e => AW g 56 [] [] (c, m, z) 0 0)) s) : AW g 24 [(0, .ref (wad (cxw g) (9 + 2 * r0))), (1, .ref (wad (cxw g) (9 + 2 * r1))), (2, .int x2), (3, .int x3)] [] (c, m, z) 0 0 := by
  unfold f_X4_against_L24 at h
  refine aw_iload_n hG 3 rfl dX4_against_24 rfl ?_
  refine aw_iload_n hG 2 rfl dX4_against_25 rfl ?_
  refine aw_icmp_gt (t := 56) hG dX4_against_26 rfl (fun hc => ?_) (fun hc => ?_)
  · replace h := it_p hc h
    obtain rfl := Option.some.inj h
    refine aw_sub (L' := []) [] rfl ?_
    exact hK
  · replace h := it_n hc h
    refine aw_aload_n hG 0 rfl dX4_against_29 rfl ?_
    refine aw_iload_n hG 3 rfl dX4_against_30 rfl ?_
    refine aw_callVi (As := [.int x3]) (rest := []) hG (c_X4_limbAt (r0 := r0) (x1 := x3) (c := c) hr0) l_84 wv_X4_limbAt (rv_X4 hG hr0) rfl rfl rfl (by decide) (Nat.zero_le _) (Nat.zero_le _) (Nat.le_of_ble_eq_true rfl) dX4_against_31 ?_
    refine aw_aload_n hG 1 rfl dX4_against_34 rfl ?_
    refine aw_iload_n hG 3 rfl dX4_against_35 rfl ?_
    refine aw_callVi (As := [.int x3]) (rest := [.int (f_X4_limbAt r0 x3 c)]) hG (c_X4_limbAt (r0 := r1) (x1 := x3) (c := c) hr1) l_84 wv_X4_limbAt (rv_X4 hG hr1) rfl rfl rfl (by decide) (Nat.zero_le _) (Nat.zero_le _) (Nat.le_of_ble_eq_true rfl) dX4_against_36 ?_
    refine aw_isub hG dX4_against_39 ?_
    refine aw_topi (fun x4_3 hx4_3 => ?_)
    replace h := lt_r hx4_3 h
    refine aw_istore (L' := [(4, .int x4_3), (0, .ref (wad (cxw g) (9 + 2 * r0))), (1, .ref (wad (cxw g) (9 + 2 * r1))), (2, .int x2), (3, .int x3)]) hG dX4_against_40 (by decide) rfl ?_
    refine aw_iload hG 0 rfl dX4_against_42 ?_
    refine aw_if_eq (t := 50) hG dX4_against_44 rfl (fun hc => ?_) (fun hc => ?_)
    · replace h := it_p hc h
      obtain ⟨x3_4, hx3_4⟩ : ∃ y : Int32, y = x3 + 1 := ⟨_, rfl⟩
      replace h := lt_r hx3_4 h
      refine aw_iinc (v := x3_4) (L' := [(3, .int x3_4), (4, .int x4_3), (0, .ref (wad (cxw g) (9 + 2 * r0))), (1, .ref (wad (cxw g) (9 + 2 * r1))), (2, .int x2)]) hG 4 rfl dX4_against_50 (by rw [hx3_4]; rfl) (by decide) rfl ?_
      refine aw_goto (t := 24) hG dX4_against_53 rfl ?_
      obtain rfl := Option.some.inj h
      refine aw_sub (L' := [(0, .ref (wad (cxw g) (9 + 2 * r0))), (1, .ref (wad (cxw g) (9 + 2 * r1))), (2, .int x2), (3, .int x3_4)]) [2, 3, 4, 0] rfl ?_
      exact hK
    · replace h := it_n hc h
      obtain rfl := Option.some.inj h
      refine aw_sub (L' := [(4, .int x4_3)]) [0] rfl ?_
      exact hK
noncomputable def f_X4_against (r0 : Nat) (r1 : Nat) (c : CS) : Option Int32 :=
  lt (f_JM_max (rwE c r0) (rwE c r1)) fun x2_1 =>
  lt (f_JM_min (rwF c r0) (rwF c r1)) fun x3_2 =>
  Option.bind (Lp (fun a => f_X4_against_L24 r0 r1 x2_1 a c) x3_2) fun e_7 =>
  Sum.elim (fun e_8 =>
    some e_8) (fun e_9 =>
    some 0) e_7
set_option maxRecDepth 20000 in
theorem w_X4_against {g : Cx} {mc ms : Nat} {c : CS} {m : MS} {z : Nat → Int64} {r0 : Nat} {r1 : Nat} {s : Int32} (hr0 : r0 < 4) (hr1 : r1 < 4) (hG : Gd g RX4 cX4_against 5 2 mc ms) (h : f_X4_against r0 r1 c = some s) (hK : FinI g cX4_against mc ms s (c, m, z)) : AW g 0 [(0, .ref (wad (cxw g) (9 + 2 * r0))), (1, .ref (wad (cxw g) (9 + 2 * r1)))] [] (c, m, z) 0 0 := by
  unfold f_X4_against at h
  refine aw_aload_n hG 0 rfl dX4_against_0 rfl ?_
  refine gt_rwE hG hr0 l_73 dX4_against_1 ?_
  refine aw_aload_n hG 1 rfl dX4_against_4 rfl ?_
  refine gt_rwE hG hr1 l_73 dX4_against_5 ?_
  refine aw_callSi (As := [.int (rwE c r0), .int (rwE c r1)]) (rest := []) hG (c_JM_max (x0 := rwE c r0) (x1 := rwE c r1) (c := c) ) l_193 ws_JM_max rfl rfl rfl (by decide) (Nat.zero_le _) (Nat.zero_le _) (Nat.le_of_ble_eq_true rfl) dX4_against_8 ?_
  refine aw_topi (fun x2_1 hx2_1 => ?_)
  replace h := lt_r hx2_1 h
  refine aw_istore_n (L' := [(2, .int x2_1), (0, .ref (wad (cxw g) (9 + 2 * r0))), (1, .ref (wad (cxw g) (9 + 2 * r1)))]) hG dX4_against_11 rfl (by decide) rfl ?_
  refine aw_aload_n hG 1 rfl dX4_against_12 rfl ?_
  refine gt_rwF hG hr0 l_72 dX4_against_13 ?_
  refine aw_aload_n hG 2 rfl dX4_against_16 rfl ?_
  refine gt_rwF hG hr1 l_72 dX4_against_17 ?_
  refine aw_callSi (As := [.int (rwF c r0), .int (rwF c r1)]) (rest := []) hG (c_JM_min (x0 := rwF c r0) (x1 := rwF c r1) (c := c) ) l_192 ws_JM_min rfl rfl rfl (by decide) (Nat.zero_le _) (Nat.zero_le _) (Nat.le_of_ble_eq_true rfl) dX4_against_20 ?_
  refine aw_topi (fun x3_2 hx3_2 => ?_)
  replace h := lt_r hx3_2 h
  refine aw_istore_n (L' := [(3, .int x3_2), (2, .int x2_1), (0, .ref (wad (cxw g) (9 + 2 * r0))), (1, .ref (wad (cxw g) (9 + 2 * r1)))]) hG dX4_against_23 rfl (by decide) rfl ?_
  obtain ⟨e_7, he, h⟩ := bd_o h
  refine aw_sub (L' := [(0, .ref (wad (cxw g) (9 + 2 * r0))), (1, .ref (wad (cxw g) (9 + 2 * r1))), (2, .int x2_1), (3, .int x3_2)]) [2, 3, 1, 0] rfl ?_
  refine Lp_w (F := (fun a => f_X4_against_L24 r0 r1 x2_1 a c)) (S := (fun a => AW g 24 [(0, .ref (wad (cxw g) (9 + 2 * r0))), (1, .ref (wad (cxw g) (9 + 2 * r1))), (2, .int x2_1), (3, .int a)] [] (c, m, z) 0 0)) (E := (Sum.elim (fun e => AW g 47 [(4, .int e)] [] (c, m, z) 0 0) (fun e => AW g 56 [] [] (c, m, z) 0 0))) (a := x3_2) he (fun a s h hK => w_X4_against_L24 (r0 := r0) (r1 := r1) (x2 := x2_1) (x3 := a) (c := c) hr0 hr1 hG h hK) ?_
  rcases e_7 with e_8 | e_9
  · replace h := el_l h
    show AW g 47 _ _ _ 0 0
    refine aw_iload hG 0 rfl dX4_against_47 ?_
    obtain rfl := Option.some.inj h
    exact FinI.z hK dX4_against_49
  · replace h := el_r h
    show AW g 56 _ _ _ 0 0
    refine aw_iconst (v := 0) hG dX4_against_56 rfl ?_
    obtain rfl := Option.some.inj h
    exact FinI.z hK dX4_against_57
theorem c_X4_against {c : CS} {m : MS} {z : Nat → Int64} {r0 : Nat} {r1 : Nat} {s : Int32} (hr0 : r0 < 4) (hr1 : r1 < 4) (h : f_X4_against r0 r1 c = some s) : Ct yX4_against cX4_against 5 (some .int) 2 (fun w => [.ref (wad w (9 + 2 * r0)), .ref (wad w (9 + 2 * r1))]) (c, m, z) (fun _ => some (.int s)) (c, m, z) := Ct_ofI (by decide +kernel) (fun _ => Nat.le_of_ble_eq_true rfl) (fun g hG hK => w_X4_against hr0 hr1 hG h hK)
def f_X4_whole (r0 : Nat) (c : CS) : Int64 :=
  lt ((f_X4_limbAt r0 33 c).toInt64) fun x1_1 =>
  lt ((x1_1 * 1000000000) + ((f_X4_limbAt r0 34 c).toInt64)) fun x1_2 =>
  ((x1_2 * 1000000000) + ((f_X4_limbAt r0 35 c).toInt64))
set_option maxRecDepth 20000 in
theorem w_X4_whole {g : Cx} {mc ms : Nat} {c : CS} {m : MS} {z : Nat → Int64} {r0 : Nat} {s : Int64} (hr0 : r0 < 4) (hG : Gd g RX4 cX4_whole 3 2 mc ms) (h : f_X4_whole r0 c = s) (hK : FinJ g cX4_whole mc ms s (c, m, z)) : AW g 0 [(0, .ref (wad (cxw g) (9 + 2 * r0)))] [] (c, m, z) 0 0 := by
  unfold f_X4_whole at h
  refine aw_aload_n hG 0 rfl dX4_whole_0 rfl ?_
  refine aw_bipush (v := 33) hG dX4_whole_1 rfl ?_
  refine aw_callVi (As := [.int 33]) (rest := []) hG (c_X4_limbAt (r0 := r0) (x1 := 33) (c := c) hr0) l_84 wv_X4_limbAt (rv_X4 hG hr0) rfl rfl rfl (by decide) (Nat.zero_le _) (Nat.zero_le _) (Nat.le_of_ble_eq_true rfl) dX4_whole_3 ?_
  refine aw_i2l hG dX4_whole_6 ?_
  refine aw_topl (fun x1_1 hx1_1 => ?_)
  replace h := lt_r hx1_1 h
  refine aw_lstore_n (L' := [(1, .long x1_1), (0, .ref (wad (cxw g) (9 + 2 * r0)))]) hG dX4_whole_7 rfl (by decide) rfl ?_
  refine aw_lload_n hG 0 rfl dX4_whole_8 rfl ?_
  refine aw_ldc2 hG l_200 dX4_whole_9 ?_
  refine aw_lmul hG dX4_whole_12 ?_
  refine aw_aload_n hG 1 rfl dX4_whole_13 rfl ?_
  refine aw_bipush (v := 34) hG dX4_whole_14 rfl ?_
  refine aw_callVi (As := [.int 34]) (rest := [.long (x1_1 * 1000000000)]) hG (c_X4_limbAt (r0 := r0) (x1 := 34) (c := c) hr0) l_84 wv_X4_limbAt (rv_X4 hG hr0) rfl rfl rfl (by decide) (Nat.zero_le _) (Nat.zero_le _) (Nat.le_of_ble_eq_true rfl) dX4_whole_16 ?_
  refine aw_i2l hG dX4_whole_19 ?_
  refine aw_ladd hG dX4_whole_20 ?_
  refine aw_topl (fun x1_2 hx1_2 => ?_)
  replace h := lt_r hx1_2 h
  refine aw_lstore_n (L' := [(1, .long x1_2), (0, .ref (wad (cxw g) (9 + 2 * r0)))]) hG dX4_whole_21 rfl (by decide) rfl ?_
  refine aw_lload_n hG 0 rfl dX4_whole_22 rfl ?_
  refine aw_ldc2 hG l_200 dX4_whole_23 ?_
  refine aw_lmul hG dX4_whole_26 ?_
  refine aw_aload_n hG 1 rfl dX4_whole_27 rfl ?_
  refine aw_bipush (v := 35) hG dX4_whole_28 rfl ?_
  refine aw_callVi (As := [.int 35]) (rest := [.long (x1_2 * 1000000000)]) hG (c_X4_limbAt (r0 := r0) (x1 := 35) (c := c) hr0) l_84 wv_X4_limbAt (rv_X4 hG hr0) rfl rfl rfl (by decide) (Nat.zero_le _) (Nat.zero_le _) (Nat.le_of_ble_eq_true rfl) dX4_whole_30 ?_
  refine aw_i2l hG dX4_whole_33 ?_
  refine aw_ladd hG dX4_whole_34 ?_
  subst h
  exact FinJ.z hK dX4_whole_35
theorem c_X4_whole {c : CS} {m : MS} {z : Nat → Int64} {r0 : Nat} (hr0 : r0 < 4) : Ct yX4_whole cX4_whole 3 (some .long) 2 (fun w => [.ref (wad w (9 + 2 * r0))]) (c, m, z) (fun _ => some (.long (f_X4_whole r0 c))) (c, m, z) := Ct_ofJ (by decide +kernel) (fun _ => Nat.le_of_ble_eq_true rfl) (fun g hG hK => w_X4_whole hr0 hG rfl hK)
def f_X4_hasMore (r0 : Nat) (c : CS) : Int32 :=
  if (rwX c r0) = 0 then
    if (rwE c r0) < 36 then
      0
    else
      1
  else
    1
set_option maxRecDepth 20000 in
theorem w_X4_hasMore {g : Cx} {mc ms : Nat} {c : CS} {m : MS} {z : Nat → Int64} {r0 : Nat} {s : Int32} (hr0 : r0 < 4) (hG : Gd g RX4 cX4_hasMore 1 1 mc ms) (h : f_X4_hasMore r0 c = s) (hK : FinZ g cX4_hasMore mc ms s (c, m, z)) : AW g 0 [(0, .ref (wad (cxw g) (9 + 2 * r0)))] [] (c, m, z) 0 0 := by
  unfold f_X4_hasMore at h
  refine aw_aload_n hG 0 rfl dX4_hasMore_0 rfl ?_
  refine gt_rwX hG hr0 l_194 dX4_hasMore_1 ?_
  refine aw_if_ne (t := 16) hG dX4_hasMore_4 rfl (fun hc => ?_) (fun hc => ?_)
  · replace h := it_n hc h
    refine aw_iconst (v := 1) hG dX4_hasMore_16 rfl ?_
    refine aw_goto (t := 21) hG dX4_hasMore_17 rfl ?_
    subst h
    exact FinZ.z hK (Or.inr rfl) dX4_hasMore_21
  · replace h := it_p hc h
    refine aw_aload_n hG 0 rfl dX4_hasMore_7 rfl ?_
    refine gt_rwE hG hr0 l_73 dX4_hasMore_8 ?_
    refine aw_bipush (v := 36) hG dX4_hasMore_11 rfl ?_
    refine aw_icmp_lt (t := 20) hG dX4_hasMore_13 rfl (fun hc => ?_) (fun hc => ?_)
    · replace h := it_p hc h
      refine aw_iconst (v := 0) hG dX4_hasMore_20 rfl ?_
      subst h
      exact FinZ.z hK (Or.inl rfl) dX4_hasMore_21
    · replace h := it_n hc h
      refine aw_iconst (v := 1) hG dX4_hasMore_16 rfl ?_
      refine aw_goto (t := 21) hG dX4_hasMore_17 rfl ?_
      subst h
      exact FinZ.z hK (Or.inr rfl) dX4_hasMore_21
theorem c_X4_hasMore {c : CS} {m : MS} {z : Nat → Int64} {r0 : Nat} (hr0 : r0 < 4) : Ct yX4_hasMore cX4_hasMore 1 (some .boolean) 1 (fun w => [.ref (wad w (9 + 2 * r0))]) (c, m, z) (fun _ => some (.int (f_X4_hasMore r0 c))) (c, m, z) := Ct_ofZ (by decide +kernel) (fun _ => Nat.le_of_ble_eq_true rfl) (fun g hG hK => w_X4_hasMore hr0 hG rfl hK)
theorem b_X4_hasMore {r0 : Nat} {c : CS} : f_X4_hasMore r0 c = 0 ∨ f_X4_hasMore r0 c = 1 := by
  unfold f_X4_hasMore
  repeat' split
  all_goals first | exact Or.inl rfl | exact Or.inr rfl
def f_X0_room (t0 : Nat) (c : CS) : Int32 :=
  ((Int32.ofNat (brLen t0)) - (brN c t0))
set_option maxRecDepth 20000 in
theorem w_X0_room {g : Cx} {mc ms : Nat} {c : CS} {m : MS} {z : Nat → Int64} {t0 : Nat} {s : Int32} (ht0 : t0 < 2) (hG : Gd g RX0 cX0_room 1 1 mc ms) (h : f_X0_room t0 c = s) (hK : FinI g cX0_room mc ms s (c, m, z)) : AW g 0 [(0, .ref (wad (cxw g) (1 + 2 * t0)))] [] (c, m, z) 0 0 := by
  unfold f_X0_room at h
  refine aw_aload_n hG 0 rfl dX0_room_0 rfl ?_
  refine gt_brB hG ht0 l_0 dX0_room_1 ?_
  refine an_brB hG ht0 dX0_room_4 ?_
  refine aw_aload_n hG 0 rfl dX0_room_5 rfl ?_
  refine gt_brN hG ht0 l_1 dX0_room_6 ?_
  refine aw_isub hG dX0_room_9 ?_
  subst h
  exact FinI.z hK dX0_room_10
theorem c_X0_room {c : CS} {m : MS} {z : Nat → Int64} {t0 : Nat} (ht0 : t0 < 2) : Ct yX0_room cX0_room 1 (some .int) 1 (fun w => [.ref (wad w (1 + 2 * t0))]) (c, m, z) (fun _ => some (.int (f_X0_room t0 c))) (c, m, z) := Ct_ofI (by decide +kernel) (fun _ => Nat.le_of_ble_eq_true rfl) (fun g hG hK => w_X0_room ht0 hG rfl hK)
def f_X0_add (t0 : Nat) (x1 : Int32) (c : CS) : CS :=
  if (brN c t0) < 0 then
    c
  else
    if (Int32.ofNat (brLen t0)) ≤ (brN c t0) then
      c
    else
      lt (sbrB c t0 (upd (brB c t0) (brN c t0).toNatClampNeg (vp_nar .byte (i2by x1)))) fun c_1 =>
      lt (sbrN c_1 t0 ((brN c_1 t0) + 1)) fun c_2 =>
      c_2
set_option maxRecDepth 20000 in
theorem w_X0_add {g : Cx} {mc ms : Nat} {c : CS} {m : MS} {z : Nat → Int64} {t0 : Nat} {x1 : Int32} {s : CS} (ht0 : t0 < 2) (hG : Gd g RX0 cX0_add 2 1 mc ms) (h : f_X0_add t0 x1 c = s) (hK : FinV g cX0_add mc ms (s, m, z)) : AW g 0 [(0, .ref (wad (cxw g) (1 + 2 * t0))), (1, .int x1)] [] (c, m, z) 0 0 := by
  unfold f_X0_add at h
  refine aw_aload_n hG 0 rfl dX0_add_0 rfl ?_
  refine gt_brN hG ht0 l_1 dX0_add_1 ?_
  refine aw_if_lt (t := 40) hG dX0_add_4 rfl (fun hc => ?_) (fun hc => ?_)
  · replace h := it_p hc h
    subst h
    exact FinV.z hK dX0_add_40
  · replace h := it_n hc h
    refine aw_aload_n hG 0 rfl dX0_add_7 rfl ?_
    refine gt_brN hG ht0 l_1 dX0_add_8 ?_
    refine aw_aload_n hG 0 rfl dX0_add_11 rfl ?_
    refine gt_brB hG ht0 l_0 dX0_add_12 ?_
    refine an_brB hG ht0 dX0_add_15 ?_
    refine aw_icmp_ge (t := 40) hG dX0_add_16 rfl (fun hc => ?_) (fun hc => ?_)
    · replace h := it_p hc h
      subst h
      exact FinV.z hK dX0_add_40
    · replace h := it_n hc h
      refine aw_aload_n hG 0 rfl dX0_add_19 rfl ?_
      refine gt_brB hG ht0 l_0 dX0_add_20 ?_
      refine aw_aload_n hG 0 rfl dX0_add_23 rfl ?_
      refine gt_brN hG ht0 l_1 dX0_add_24 ?_
      refine aw_iload_n hG 1 rfl dX0_add_27 rfl ?_
      refine aw_i2bJ hG dX0_add_28 ?_
      refine as_brB hG ht0 (by first | exact vI_mk (a := Int32.ofNat (brLen t0)) (by assumption) (by assumption) (brL_toInt ht0) | exact vI_mk2 (a := Int32.ofNat (brLen t0)) (by assumption) (by assumption) (brL_toInt ht0)) dX0_add_29 ?_
      refine aw_stc (fun c_1 hc_1 => ?_)
      replace h := lt_r hc_1 h
      refine aw_aload_n hG 0 rfl dX0_add_30 rfl ?_
      refine aw_dup hG dX0_add_31 rfl ?_
      refine gt_brN hG ht0 l_1 dX0_add_32 ?_
      refine aw_iconst (v := 1) hG dX0_add_35 rfl ?_
      refine aw_iadd hG dX0_add_36 ?_
      refine pt_brN hG ht0 l_1 dX0_add_37 ?_
      refine aw_stc (fun c_2 hc_2 => ?_)
      replace h := lt_r hc_2 h
      subst h
      exact FinV.z hK dX0_add_40
theorem c_X0_add {c : CS} {m : MS} {z : Nat → Int64} {t0 : Nat} {x1 : Int32} {s : CS} (ht0 : t0 < 2) (h : f_X0_add t0 x1 c = s) : Ct yX0_add cX0_add 2 none 1 (fun w => [.ref (wad w (1 + 2 * t0)), .int x1]) (c, m, z) (fun _ => none) (s, m, z) := Ct_ofV (by decide +kernel) (fun _ => Nat.le_of_ble_eq_true rfl) (fun g hG hK => w_X0_add ht0 hG h hK)
def f_X0_addWord_L2 (t0 : Nat) (j1 : Nat) (x2 : Int32) (c : CS) : Option ((Int32 × CS) ⊕ (CS)) :=
  if (f_JS_length j1) ≤ x2 then
    some (.inr c)
  else
    Option.bind (f_JS_charAt j1 x2) fun v_1 =>
    lt (f_X0_add t0 v_1 c) fun v_2 =>
    lt (x2 + 1) fun x2_3 =>
    some (.inl (x2_3, v_2))
set_option maxRecDepth 20000 in
theorem w_X0_addWord_L2 {g : Cx} {mc ms : Nat} {c : CS} {m : MS} {z : Nat → Int64} {t0 : Nat} {j1 : Nat} {x2 : Int32} {s : ((Int32 × CS) ⊕ (CS))} (ht0 : t0 < 2) (hj1 : j1 < 27) (hG : Gd g RX0 cX0_addWord 3 5 mc ms) (h : f_X0_addWord_L2 t0 j1 x2 c = some s) (hK : Sum.elim (fun a => AW g 2 [(0, .ref (wad (cxw g) (1 + 2 * t0))), (1, .ref (wad (cxw g) (40 + j1))), (2, .int a.1)] [] (a.2, m, z) 0 0) (fun e => AW g 25 [] [] (e, m, z) 0 0) s) : AW g 2 [(0, .ref (wad (cxw g) (1 + 2 * t0))), (1, .ref (wad (cxw g) (40 + j1))), (2, .int x2)] [] (c, m, z) 0 0 := by
  unfold f_X0_addWord_L2 at h
  refine aw_iload_n hG 2 rfl dX0_addWord_2 rfl ?_
  refine aw_aload_n hG 1 rfl dX0_addWord_3 rfl ?_
  refine aw_callVi (As := []) (rest := [.int x2]) hG (c_JS_length (j0 := j1) (c := c) hj1) l_28 wv_JS_length (rv_S hG hj1) rfl rfl rfl (by decide) (Nat.zero_le _) (Nat.zero_le _) (Nat.le_of_ble_eq_true rfl) dX0_addWord_4 ?_
  refine aw_icmp_ge (t := 25) hG dX0_addWord_7 rfl (fun hc => ?_) (fun hc => ?_)
  · replace h := it_p hc h
    obtain rfl := Option.some.inj h
    refine aw_sub (L' := []) [] rfl ?_
    exact hK
  · replace h := it_n hc h
    refine aw_aload_n hG 0 rfl dX0_addWord_10 rfl ?_
    refine aw_aload_n hG 1 rfl dX0_addWord_11 rfl ?_
    refine aw_iload_n hG 2 rfl dX0_addWord_12 rfl ?_
    obtain ⟨v_1, hv_1, h⟩ := bd_o h
    refine aw_callVi (As := [.int x2]) (rest := [.ref (wad (cxw g) (1 + 2 * t0))]) hG (c_JS_charAt (j0 := j1) (x1 := x2) (c := c) hj1 hv_1) l_33 wv_JS_charAt (rv_S hG hj1) rfl rfl rfl (by decide) (Nat.zero_le _) (Nat.zero_le _) (Nat.le_of_ble_eq_true rfl) dX0_addWord_13 ?_
    obtain ⟨v_2, hv_2⟩ : ∃ y, y = f_X0_add t0 v_1 c := ⟨_, rfl⟩
    replace h := lt_r hv_2 h
    refine aw_callVv (As := [.int v_1]) (rest := []) hG (c_X0_add (t0 := t0) (x1 := v_1) (c := c) ht0 hv_2.symm) l_38 wv_X0_add (rv_X0 hG ht0) rfl rfl rfl (by decide) (Nat.zero_le _) (Nat.zero_le _) (Nat.le_of_ble_eq_true rfl) dX0_addWord_16 ?_
    obtain ⟨x2_3, hx2_3⟩ : ∃ y : Int32, y = x2 + 1 := ⟨_, rfl⟩
    replace h := lt_r hx2_3 h
    refine aw_iinc (v := x2_3) (L' := [(2, .int x2_3), (0, .ref (wad (cxw g) (1 + 2 * t0))), (1, .ref (wad (cxw g) (40 + j1)))]) hG 2 rfl dX0_addWord_19 (by rw [hx2_3]; rfl) (by decide) rfl ?_
    refine aw_goto (t := 2) hG dX0_addWord_22 rfl ?_
    obtain rfl := Option.some.inj h
    refine aw_sub (L' := [(0, .ref (wad (cxw g) (1 + 2 * t0))), (1, .ref (wad (cxw g) (40 + j1))), (2, .int x2_3)]) [1, 2, 0] rfl ?_
    exact hK
noncomputable def f_X0_addWord (t0 : Nat) (j1 : Nat) (c : CS) : Option CS :=
  Option.bind (Lp (fun a => f_X0_addWord_L2 t0 j1 a.1 a.2) (0, c)) fun e_5 =>
  some e_5
set_option maxRecDepth 20000 in
theorem w_X0_addWord {g : Cx} {mc ms : Nat} {c : CS} {m : MS} {z : Nat → Int64} {t0 : Nat} {j1 : Nat} {s : CS} (ht0 : t0 < 2) (hj1 : j1 < 27) (hG : Gd g RX0 cX0_addWord 3 5 mc ms) (h : f_X0_addWord t0 j1 c = some s) (hK : FinV g cX0_addWord mc ms (s, m, z)) : AW g 0 [(0, .ref (wad (cxw g) (1 + 2 * t0))), (1, .ref (wad (cxw g) (40 + j1)))] [] (c, m, z) 0 0 := by
  unfold f_X0_addWord at h
  refine aw_iconst (v := 0) hG dX0_addWord_0 rfl ?_
  refine aw_istore_n (L' := [(2, .int 0), (0, .ref (wad (cxw g) (1 + 2 * t0))), (1, .ref (wad (cxw g) (40 + j1)))]) hG dX0_addWord_1 rfl (by decide) rfl ?_
  obtain ⟨e_5, he, h⟩ := bd_o h
  refine aw_sub (L' := [(0, .ref (wad (cxw g) (1 + 2 * t0))), (1, .ref (wad (cxw g) (40 + j1))), (2, .int 0)]) [1, 2, 0] rfl ?_
  refine Lp_w (F := (fun a => f_X0_addWord_L2 t0 j1 a.1 a.2)) (S := (fun a => AW g 2 [(0, .ref (wad (cxw g) (1 + 2 * t0))), (1, .ref (wad (cxw g) (40 + j1))), (2, .int a.1)] [] (a.2, m, z) 0 0)) (E := (fun e => AW g 25 [] [] (e, m, z) 0 0)) (a := (0, c)) he (fun a s h hK => w_X0_addWord_L2 (t0 := t0) (j1 := j1) (x2 := a.1) (c := a.2) ht0 hj1 hG h hK) ?_
  show AW g 25 _ _ _ 0 0
  obtain rfl := Option.some.inj h
  exact FinV.z hK dX0_addWord_25
theorem c_X0_addWord {c : CS} {m : MS} {z : Nat → Int64} {t0 : Nat} {j1 : Nat} {s : CS} (ht0 : t0 < 2) (hj1 : j1 < 27) (h : f_X0_addWord t0 j1 c = some s) : Ct yX0_addWord cX0_addWord 3 none 5 (fun w => [.ref (wad w (1 + 2 * t0)), .ref (wad w (40 + j1))]) (c, m, z) (fun _ => none) (s, m, z) := Ct_ofV (by decide +kernel) (fun _ => Nat.le_of_ble_eq_true rfl) (fun g hG hK => w_X0_addWord ht0 hj1 hG h hK)
def f_X0_startWith (t0 : Nat) (x1 : Int32) (c : CS) : CS :=
  lt (sbrN c t0 0) fun c_1 =>
  if x1 = 0 then
    c_1
  else
    lt (f_X0_add t0 45 c_1) fun v_2 =>
    v_2
set_option maxRecDepth 20000 in
theorem w_X0_startWith {g : Cx} {mc ms : Nat} {c : CS} {m : MS} {z : Nat → Int64} {t0 : Nat} {x1 : Int32} {s : CS} (ht0 : t0 < 2) (hG : Gd g RX0 cX0_startWith 2 2 mc ms) (h : f_X0_startWith t0 x1 c = s) (hK : FinV g cX0_startWith mc ms (s, m, z)) : AW g 0 [(0, .ref (wad (cxw g) (1 + 2 * t0))), (1, .int x1)] [] (c, m, z) 0 0 := by
  unfold f_X0_startWith at h
  refine aw_aload_n hG 0 rfl dX0_startWith_0 rfl ?_
  refine aw_iconst (v := 0) hG dX0_startWith_1 rfl ?_
  refine pt_brN hG ht0 l_1 dX0_startWith_2 ?_
  refine aw_stc (fun c_1 hc_1 => ?_)
  replace h := lt_r hc_1 h
  refine aw_iload_n hG 1 rfl dX0_startWith_5 rfl ?_
  refine aw_if_eq (t := 15) hG dX0_startWith_6 rfl (fun hc => ?_) (fun hc => ?_)
  · replace h := it_p hc h
    subst h
    exact FinV.z hK dX0_startWith_15
  · replace h := it_n hc h
    refine aw_aload_n hG 0 rfl dX0_startWith_9 rfl ?_
    refine aw_bipush (v := 45) hG dX0_startWith_10 rfl ?_
    obtain ⟨v_2, hv_2⟩ : ∃ y, y = f_X0_add t0 45 c_1 := ⟨_, rfl⟩
    replace h := lt_r hv_2 h
    refine aw_callVv (As := [.int 45]) (rest := []) hG (c_X0_add (t0 := t0) (x1 := 45) (c := c_1) ht0 hv_2.symm) l_38 wv_X0_add (rv_X0 hG ht0) rfl rfl rfl (by decide) (Nat.zero_le _) (Nat.zero_le _) (Nat.le_of_ble_eq_true rfl) dX0_startWith_12 ?_
    subst h
    exact FinV.z hK dX0_startWith_15
theorem c_X0_startWith {c : CS} {m : MS} {z : Nat → Int64} {t0 : Nat} {x1 : Int32} {s : CS} (ht0 : t0 < 2) (h : f_X0_startWith t0 x1 c = s) : Ct yX0_startWith cX0_startWith 2 none 2 (fun w => [.ref (wad w (1 + 2 * t0)), .int x1]) (c, m, z) (fun _ => none) (s, m, z) := Ct_ofV (by decide +kernel) (fun _ => Nat.le_of_ble_eq_true rfl) (fun g hG hK => w_X0_startWith ht0 hG h hK)
def f_X1_digitAt (x1 : Int32) (c : CS) : Int32 :=
  if x1 < 0 then
    0
  else
    if (dcC c) ≤ x1 then
      0
    else
      if x1 < 1420 then
        (dcD c x1.toNatClampNeg)
      else
        0
set_option maxRecDepth 20000 in
theorem w_X1_digitAt {g : Cx} {mc ms : Nat} {c : CS} {m : MS} {z : Nat → Int64} {x1 : Int32} {s : Int32}  (hG : Gd g RX1 cX1_digitAt 2 1 mc ms) (h : f_X1_digitAt x1 c = s) (hK : FinI g cX1_digitAt mc ms s (c, m, z)) : AW g 0 [(0, .ref (wad (cxw g) 5)), (1, .int x1)] [] (c, m, z) 0 0 := by
  unfold f_X1_digitAt at h
  refine aw_iload_n hG 1 rfl dX1_digitAt_0 rfl ?_
  refine aw_if_lt (t := 19) hG dX1_digitAt_1 rfl (fun hc => ?_) (fun hc => ?_)
  · replace h := it_p hc h
    refine aw_iconst (v := 0) hG dX1_digitAt_19 rfl ?_
    refine aw_goto (t := 29) hG dX1_digitAt_20 rfl ?_
    subst h
    exact FinI.z hK dX1_digitAt_29
  · replace h := it_n hc h
    refine aw_iload_n hG 1 rfl dX1_digitAt_4 rfl ?_
    refine aw_aload_n hG 0 rfl dX1_digitAt_5 rfl ?_
    refine gt_dcC hG l_43 dX1_digitAt_6 ?_
    refine aw_icmp_ge (t := 19) hG dX1_digitAt_9 rfl (fun hc => ?_) (fun hc => ?_)
    · replace h := it_p hc h
      refine aw_iconst (v := 0) hG dX1_digitAt_19 rfl ?_
      refine aw_goto (t := 29) hG dX1_digitAt_20 rfl ?_
      subst h
      exact FinI.z hK dX1_digitAt_29
    · replace h := it_n hc h
      refine aw_iload_n hG 1 rfl dX1_digitAt_12 rfl ?_
      refine aw_sipush (v := 1420) hG dX1_digitAt_13 rfl ?_
      refine aw_icmp_lt (t := 23) hG dX1_digitAt_16 rfl (fun hc => ?_) (fun hc => ?_)
      · replace h := it_p hc h
        refine aw_aload_n hG 0 rfl dX1_digitAt_23 rfl ?_
        refine gt_dcD hG l_44 dX1_digitAt_24 ?_
        refine aw_iload_n hG 1 rfl dX1_digitAt_27 rfl ?_
        refine al_dcD (x := 0) hG (by first | exact vI_mk (a := 1420) (by assumption) (by assumption) rfl | exact vI_mk2 (a := 1420) (by assumption) (by assumption) rfl) dX1_digitAt_28 ?_
        subst h
        exact FinI.z hK dX1_digitAt_29
      · replace h := it_n hc h
        refine aw_iconst (v := 0) hG dX1_digitAt_19 rfl ?_
        refine aw_goto (t := 29) hG dX1_digitAt_20 rfl ?_
        subst h
        exact FinI.z hK dX1_digitAt_29
theorem c_X1_digitAt {c : CS} {m : MS} {z : Nat → Int64} {x1 : Int32}  : Ct yX1_digitAt cX1_digitAt 2 (some .int) 1 (fun w => [.ref (wad w 5), .int x1]) (c, m, z) (fun _ => some (.int (f_X1_digitAt x1 c))) (c, m, z) := Ct_ofI (by decide +kernel) (fun _ => Nat.le_of_ble_eq_true rfl) (fun g hG hK => w_X1_digitAt hG rfl hK)
def f_X0_addDigits_L2 (t0 : Nat) (x3 : Int32) (c : CS) : Option ((Int32 × CS) ⊕ (CS)) :=
  if (dcC c) ≤ x3 then
    some (.inr c)
  else
    lt (f_X0_add t0 (48 + (f_X1_digitAt x3 c)) c) fun v_1 =>
    lt (x3 + 1) fun x3_2 =>
    some (.inl (x3_2, v_1))
set_option maxRecDepth 20000 in
theorem w_X0_addDigits_L2 {g : Cx} {mc ms : Nat} {c : CS} {m : MS} {z : Nat → Int64} {t0 : Nat} {x3 : Int32} {s : ((Int32 × CS) ⊕ (CS))} (ht0 : t0 < 2) (hG : Gd g RX0 cX0_addDigits 4 2 mc ms) (h : f_X0_addDigits_L2 t0 x3 c = some s) (hK : Sum.elim (fun a => AW g 2 [(0, .ref (wad (cxw g) (1 + 2 * t0))), (1, .ref (wad (cxw g) 5)), (3, .int a.1)] [] (a.2, m, z) 0 0) (fun e => AW g 28 [] [] (e, m, z) 0 0) s) : AW g 2 [(0, .ref (wad (cxw g) (1 + 2 * t0))), (1, .ref (wad (cxw g) 5)), (3, .int x3)] [] (c, m, z) 0 0 := by
  unfold f_X0_addDigits_L2 at h
  refine aw_iload_n hG 2 rfl dX0_addDigits_2 rfl ?_
  refine aw_aload_n hG 1 rfl dX0_addDigits_3 rfl ?_
  refine gt_dcC hG l_45 dX0_addDigits_4 ?_
  refine aw_icmp_ge (t := 28) hG dX0_addDigits_7 rfl (fun hc => ?_) (fun hc => ?_)
  · replace h := it_p hc h
    obtain rfl := Option.some.inj h
    refine aw_sub (L' := []) [] rfl ?_
    exact hK
  · replace h := it_n hc h
    refine aw_aload_n hG 0 rfl dX0_addDigits_10 rfl ?_
    refine aw_bipush (v := 48) hG dX0_addDigits_11 rfl ?_
    refine aw_aload_n hG 1 rfl dX0_addDigits_13 rfl ?_
    refine aw_iload_n hG 2 rfl dX0_addDigits_14 rfl ?_
    refine aw_callVi (As := [.int x3]) (rest := [.int 48, .ref (wad (cxw g) (1 + 2 * t0))]) hG (c_X1_digitAt (x1 := x3) (c := c) ) l_46 wv_X1_digitAt (rv_X1 hG) rfl rfl rfl (by decide) (Nat.zero_le _) (Nat.zero_le _) (Nat.le_of_ble_eq_true rfl) dX0_addDigits_15 ?_
    refine aw_iadd hG dX0_addDigits_18 ?_
    obtain ⟨v_1, hv_1⟩ : ∃ y, y = f_X0_add t0 (48 + (f_X1_digitAt x3 c)) c := ⟨_, rfl⟩
    replace h := lt_r hv_1 h
    refine aw_callVv (As := [.int (48 + (f_X1_digitAt x3 c))]) (rest := []) hG (c_X0_add (t0 := t0) (x1 := 48 + (f_X1_digitAt x3 c)) (c := c) ht0 hv_1.symm) l_38 wv_X0_add (rv_X0 hG ht0) rfl rfl rfl (by decide) (Nat.zero_le _) (Nat.zero_le _) (Nat.le_of_ble_eq_true rfl) dX0_addDigits_19 ?_
    obtain ⟨x3_2, hx3_2⟩ : ∃ y : Int32, y = x3 + 1 := ⟨_, rfl⟩
    replace h := lt_r hx3_2 h
    refine aw_iinc (v := x3_2) (L' := [(3, .int x3_2), (0, .ref (wad (cxw g) (1 + 2 * t0))), (1, .ref (wad (cxw g) 5))]) hG 2 rfl dX0_addDigits_22 (by rw [hx3_2]; rfl) (by decide) rfl ?_
    refine aw_goto (t := 2) hG dX0_addDigits_25 rfl ?_
    obtain rfl := Option.some.inj h
    refine aw_sub (L' := [(0, .ref (wad (cxw g) (1 + 2 * t0))), (1, .ref (wad (cxw g) 5)), (3, .int x3_2)]) [1, 2, 0] rfl ?_
    exact hK
noncomputable def f_X0_addDigits (t0 : Nat) (x2 : Int32) (c : CS) : Option CS :=
  Option.bind (Lp (fun a => f_X0_addDigits_L2 t0 a.1 a.2) (x2, c)) fun e_4 =>
  some e_4
set_option maxRecDepth 20000 in
theorem w_X0_addDigits {g : Cx} {mc ms : Nat} {c : CS} {m : MS} {z : Nat → Int64} {t0 : Nat} {x2 : Int32} {s : CS} (ht0 : t0 < 2) (hG : Gd g RX0 cX0_addDigits 4 2 mc ms) (h : f_X0_addDigits t0 x2 c = some s) (hK : FinV g cX0_addDigits mc ms (s, m, z)) : AW g 0 [(0, .ref (wad (cxw g) (1 + 2 * t0))), (1, .ref (wad (cxw g) 5)), (2, .int x2)] [] (c, m, z) 0 0 := by
  unfold f_X0_addDigits at h
  refine aw_iload_n hG 2 rfl dX0_addDigits_0 rfl ?_
  refine aw_istore_n (L' := [(3, .int x2), (0, .ref (wad (cxw g) (1 + 2 * t0))), (1, .ref (wad (cxw g) 5)), (2, .int x2)]) hG dX0_addDigits_1 rfl (by decide) rfl ?_
  obtain ⟨e_4, he, h⟩ := bd_o h
  refine aw_sub (L' := [(0, .ref (wad (cxw g) (1 + 2 * t0))), (1, .ref (wad (cxw g) 5)), (3, .int x2)]) [1, 2, 0] rfl ?_
  refine Lp_w (F := (fun a => f_X0_addDigits_L2 t0 a.1 a.2)) (S := (fun a => AW g 2 [(0, .ref (wad (cxw g) (1 + 2 * t0))), (1, .ref (wad (cxw g) 5)), (3, .int a.1)] [] (a.2, m, z) 0 0)) (E := (fun e => AW g 28 [] [] (e, m, z) 0 0)) (a := (x2, c)) he (fun a s h hK => w_X0_addDigits_L2 (t0 := t0) (x3 := a.1) (c := a.2) ht0 hG h hK) ?_
  show AW g 28 _ _ _ 0 0
  obtain rfl := Option.some.inj h
  exact FinV.z hK dX0_addDigits_28
theorem c_X0_addDigits {c : CS} {m : MS} {z : Nat → Int64} {t0 : Nat} {x2 : Int32} {s : CS} (ht0 : t0 < 2) (h : f_X0_addDigits t0 x2 c = some s) : Ct yX0_addDigits cX0_addDigits 4 none 2 (fun w => [.ref (wad w (1 + 2 * t0)), .ref (wad w 5), .int x2]) (c, m, z) (fun _ => none) (s, m, z) := Ct_ofV (by decide +kernel) (fun _ => Nat.le_of_ble_eq_true rfl) (fun g hG hK => w_X0_addDigits ht0 hG h hK)
def f_X0_addNumber_J46 (t0 : Nat) (x2 : Int32) (x3 : Int32) (c : CS) : Option ((Int32 × CS) ⊕ (CS)) :=
  lt (x3 / 10) fun x3_3 =>
  some (.inl (x3_3, c))
set_option maxRecDepth 20000 in
theorem w_X0_addNumber_J46 {g : Cx} {mc ms : Nat} {c : CS} {m : MS} {z : Nat → Int64} {t0 : Nat} {x2 : Int32} {x3 : Int32} {s : ((Int32 × CS) ⊕ (CS))} (ht0 : t0 < 2) (hG : Gd g RX0 cX0_addNumber 4 2 mc ms) (h : f_X0_addNumber_J46 t0 x2 x3 c = some s) (hK : Sum.elim (fun a => AW g 19 [(0, .ref (wad (cxw g) (1 + 2 * t0))), (2, .int x2), (3, .int a.1)] [] (a.2, m, z) 0 0) (fun e => AW g 54 [] [] (e, m, z) 0 0) s) : AW g 46 [(0, .ref (wad (cxw g) (1 + 2 * t0))), (2, .int x2), (3, .int x3)] [] (c, m, z) 0 0 := by
  unfold f_X0_addNumber_J46 at h
  refine aw_iload_n hG 2 rfl dX0_addNumber_46 rfl ?_
  refine aw_bipush (v := 10) hG dX0_addNumber_47 rfl ?_
  refine aw_idiv hG dX0_addNumber_49 (by decide) ?_
  refine aw_topi (fun x3_3 hx3_3 => ?_)
  replace h := lt_r hx3_3 h
  refine aw_istore_n (L' := [(3, .int x3_3), (0, .ref (wad (cxw g) (1 + 2 * t0))), (2, .int x2)]) hG dX0_addNumber_50 rfl (by decide) rfl ?_
  refine aw_goto (t := 19) hG dX0_addNumber_51 rfl ?_
  obtain rfl := Option.some.inj h
  refine aw_sub (L' := [(0, .ref (wad (cxw g) (1 + 2 * t0))), (2, .int x2), (3, .int x3_3)]) [1, 2, 0] rfl ?_
  exact hK
def f_X0_addNumber_J33 (t0 : Nat) (x2 : Int32) (x3 : Int32) (c : CS) : Option ((Int32 × CS) ⊕ (CS)) :=
  if ¬ x3 = 0 then
    lt (f_X0_add t0 (48 + (irm (x2 / x3) 10)) c) fun v_2 =>
    f_X0_addNumber_J46 t0 x2 x3 v_2
  else none
set_option maxRecDepth 20000 in
theorem w_X0_addNumber_J33 {g : Cx} {mc ms : Nat} {c : CS} {m : MS} {z : Nat → Int64} {t0 : Nat} {x2 : Int32} {x3 : Int32} {s : ((Int32 × CS) ⊕ (CS))} (ht0 : t0 < 2) (hG : Gd g RX0 cX0_addNumber 4 2 mc ms) (h : f_X0_addNumber_J33 t0 x2 x3 c = some s) (hK : Sum.elim (fun a => AW g 19 [(0, .ref (wad (cxw g) (1 + 2 * t0))), (2, .int x2), (3, .int a.1)] [] (a.2, m, z) 0 0) (fun e => AW g 54 [] [] (e, m, z) 0 0) s) : AW g 33 [(0, .ref (wad (cxw g) (1 + 2 * t0))), (2, .int x2), (3, .int x3)] [] (c, m, z) 0 0 := by
  unfold f_X0_addNumber_J33 at h
  refine aw_aload_n hG 0 rfl dX0_addNumber_33 rfl ?_
  refine aw_bipush (v := 48) hG dX0_addNumber_34 rfl ?_
  refine aw_iload_n hG 1 rfl dX0_addNumber_36 rfl ?_
  refine aw_iload_n hG 2 rfl dX0_addNumber_37 rfl ?_
  obtain ⟨hz_1, h⟩ := it_o h
  refine aw_idiv hG dX0_addNumber_38 hz_1 ?_
  refine aw_bipush (v := 10) hG dX0_addNumber_39 rfl ?_
  refine aw_iremJ hG dX0_addNumber_41 (by decide) ?_
  refine aw_iadd hG dX0_addNumber_42 ?_
  obtain ⟨v_2, hv_2⟩ : ∃ y, y = f_X0_add t0 (48 + (irm (x2 / x3) 10)) c := ⟨_, rfl⟩
  replace h := lt_r hv_2 h
  refine aw_callVv (As := [.int (48 + (irm (x2 / x3) 10))]) (rest := []) hG (c_X0_add (t0 := t0) (x1 := 48 + (irm (x2 / x3) 10)) (c := c) ht0 hv_2.symm) l_38 wv_X0_add (rv_X0 hG ht0) rfl rfl rfl (by decide) (Nat.zero_le _) (Nat.zero_le _) (Nat.le_of_ble_eq_true rfl) dX0_addNumber_43 ?_
  exact w_X0_addNumber_J46 (t0 := t0) (x2 := x2) (x3 := x3) (c := v_2) ht0 hG h hK
def f_X0_addNumber_L19 (t0 : Nat) (x2 : Int32) (x3 : Int32) (c : CS) : Option ((Int32 × CS) ⊕ (CS)) :=
  if x3 ≤ 0 then
    some (.inr c)
  else
    if x3 ≤ x2 then
      f_X0_addNumber_J33 t0 x2 x3 c
    else
      if x3 = 1 then
        f_X0_addNumber_J33 t0 x2 x3 c
      else
        f_X0_addNumber_J46 t0 x2 x3 c
set_option maxRecDepth 20000 in
theorem w_X0_addNumber_L19 {g : Cx} {mc ms : Nat} {c : CS} {m : MS} {z : Nat → Int64} {t0 : Nat} {x2 : Int32} {x3 : Int32} {s : ((Int32 × CS) ⊕ (CS))} (ht0 : t0 < 2) (hG : Gd g RX0 cX0_addNumber 4 2 mc ms) (h : f_X0_addNumber_L19 t0 x2 x3 c = some s) (hK : Sum.elim (fun a => AW g 19 [(0, .ref (wad (cxw g) (1 + 2 * t0))), (2, .int x2), (3, .int a.1)] [] (a.2, m, z) 0 0) (fun e => AW g 54 [] [] (e, m, z) 0 0) s) : AW g 19 [(0, .ref (wad (cxw g) (1 + 2 * t0))), (2, .int x2), (3, .int x3)] [] (c, m, z) 0 0 := by
  unfold f_X0_addNumber_L19 at h
  refine aw_iload_n hG 2 rfl dX0_addNumber_19 rfl ?_
  refine aw_if_le (t := 54) hG dX0_addNumber_20 rfl (fun hc => ?_) (fun hc => ?_)
  · replace h := it_p hc h
    obtain rfl := Option.some.inj h
    refine aw_sub (L' := []) [] rfl ?_
    exact hK
  · replace h := it_n hc h
    refine aw_iload_n hG 1 rfl dX0_addNumber_23 rfl ?_
    refine aw_iload_n hG 2 rfl dX0_addNumber_24 rfl ?_
    refine aw_icmp_ge (t := 33) hG dX0_addNumber_25 rfl (fun hc => ?_) (fun hc => ?_)
    · replace h := it_p hc h
      exact w_X0_addNumber_J33 (t0 := t0) (x2 := x2) (x3 := x3) (c := c) ht0 hG h hK
    · replace h := it_n hc h
      refine aw_iload_n hG 2 rfl dX0_addNumber_28 rfl ?_
      refine aw_iconst (v := 1) hG dX0_addNumber_29 rfl ?_
      refine aw_icmp_ne (t := 46) hG dX0_addNumber_30 rfl (fun hc => ?_) (fun hc => ?_)
      · replace h := it_n hc h
        exact w_X0_addNumber_J46 (t0 := t0) (x2 := x2) (x3 := x3) (c := c) ht0 hG h hK
      · replace h := it_p hc h
        exact w_X0_addNumber_J33 (t0 := t0) (x2 := x2) (x3 := x3) (c := c) ht0 hG h hK
noncomputable def f_X0_addNumber (t0 : Nat) (x1 : Int32) (c : CS) : Option CS :=
  if 0 ≤ x1 then
    Option.bind (Lp (fun a => f_X0_addNumber_L19 t0 x1 a.1 a.2) (1000, c)) fun e_7 =>
    some e_7
  else
    lt (f_X0_add t0 45 c) fun v_8 =>
    lt (-x1) fun x2_9 =>
    Option.bind (Lp (fun a => f_X0_addNumber_L19 t0 x2_9 a.1 a.2) (1000, v_8)) fun e_10 =>
    some e_10
set_option maxRecDepth 20000 in
theorem w_X0_addNumber {g : Cx} {mc ms : Nat} {c : CS} {m : MS} {z : Nat → Int64} {t0 : Nat} {x1 : Int32} {s : CS} (ht0 : t0 < 2) (hG : Gd g RX0 cX0_addNumber 4 2 mc ms) (h : f_X0_addNumber t0 x1 c = some s) (hK : FinV g cX0_addNumber mc ms (s, m, z)) : AW g 0 [(0, .ref (wad (cxw g) (1 + 2 * t0))), (1, .int x1)] [] (c, m, z) 0 0 := by
  unfold f_X0_addNumber at h
  refine aw_iload_n hG 1 rfl dX0_addNumber_0 rfl ?_
  refine aw_istore_n (L' := [(2, .int x1), (0, .ref (wad (cxw g) (1 + 2 * t0))), (1, .int x1)]) hG dX0_addNumber_1 rfl (by decide) rfl ?_
  refine aw_iload_n hG 2 rfl dX0_addNumber_2 rfl ?_
  refine aw_if_ge (t := 15) hG dX0_addNumber_3 rfl (fun hc => ?_) (fun hc => ?_)
  · replace h := it_p hc h
    refine aw_sipush (v := 1000) hG dX0_addNumber_15 rfl ?_
    refine aw_istore_n (L' := [(3, .int 1000), (2, .int x1), (0, .ref (wad (cxw g) (1 + 2 * t0))), (1, .int x1)]) hG dX0_addNumber_18 rfl (by decide) rfl ?_
    obtain ⟨e_7, he, h⟩ := bd_o h
    refine aw_sub (L' := [(0, .ref (wad (cxw g) (1 + 2 * t0))), (2, .int x1), (3, .int 1000)]) [2, 1, 0] rfl ?_
    refine Lp_w (F := (fun a => f_X0_addNumber_L19 t0 x1 a.1 a.2)) (S := (fun a => AW g 19 [(0, .ref (wad (cxw g) (1 + 2 * t0))), (2, .int x1), (3, .int a.1)] [] (a.2, m, z) 0 0)) (E := (fun e => AW g 54 [] [] (e, m, z) 0 0)) (a := (1000, c)) he (fun a s h hK => w_X0_addNumber_L19 (t0 := t0) (x2 := x1) (x3 := a.1) (c := a.2) ht0 hG h hK) ?_
    show AW g 54 _ _ _ 0 0
    obtain rfl := Option.some.inj h
    exact FinV.z hK dX0_addNumber_54
  · replace h := it_n hc h
    refine aw_aload_n hG 1 rfl dX0_addNumber_6 rfl ?_
    refine aw_bipush (v := 45) hG dX0_addNumber_7 rfl ?_
    obtain ⟨v_8, hv_8⟩ : ∃ y, y = f_X0_add t0 45 c := ⟨_, rfl⟩
    replace h := lt_r hv_8 h
    refine aw_callVv (As := [.int 45]) (rest := []) hG (c_X0_add (t0 := t0) (x1 := 45) (c := c) ht0 hv_8.symm) l_38 wv_X0_add (rv_X0 hG ht0) rfl rfl rfl (by decide) (Nat.zero_le _) (Nat.zero_le _) (Nat.le_of_ble_eq_true rfl) dX0_addNumber_9 ?_
    refine aw_iload_n hG 2 rfl dX0_addNumber_12 rfl ?_
    refine aw_ineg hG dX0_addNumber_13 ?_
    refine aw_topi (fun x2_9 hx2_9 => ?_)
    replace h := lt_r hx2_9 h
    refine aw_istore_n (L' := [(2, .int x2_9), (0, .ref (wad (cxw g) (1 + 2 * t0))), (1, .int x1)]) hG dX0_addNumber_14 rfl (by decide) rfl ?_
    refine aw_sipush (v := 1000) hG dX0_addNumber_15 rfl ?_
    refine aw_istore_n (L' := [(3, .int 1000), (2, .int x2_9), (0, .ref (wad (cxw g) (1 + 2 * t0))), (1, .int x1)]) hG dX0_addNumber_18 rfl (by decide) rfl ?_
    obtain ⟨e_10, he, h⟩ := bd_o h
    refine aw_sub (L' := [(0, .ref (wad (cxw g) (1 + 2 * t0))), (2, .int x2_9), (3, .int 1000)]) [2, 1, 0] rfl ?_
    refine Lp_w (F := (fun a => f_X0_addNumber_L19 t0 x2_9 a.1 a.2)) (S := (fun a => AW g 19 [(0, .ref (wad (cxw g) (1 + 2 * t0))), (2, .int x2_9), (3, .int a.1)] [] (a.2, m, z) 0 0)) (E := (fun e => AW g 54 [] [] (e, m, z) 0 0)) (a := (1000, v_8)) he (fun a s h hK => w_X0_addNumber_L19 (t0 := t0) (x2 := x2_9) (x3 := a.1) (c := a.2) ht0 hG h hK) ?_
    show AW g 54 _ _ _ 0 0
    obtain rfl := Option.some.inj h
    exact FinV.z hK dX0_addNumber_54
theorem c_X0_addNumber {c : CS} {m : MS} {z : Nat → Int64} {t0 : Nat} {x1 : Int32} {s : CS} (ht0 : t0 < 2) (h : f_X0_addNumber t0 x1 c = some s) : Ct yX0_addNumber cX0_addNumber 4 none 2 (fun w => [.ref (wad w (1 + 2 * t0)), .int x1]) (c, m, z) (fun _ => none) (s, m, z) := Ct_ofV (by decide +kernel) (fun _ => Nat.le_of_ble_eq_true rfl) (fun g hG hK => w_X0_addNumber ht0 hG h hK)
noncomputable def f_X0_addScientific_J26 (t0 : Nat) (c : CS) : Option CS :=
  Option.bind (f_X0_addDigits t0 1 c) fun v_2 =>
  lt (f_X0_add t0 101 v_2) fun v_3 =>
  Option.bind (f_X0_addNumber t0 ((dcP v_3) - 1) v_3) fun v_4 =>
  some v_4
set_option maxRecDepth 20000 in
theorem w_X0_addScientific_J26 {g : Cx} {mc ms : Nat} {c : CS} {m : MS} {z : Nat → Int64} {t0 : Nat} {s : CS} (ht0 : t0 < 2) (hG : Gd g RX0 cX0_addScientific 2 3 mc ms) (h : f_X0_addScientific_J26 t0 c = some s) (hK : FinV g cX0_addScientific mc ms (s, m, z)) : AW g 26 [(0, .ref (wad (cxw g) (1 + 2 * t0))), (1, .ref (wad (cxw g) 5))] [] (c, m, z) 0 0 := by
  unfold f_X0_addScientific_J26 at h
  refine aw_aload_n hG 0 rfl dX0_addScientific_26 rfl ?_
  refine aw_aload_n hG 1 rfl dX0_addScientific_27 rfl ?_
  refine aw_iconst (v := 1) hG dX0_addScientific_28 rfl ?_
  obtain ⟨v_2, hv_2, h⟩ := bd_o h
  refine aw_callVv (As := [.ref (wad (cxw g) 5), .int 1]) (rest := []) hG (c_X0_addDigits (t0 := t0) (x2 := 1) (c := c) ht0 hv_2) l_51 wv_X0_addDigits (rv_X0 hG ht0) rfl rfl rfl (by decide) (Nat.zero_le _) (Nat.zero_le _) (Nat.le_of_ble_eq_true rfl) dX0_addScientific_29 ?_
  refine aw_aload_n hG 0 rfl dX0_addScientific_32 rfl ?_
  refine aw_bipush (v := 101) hG dX0_addScientific_33 rfl ?_
  obtain ⟨v_3, hv_3⟩ : ∃ y, y = f_X0_add t0 101 v_2 := ⟨_, rfl⟩
  replace h := lt_r hv_3 h
  refine aw_callVv (As := [.int 101]) (rest := []) hG (c_X0_add (t0 := t0) (x1 := 101) (c := v_2) ht0 hv_3.symm) l_38 wv_X0_add (rv_X0 hG ht0) rfl rfl rfl (by decide) (Nat.zero_le _) (Nat.zero_le _) (Nat.le_of_ble_eq_true rfl) dX0_addScientific_35 ?_
  refine aw_aload_n hG 0 rfl dX0_addScientific_38 rfl ?_
  refine aw_aload_n hG 1 rfl dX0_addScientific_39 rfl ?_
  refine gt_dcP hG l_56 dX0_addScientific_40 ?_
  refine aw_iconst (v := 1) hG dX0_addScientific_43 rfl ?_
  refine aw_isub hG dX0_addScientific_44 ?_
  obtain ⟨v_4, hv_4, h⟩ := bd_o h
  refine aw_callVv (As := [.int ((dcP v_3) - 1)]) (rest := []) hG (c_X0_addNumber (t0 := t0) (x1 := (dcP v_3) - 1) (c := v_3) ht0 hv_4) l_57 wv_X0_addNumber (rv_X0 hG ht0) rfl rfl rfl (by decide) (Nat.zero_le _) (Nat.zero_le _) (Nat.le_of_ble_eq_true rfl) dX0_addScientific_45 ?_
  obtain rfl := Option.some.inj h
  exact FinV.z hK dX0_addScientific_48
noncomputable def f_X0_addScientific (t0 : Nat) (c : CS) : Option CS :=
  lt (f_X0_add t0 (48 + (f_X1_digitAt 0 c)) c) fun v_1 =>
  if (dcC v_1) ≤ 1 then
    f_X0_addScientific_J26 t0 v_1
  else
    lt (f_X0_add t0 46 v_1) fun v_5 =>
    f_X0_addScientific_J26 t0 v_5
set_option maxRecDepth 20000 in
theorem w_X0_addScientific {g : Cx} {mc ms : Nat} {c : CS} {m : MS} {z : Nat → Int64} {t0 : Nat} {s : CS} (ht0 : t0 < 2) (hG : Gd g RX0 cX0_addScientific 2 3 mc ms) (h : f_X0_addScientific t0 c = some s) (hK : FinV g cX0_addScientific mc ms (s, m, z)) : AW g 0 [(0, .ref (wad (cxw g) (1 + 2 * t0))), (1, .ref (wad (cxw g) 5))] [] (c, m, z) 0 0 := by
  unfold f_X0_addScientific at h
  refine aw_aload_n hG 0 rfl dX0_addScientific_0 rfl ?_
  refine aw_bipush (v := 48) hG dX0_addScientific_1 rfl ?_
  refine aw_aload_n hG 1 rfl dX0_addScientific_3 rfl ?_
  refine aw_iconst (v := 0) hG dX0_addScientific_4 rfl ?_
  refine aw_callVi (As := [.int 0]) (rest := [.int 48, .ref (wad (cxw g) (1 + 2 * t0))]) hG (c_X1_digitAt (x1 := 0) (c := c) ) l_46 wv_X1_digitAt (rv_X1 hG) rfl rfl rfl (by decide) (Nat.zero_le _) (Nat.zero_le _) (Nat.le_of_ble_eq_true rfl) dX0_addScientific_5 ?_
  refine aw_iadd hG dX0_addScientific_8 ?_
  obtain ⟨v_1, hv_1⟩ : ∃ y, y = f_X0_add t0 (48 + (f_X1_digitAt 0 c)) c := ⟨_, rfl⟩
  replace h := lt_r hv_1 h
  refine aw_callVv (As := [.int (48 + (f_X1_digitAt 0 c))]) (rest := []) hG (c_X0_add (t0 := t0) (x1 := 48 + (f_X1_digitAt 0 c)) (c := c) ht0 hv_1.symm) l_38 wv_X0_add (rv_X0 hG ht0) rfl rfl rfl (by decide) (Nat.zero_le _) (Nat.zero_le _) (Nat.le_of_ble_eq_true rfl) dX0_addScientific_9 ?_
  refine aw_aload_n hG 1 rfl dX0_addScientific_12 rfl ?_
  refine gt_dcC hG l_45 dX0_addScientific_13 ?_
  refine aw_iconst (v := 1) hG dX0_addScientific_16 rfl ?_
  refine aw_icmp_le (t := 26) hG dX0_addScientific_17 rfl (fun hc => ?_) (fun hc => ?_)
  · replace h := it_p hc h
    exact w_X0_addScientific_J26 (t0 := t0) (c := v_1) ht0 hG h hK
  · replace h := it_n hc h
    refine aw_aload_n hG 0 rfl dX0_addScientific_20 rfl ?_
    refine aw_bipush (v := 46) hG dX0_addScientific_21 rfl ?_
    obtain ⟨v_5, hv_5⟩ : ∃ y, y = f_X0_add t0 46 v_1 := ⟨_, rfl⟩
    replace h := lt_r hv_5 h
    refine aw_callVv (As := [.int 46]) (rest := []) hG (c_X0_add (t0 := t0) (x1 := 46) (c := v_1) ht0 hv_5.symm) l_38 wv_X0_add (rv_X0 hG ht0) rfl rfl rfl (by decide) (Nat.zero_le _) (Nat.zero_le _) (Nat.le_of_ble_eq_true rfl) dX0_addScientific_23 ?_
    exact w_X0_addScientific_J26 (t0 := t0) (c := v_5) ht0 hG h hK
theorem c_X0_addScientific {c : CS} {m : MS} {z : Nat → Int64} {t0 : Nat} {s : CS} (ht0 : t0 < 2) (h : f_X0_addScientific t0 c = some s) : Ct yX0_addScientific cX0_addScientific 2 none 3 (fun w => [.ref (wad w (1 + 2 * t0)), .ref (wad w 5)]) (c, m, z) (fun _ => none) (s, m, z) := Ct_ofV (by decide +kernel) (fun _ => Nat.le_of_ble_eq_true rfl) (fun g hG hK => w_X0_addScientific ht0 hG h hK)
def f_X0_addPlain_L44 (t0 : Nat) (x2 : Int32) (c : CS) : Option ((Int32 × CS) ⊕ (CS)) :=
  if (dcP c) ≤ x2 then
    some (.inr c)
  else
    lt (f_X0_add t0 (48 + (f_X1_digitAt x2 c)) c) fun v_1 =>
    lt (x2 + 1) fun x2_2 =>
    some (.inl (x2_2, v_1))
set_option maxRecDepth 20000 in
theorem w_X0_addPlain_L44 {g : Cx} {mc ms : Nat} {c : CS} {m : MS} {z : Nat → Int64} {t0 : Nat} {x2 : Int32} {s : ((Int32 × CS) ⊕ (CS))} (ht0 : t0 < 2) (hG : Gd g RX0 cX0_addPlain 3 6 mc ms) (h : f_X0_addPlain_L44 t0 x2 c = some s) (hK : Sum.elim (fun a => AW g 44 [(0, .ref (wad (cxw g) (1 + 2 * t0))), (1, .ref (wad (cxw g) 5)), (2, .int a.1)] [] (a.2, m, z) 0 0) (fun e => AW g 70 [(0, .ref (wad (cxw g) (1 + 2 * t0))), (1, .ref (wad (cxw g) 5))] [] (e, m, z) 0 0) s) : AW g 44 [(0, .ref (wad (cxw g) (1 + 2 * t0))), (1, .ref (wad (cxw g) 5)), (2, .int x2)] [] (c, m, z) 0 0 := by
  unfold f_X0_addPlain_L44 at h
  refine aw_iload_n hG 2 rfl dX0_addPlain_44 rfl ?_
  refine aw_aload_n hG 1 rfl dX0_addPlain_45 rfl ?_
  refine gt_dcP hG l_56 dX0_addPlain_46 ?_
  refine aw_icmp_ge (t := 70) hG dX0_addPlain_49 rfl (fun hc => ?_) (fun hc => ?_)
  · replace h := it_p hc h
    obtain rfl := Option.some.inj h
    refine aw_sub (L' := [(0, .ref (wad (cxw g) (1 + 2 * t0))), (1, .ref (wad (cxw g) 5))]) [0, 1] rfl ?_
    exact hK
  · replace h := it_n hc h
    refine aw_aload_n hG 0 rfl dX0_addPlain_52 rfl ?_
    refine aw_bipush (v := 48) hG dX0_addPlain_53 rfl ?_
    refine aw_aload_n hG 1 rfl dX0_addPlain_55 rfl ?_
    refine aw_iload_n hG 2 rfl dX0_addPlain_56 rfl ?_
    refine aw_callVi (As := [.int x2]) (rest := [.int 48, .ref (wad (cxw g) (1 + 2 * t0))]) hG (c_X1_digitAt (x1 := x2) (c := c) ) l_46 wv_X1_digitAt (rv_X1 hG) rfl rfl rfl (by decide) (Nat.zero_le _) (Nat.zero_le _) (Nat.le_of_ble_eq_true rfl) dX0_addPlain_57 ?_
    refine aw_iadd hG dX0_addPlain_60 ?_
    obtain ⟨v_1, hv_1⟩ : ∃ y, y = f_X0_add t0 (48 + (f_X1_digitAt x2 c)) c := ⟨_, rfl⟩
    replace h := lt_r hv_1 h
    refine aw_callVv (As := [.int (48 + (f_X1_digitAt x2 c))]) (rest := []) hG (c_X0_add (t0 := t0) (x1 := 48 + (f_X1_digitAt x2 c)) (c := c) ht0 hv_1.symm) l_38 wv_X0_add (rv_X0 hG ht0) rfl rfl rfl (by decide) (Nat.zero_le _) (Nat.zero_le _) (Nat.le_of_ble_eq_true rfl) dX0_addPlain_61 ?_
    obtain ⟨x2_2, hx2_2⟩ : ∃ y : Int32, y = x2 + 1 := ⟨_, rfl⟩
    replace h := lt_r hx2_2 h
    refine aw_iinc (v := x2_2) (L' := [(2, .int x2_2), (0, .ref (wad (cxw g) (1 + 2 * t0))), (1, .ref (wad (cxw g) 5))]) hG 2 rfl dX0_addPlain_64 (by rw [hx2_2]; rfl) (by decide) rfl ?_
    refine aw_goto (t := 44) hG dX0_addPlain_67 rfl ?_
    obtain rfl := Option.some.inj h
    refine aw_sub (L' := [(0, .ref (wad (cxw g) (1 + 2 * t0))), (1, .ref (wad (cxw g) 5)), (2, .int x2_2)]) [1, 2, 0] rfl ?_
    exact hK
noncomputable def f_X0_addPlain_J87 (t0 : Nat) (c : CS) : Option CS :=
  Option.bind (f_X0_addDigits t0 (dcP c) c) fun v_5 =>
  some v_5
set_option maxRecDepth 20000 in
theorem w_X0_addPlain_J87 {g : Cx} {mc ms : Nat} {c : CS} {m : MS} {z : Nat → Int64} {t0 : Nat} {s : CS} (ht0 : t0 < 2) (hG : Gd g RX0 cX0_addPlain 3 6 mc ms) (h : f_X0_addPlain_J87 t0 c = some s) (hK : FinV g cX0_addPlain mc ms (s, m, z)) : AW g 87 [(0, .ref (wad (cxw g) (1 + 2 * t0))), (1, .ref (wad (cxw g) 5))] [] (c, m, z) 0 0 := by
  unfold f_X0_addPlain_J87 at h
  refine aw_aload_n hG 0 rfl dX0_addPlain_87 rfl ?_
  refine aw_aload_n hG 1 rfl dX0_addPlain_88 rfl ?_
  refine aw_aload_n hG 1 rfl dX0_addPlain_89 rfl ?_
  refine gt_dcP hG l_56 dX0_addPlain_90 ?_
  obtain ⟨v_5, hv_5, h⟩ := bd_o h
  refine aw_callVv (As := [.ref (wad (cxw g) 5), .int (dcP c)]) (rest := []) hG (c_X0_addDigits (t0 := t0) (x2 := dcP c) (c := c) ht0 hv_5) l_51 wv_X0_addDigits (rv_X0 hG ht0) rfl rfl rfl (by decide) (Nat.zero_le _) (Nat.zero_le _) (Nat.le_of_ble_eq_true rfl) dX0_addPlain_93 ?_
  obtain rfl := Option.some.inj h
  exact FinV.z hK dX0_addPlain_96
def f_X0_addPlain_L19 (t0 : Nat) (x2 : Int32) (c : CS) : Option ((Int32 × CS) ⊕ (CS)) :=
  if 0 ≤ x2 then
    some (.inr c)
  else
    lt (f_X0_add t0 48 c) fun v_10 =>
    lt (x2 + 1) fun x2_11 =>
    some (.inl (x2_11, v_10))
set_option maxRecDepth 20000 in
theorem w_X0_addPlain_L19 {g : Cx} {mc ms : Nat} {c : CS} {m : MS} {z : Nat → Int64} {t0 : Nat} {x2 : Int32} {s : ((Int32 × CS) ⊕ (CS))} (ht0 : t0 < 2) (hG : Gd g RX0 cX0_addPlain 3 6 mc ms) (h : f_X0_addPlain_L19 t0 x2 c = some s) (hK : Sum.elim (fun a => AW g 19 [(0, .ref (wad (cxw g) (1 + 2 * t0))), (1, .ref (wad (cxw g) 5)), (2, .int a.1)] [] (a.2, m, z) 0 0) (fun e => AW g 35 [(0, .ref (wad (cxw g) (1 + 2 * t0))), (1, .ref (wad (cxw g) 5))] [] (e, m, z) 0 0) s) : AW g 19 [(0, .ref (wad (cxw g) (1 + 2 * t0))), (1, .ref (wad (cxw g) 5)), (2, .int x2)] [] (c, m, z) 0 0 := by
  unfold f_X0_addPlain_L19 at h
  refine aw_iload_n hG 2 rfl dX0_addPlain_19 rfl ?_
  refine aw_if_ge (t := 35) hG dX0_addPlain_20 rfl (fun hc => ?_) (fun hc => ?_)
  · replace h := it_p hc h
    obtain rfl := Option.some.inj h
    refine aw_sub (L' := [(0, .ref (wad (cxw g) (1 + 2 * t0))), (1, .ref (wad (cxw g) 5))]) [0, 1] rfl ?_
    exact hK
  · replace h := it_n hc h
    refine aw_aload_n hG 0 rfl dX0_addPlain_23 rfl ?_
    refine aw_bipush (v := 48) hG dX0_addPlain_24 rfl ?_
    obtain ⟨v_10, hv_10⟩ : ∃ y, y = f_X0_add t0 48 c := ⟨_, rfl⟩
    replace h := lt_r hv_10 h
    refine aw_callVv (As := [.int 48]) (rest := []) hG (c_X0_add (t0 := t0) (x1 := 48) (c := c) ht0 hv_10.symm) l_38 wv_X0_add (rv_X0 hG ht0) rfl rfl rfl (by decide) (Nat.zero_le _) (Nat.zero_le _) (Nat.le_of_ble_eq_true rfl) dX0_addPlain_26 ?_
    obtain ⟨x2_11, hx2_11⟩ : ∃ y : Int32, y = x2 + 1 := ⟨_, rfl⟩
    replace h := lt_r hx2_11 h
    refine aw_iinc (v := x2_11) (L' := [(2, .int x2_11), (0, .ref (wad (cxw g) (1 + 2 * t0))), (1, .ref (wad (cxw g) 5))]) hG 2 rfl dX0_addPlain_29 (by rw [hx2_11]; rfl) (by decide) rfl ?_
    refine aw_goto (t := 19) hG dX0_addPlain_32 rfl ?_
    obtain rfl := Option.some.inj h
    refine aw_sub (L' := [(0, .ref (wad (cxw g) (1 + 2 * t0))), (1, .ref (wad (cxw g) 5)), (2, .int x2_11)]) [1, 2, 0] rfl ?_
    exact hK
noncomputable def f_X0_addPlain (t0 : Nat) (c : CS) : Option CS :=
  if 1 ≤ (dcP c) then
    Option.bind (Lp (fun a => f_X0_addPlain_L44 t0 a.1 a.2) (0, c)) fun e_4 =>
    if (dcC e_4) ≤ (dcP e_4) then
      f_X0_addPlain_J87 t0 e_4
    else
      lt (f_X0_add t0 46 e_4) fun v_6 =>
      f_X0_addPlain_J87 t0 v_6
  else
    Option.bind (f_X0_addWord t0 9 c) fun v_8 =>
    lt (dcP v_8) fun x2_9 =>
    Option.bind (Lp (fun a => f_X0_addPlain_L19 t0 a.1 a.2) (x2_9, v_8)) fun e_13 =>
    Option.bind (f_X0_addDigits t0 0 e_13) fun v_14 =>
    some v_14
set_option maxRecDepth 20000 in
theorem w_X0_addPlain {g : Cx} {mc ms : Nat} {c : CS} {m : MS} {z : Nat → Int64} {t0 : Nat} {s : CS} (ht0 : t0 < 2) (hG : Gd g RX0 cX0_addPlain 3 6 mc ms) (h : f_X0_addPlain t0 c = some s) (hK : FinV g cX0_addPlain mc ms (s, m, z)) : AW g 0 [(0, .ref (wad (cxw g) (1 + 2 * t0))), (1, .ref (wad (cxw g) 5))] [] (c, m, z) 0 0 := by
  unfold f_X0_addPlain at h
  refine aw_aload_n hG 1 rfl dX0_addPlain_0 rfl ?_
  refine gt_dcP hG l_56 dX0_addPlain_1 ?_
  refine aw_iconst (v := 1) hG dX0_addPlain_4 rfl ?_
  refine aw_icmp_ge (t := 42) hG dX0_addPlain_5 rfl (fun hc => ?_) (fun hc => ?_)
  · replace h := it_p hc h
    refine aw_iconst (v := 0) hG dX0_addPlain_42 rfl ?_
    refine aw_istore_n (L' := [(2, .int 0), (0, .ref (wad (cxw g) (1 + 2 * t0))), (1, .ref (wad (cxw g) 5))]) hG dX0_addPlain_43 rfl (by decide) rfl ?_
    obtain ⟨e_4, he, h⟩ := bd_o h
    refine aw_sub (L' := [(0, .ref (wad (cxw g) (1 + 2 * t0))), (1, .ref (wad (cxw g) 5)), (2, .int 0)]) [1, 2, 0] rfl ?_
    refine Lp_w (F := (fun a => f_X0_addPlain_L44 t0 a.1 a.2)) (S := (fun a => AW g 44 [(0, .ref (wad (cxw g) (1 + 2 * t0))), (1, .ref (wad (cxw g) 5)), (2, .int a.1)] [] (a.2, m, z) 0 0)) (E := (fun e => AW g 70 [(0, .ref (wad (cxw g) (1 + 2 * t0))), (1, .ref (wad (cxw g) 5))] [] (e, m, z) 0 0)) (a := (0, c)) he (fun a s h hK => w_X0_addPlain_L44 (t0 := t0) (x2 := a.1) (c := a.2) ht0 hG h hK) ?_
    show AW g 70 _ _ _ 0 0
    refine aw_aload_n hG 1 rfl dX0_addPlain_70 rfl ?_
    refine gt_dcC hG l_45 dX0_addPlain_71 ?_
    refine aw_aload_n hG 1 rfl dX0_addPlain_74 rfl ?_
    refine gt_dcP hG l_56 dX0_addPlain_75 ?_
    refine aw_icmp_le (t := 87) hG dX0_addPlain_78 rfl (fun hc => ?_) (fun hc => ?_)
    · replace h := it_p hc h
      exact w_X0_addPlain_J87 (t0 := t0) (c := e_4) ht0 hG h hK
    · replace h := it_n hc h
      refine aw_aload_n hG 0 rfl dX0_addPlain_81 rfl ?_
      refine aw_bipush (v := 46) hG dX0_addPlain_82 rfl ?_
      obtain ⟨v_6, hv_6⟩ : ∃ y, y = f_X0_add t0 46 e_4 := ⟨_, rfl⟩
      replace h := lt_r hv_6 h
      refine aw_callVv (As := [.int 46]) (rest := []) hG (c_X0_add (t0 := t0) (x1 := 46) (c := e_4) ht0 hv_6.symm) l_38 wv_X0_add (rv_X0 hG ht0) rfl rfl rfl (by decide) (Nat.zero_le _) (Nat.zero_le _) (Nat.le_of_ble_eq_true rfl) dX0_addPlain_84 ?_
      exact w_X0_addPlain_J87 (t0 := t0) (c := v_6) ht0 hG h hK
  · replace h := it_n hc h
    refine aw_aload_n hG 0 rfl dX0_addPlain_8 rfl ?_
    refine aw_ldcS (j := 9) hG rfl dX0_addPlain_9 ?_
    obtain ⟨v_8, hv_8, h⟩ := bd_o h
    refine aw_callVv (As := [.ref (wad (cxw g) (40 + 9))]) (rest := []) hG (c_X0_addWord (t0 := t0) (j1 := 9) (c := c) ht0 (by decide) hv_8) l_62 wv_X0_addWord (rv_X0 hG ht0) rfl rfl rfl (by decide) (Nat.zero_le _) (Nat.zero_le _) (Nat.le_of_ble_eq_true rfl) dX0_addPlain_11 ?_
    refine aw_aload_n hG 1 rfl dX0_addPlain_14 rfl ?_
    refine gt_dcP hG l_56 dX0_addPlain_15 ?_
    refine aw_topi (fun x2_9 hx2_9 => ?_)
    replace h := lt_r hx2_9 h
    refine aw_istore_n (L' := [(2, .int x2_9), (0, .ref (wad (cxw g) (1 + 2 * t0))), (1, .ref (wad (cxw g) 5))]) hG dX0_addPlain_18 rfl (by decide) rfl ?_
    obtain ⟨e_13, he, h⟩ := bd_o h
    refine aw_sub (L' := [(0, .ref (wad (cxw g) (1 + 2 * t0))), (1, .ref (wad (cxw g) 5)), (2, .int x2_9)]) [1, 2, 0] rfl ?_
    refine Lp_w (F := (fun a => f_X0_addPlain_L19 t0 a.1 a.2)) (S := (fun a => AW g 19 [(0, .ref (wad (cxw g) (1 + 2 * t0))), (1, .ref (wad (cxw g) 5)), (2, .int a.1)] [] (a.2, m, z) 0 0)) (E := (fun e => AW g 35 [(0, .ref (wad (cxw g) (1 + 2 * t0))), (1, .ref (wad (cxw g) 5))] [] (e, m, z) 0 0)) (a := (x2_9, v_8)) he (fun a s h hK => w_X0_addPlain_L19 (t0 := t0) (x2 := a.1) (c := a.2) ht0 hG h hK) ?_
    show AW g 35 _ _ _ 0 0
    refine aw_aload_n hG 0 rfl dX0_addPlain_35 rfl ?_
    refine aw_aload_n hG 1 rfl dX0_addPlain_36 rfl ?_
    refine aw_iconst (v := 0) hG dX0_addPlain_37 rfl ?_
    obtain ⟨v_14, hv_14, h⟩ := bd_o h
    refine aw_callVv (As := [.ref (wad (cxw g) 5), .int 0]) (rest := []) hG (c_X0_addDigits (t0 := t0) (x2 := 0) (c := e_13) ht0 hv_14) l_51 wv_X0_addDigits (rv_X0 hG ht0) rfl rfl rfl (by decide) (Nat.zero_le _) (Nat.zero_le _) (Nat.le_of_ble_eq_true rfl) dX0_addPlain_38 ?_
    obtain rfl := Option.some.inj h
    exact FinV.z hK dX0_addPlain_41
theorem c_X0_addPlain {c : CS} {m : MS} {z : Nat → Int64} {t0 : Nat} {s : CS} (ht0 : t0 < 2) (h : f_X0_addPlain t0 c = some s) : Ct yX0_addPlain cX0_addPlain 3 none 6 (fun w => [.ref (wad w (1 + 2 * t0)), .ref (wad w 5)]) (c, m, z) (fun _ => none) (s, m, z) := Ct_ofV (by decide +kernel) (fun _ => Nat.le_of_ble_eq_true rfl) (fun g hG hK => w_X0_addPlain ht0 hG h hK)
def f_X3_bitsOf_J32 (x2 : Int32) (x3 : Int64) (x5 : Int32) : Option ((Int32 × Int64 × Int32) ⊕ ((Int32 × Int64))) :=
  lt (x5 / 2) fun x5_1 =>
  some (.inl (x2, x3, x5_1))
set_option maxRecDepth 20000 in
theorem w_X3_bitsOf_J32 {g : Cx} {mc ms : Nat} {c : CS} {m : MS} {z : Nat → Int64} {x2 : Int32} {x3 : Int64} {x5 : Int32} {s : ((Int32 × Int64 × Int32) ⊕ ((Int32 × Int64)))}  (hG : Gd g RX3 cX3_bitsOf 6 1 mc ms) (h : f_X3_bitsOf_J32 x2 x3 x5 = some s) (hK : Sum.elim (fun a => AW g 8 [(2, .int a.1), (3, .long a.2.1), (5, .int a.2.2)] [] (c, m, z) 0 0) (fun e => AW g 41 [(2, .int e.1), (3, .long e.2)] [] (c, m, z) 0 0) s) : AW g 32 [(2, .int x2), (3, .long x3), (5, .int x5)] [] (c, m, z) 0 0 := by
  unfold f_X3_bitsOf_J32 at h
  refine aw_iload hG 2 rfl dX3_bitsOf_32 ?_
  refine aw_iconst (v := 2) hG dX3_bitsOf_34 rfl ?_
  refine aw_idiv hG dX3_bitsOf_35 (by decide) ?_
  refine aw_topi (fun x5_1 hx5_1 => ?_)
  replace h := lt_r hx5_1 h
  refine aw_istore (L' := [(5, .int x5_1), (2, .int x2), (3, .long x3)]) hG dX3_bitsOf_36 (by decide) rfl ?_
  refine aw_goto (t := 8) hG dX3_bitsOf_38 rfl ?_
  obtain rfl := Option.some.inj h
  refine aw_sub (L' := [(2, .int x2), (3, .long x3), (5, .int x5_1)]) [1, 2, 0] rfl ?_
  exact hK
def f_X3_bitsOf_L8 (x2 : Int32) (x3 : Int64) (x5 : Int32) : Option ((Int32 × Int64 × Int32) ⊕ ((Int32 × Int64))) :=
  if x5 ≤ 0 then
    some (.inr (x2, x3))
  else
    if (jushr x3 x5) = 0 then
      f_X3_bitsOf_J32 x2 x3 x5
    else
      lt (jushr x3 x5) fun x3_2 =>
      lt (x2 + x5) fun x2_3 =>
      f_X3_bitsOf_J32 x2_3 x3_2 x5
set_option maxRecDepth 20000 in
theorem w_X3_bitsOf_L8 {g : Cx} {mc ms : Nat} {c : CS} {m : MS} {z : Nat → Int64} {x2 : Int32} {x3 : Int64} {x5 : Int32} {s : ((Int32 × Int64 × Int32) ⊕ ((Int32 × Int64)))}  (hG : Gd g RX3 cX3_bitsOf 6 1 mc ms) (h : f_X3_bitsOf_L8 x2 x3 x5 = some s) (hK : Sum.elim (fun a => AW g 8 [(2, .int a.1), (3, .long a.2.1), (5, .int a.2.2)] [] (c, m, z) 0 0) (fun e => AW g 41 [(2, .int e.1), (3, .long e.2)] [] (c, m, z) 0 0) s) : AW g 8 [(2, .int x2), (3, .long x3), (5, .int x5)] [] (c, m, z) 0 0 := by
  unfold f_X3_bitsOf_L8 at h
  refine aw_iload hG 2 rfl dX3_bitsOf_8 ?_
  refine aw_if_le (t := 41) hG dX3_bitsOf_10 rfl (fun hc => ?_) (fun hc => ?_)
  · replace h := it_p hc h
    obtain rfl := Option.some.inj h
    refine aw_sub (L' := [(2, .int x2), (3, .long x3)]) [0, 1] rfl ?_
    exact hK
  · replace h := it_n hc h
    refine aw_lload_n hG 1 rfl dX3_bitsOf_13 rfl ?_
    refine aw_iload hG 2 rfl dX3_bitsOf_14 ?_
    refine aw_lushrJ hG dX3_bitsOf_16 ?_
    refine aw_lconst (v := 0) hG dX3_bitsOf_17 rfl ?_
    refine aw_lc_eq (t := 32) hG dX3_bitsOf_18 rfl dX3_bitsOf_19 rfl rfl (fun hc => ?_) (fun hc => ?_)
    · replace h := it_p hc h
      exact w_X3_bitsOf_J32 (x2 := x2) (x3 := x3) (x5 := x5) hG h hK
    · replace h := it_n hc h
      refine aw_lload_n hG 1 rfl dX3_bitsOf_22 rfl ?_
      refine aw_iload hG 2 rfl dX3_bitsOf_23 ?_
      refine aw_lushrJ hG dX3_bitsOf_25 ?_
      refine aw_topl (fun x3_2 hx3_2 => ?_)
      replace h := lt_r hx3_2 h
      refine aw_lstore_n (L' := [(3, .long x3_2), (2, .int x2), (5, .int x5)]) hG dX3_bitsOf_26 rfl (by decide) rfl ?_
      refine aw_iload_n hG 1 rfl dX3_bitsOf_27 rfl ?_
      refine aw_iload hG 2 rfl dX3_bitsOf_28 ?_
      refine aw_iadd hG dX3_bitsOf_30 ?_
      refine aw_topi (fun x2_3 hx2_3 => ?_)
      replace h := lt_r hx2_3 h
      refine aw_istore_n (L' := [(2, .int x2_3), (3, .long x3_2), (5, .int x5)]) hG dX3_bitsOf_31 rfl (by decide) rfl ?_
      exact w_X3_bitsOf_J32 (x2 := x2_3) (x3 := x3_2) (x5 := x5) hG h hK
noncomputable def f_X3_bitsOf (x0 : Int64) : Option Int32 :=
  Option.bind (Lp (fun a => f_X3_bitsOf_L8 a.1 a.2.1 a.2.2) (0, x0, 32)) fun e_6 =>
  if e_6.2 = 0 then
    some e_6.1
  else
    some (e_6.1 + 1)
set_option maxRecDepth 20000 in
theorem w_X3_bitsOf {g : Cx} {mc ms : Nat} {c : CS} {m : MS} {z : Nat → Int64} {x0 : Int64} {s : Int32}  (hG : Gd g RX3 cX3_bitsOf 6 1 mc ms) (h : f_X3_bitsOf x0 = some s) (hK : FinI g cX3_bitsOf mc ms s (c, m, z)) : AW g 0 [(0, .long x0)] [] (c, m, z) 0 0 := by
  unfold f_X3_bitsOf at h
  refine aw_iconst (v := 0) hG dX3_bitsOf_0 rfl ?_
  refine aw_istore_n (L' := [(2, .int 0), (0, .long x0)]) hG dX3_bitsOf_1 rfl (by decide) rfl ?_
  refine aw_lload_n hG 1 rfl dX3_bitsOf_2 rfl ?_
  refine aw_lstore_n (L' := [(3, .long x0), (2, .int 0), (0, .long x0)]) hG dX3_bitsOf_3 rfl (by decide) rfl ?_
  refine aw_bipush (v := 32) hG dX3_bitsOf_4 rfl ?_
  refine aw_istore (L' := [(5, .int 32), (3, .long x0), (2, .int 0), (0, .long x0)]) hG dX3_bitsOf_6 (by decide) rfl ?_
  obtain ⟨e_6, he, h⟩ := bd_o h
  refine aw_sub (L' := [(2, .int 0), (3, .long x0), (5, .int 32)]) [2, 1, 0] rfl ?_
  refine Lp_w (F := (fun a => f_X3_bitsOf_L8 a.1 a.2.1 a.2.2)) (S := (fun a => AW g 8 [(2, .int a.1), (3, .long a.2.1), (5, .int a.2.2)] [] (c, m, z) 0 0)) (E := (fun e => AW g 41 [(2, .int e.1), (3, .long e.2)] [] (c, m, z) 0 0)) (a := (0, x0, 32)) he (fun a s h hK => w_X3_bitsOf_L8 (x2 := a.1) (x3 := a.2.1) (x5 := a.2.2) hG h hK) ?_
  show AW g 41 _ _ _ 0 0
  refine aw_lload_n hG 1 rfl dX3_bitsOf_41 rfl ?_
  refine aw_lconst (v := 0) hG dX3_bitsOf_42 rfl ?_
  refine aw_lc_ne (t := 51) hG dX3_bitsOf_43 rfl dX3_bitsOf_44 rfl rfl (fun hc => ?_) (fun hc => ?_)
  · replace h := it_n hc h
    refine aw_iload_n hG 0 rfl dX3_bitsOf_51 rfl ?_
    refine aw_iconst (v := 1) hG dX3_bitsOf_52 rfl ?_
    refine aw_iadd hG dX3_bitsOf_53 ?_
    obtain rfl := Option.some.inj h
    exact FinI.z hK dX3_bitsOf_54
  · replace h := it_p hc h
    refine aw_iload_n hG 0 rfl dX3_bitsOf_47 rfl ?_
    refine aw_goto (t := 54) hG dX3_bitsOf_48 rfl ?_
    obtain rfl := Option.some.inj h
    exact FinI.z hK dX3_bitsOf_54
theorem c_X3_bitsOf {c : CS} {m : MS} {z : Nat → Int64} {x0 : Int64} {s : Int32}  (h : f_X3_bitsOf x0 = some s) : Ct yX3_bitsOf cX3_bitsOf 6 (some .int) 1 (fun w => [.long x0]) (c, m, z) (fun _ => some (.int s)) (c, m, z) := Ct_ofI (by decide +kernel) (fun _ => Nat.le_of_ble_eq_true rfl) (fun g hG hK => w_X3_bitsOf hG h hK)
def f_X0_addHexadecimal_J98 (t0 : Nat) (x3 : Int32) (x4 : Int32) (x5 : Int64) (x7 : Int32) (s0 : Int32) (q1 : Nat) (c : CS) : Option ((Int64 × Int32 × CS) ⊕ (CS)) :=
  lt (f_X0_add q1 s0 c) fun v_5 =>
  lt (jshl x5 4) fun x5_6 =>
  lt (x7 + 1) fun x7_7 =>
  some (.inl (x5_6, x7_7, v_5))
set_option maxRecDepth 20000 in
theorem w_X0_addHexadecimal_J98 {g : Cx} {mc ms : Nat} {c : CS} {m : MS} {z : Nat → Int64} {t0 : Nat} {x3 : Int32} {x4 : Int32} {x5 : Int64} {x7 : Int32} {s0 : Int32} {q1 : Nat} {s : ((Int64 × Int32 × CS) ⊕ (CS))} (ht0 : t0 < 2) (hq1 : q1 < 2) (hG : Gd g RX0 cX0_addHexadecimal 9 6 mc ms) (h : f_X0_addHexadecimal_J98 t0 x3 x4 x5 x7 s0 q1 c = some s) (hK : Sum.elim (fun a => AW g 52 [(0, .ref (wad (cxw g) (1 + 2 * t0))), (3, .int x3), (4, .int x4), (5, .long a.1), (7, .int a.2.1)] [] (a.2.2, m, z) 0 0) (fun e => AW g 113 [(0, .ref (wad (cxw g) (1 + 2 * t0))), (3, .int x3), (4, .int x4)] [] (e, m, z) 0 0) s) : AW g 98 [(0, .ref (wad (cxw g) (1 + 2 * t0))), (3, .int x3), (4, .int x4), (5, .long x5), (7, .int x7)] [.int s0, .ref (wad (cxw g) (1 + 2 * q1))] (c, m, z) 0 0 := by
  unfold f_X0_addHexadecimal_J98 at h
  obtain ⟨v_5, hv_5⟩ : ∃ y, y = f_X0_add q1 s0 c := ⟨_, rfl⟩
  replace h := lt_r hv_5 h
  refine aw_callVv (As := [.int s0]) (rest := []) hG (c_X0_add (t0 := q1) (x1 := s0) (c := c) hq1 hv_5.symm) l_38 wv_X0_add (rv_X0 hG hq1) rfl rfl rfl (by decide) (Nat.zero_le _) (Nat.zero_le _) (Nat.le_of_ble_eq_true rfl) dX0_addHexadecimal_98 ?_
  refine aw_lload hG 3 rfl dX0_addHexadecimal_101 ?_
  refine aw_iconst (v := 4) hG dX0_addHexadecimal_103 rfl ?_
  refine aw_lshlJ hG dX0_addHexadecimal_104 ?_
  refine aw_topl (fun x5_6 hx5_6 => ?_)
  replace h := lt_r hx5_6 h
  refine aw_lstore (L' := [(5, .long x5_6), (0, .ref (wad (cxw g) (1 + 2 * t0))), (3, .int x3), (4, .int x4), (7, .int x7)]) hG dX0_addHexadecimal_105 (by decide) rfl ?_
  obtain ⟨x7_7, hx7_7⟩ : ∃ y : Int32, y = x7 + 1 := ⟨_, rfl⟩
  replace h := lt_r hx7_7 h
  refine aw_iinc (v := x7_7) (L' := [(7, .int x7_7), (5, .long x5_6), (0, .ref (wad (cxw g) (1 + 2 * t0))), (3, .int x3), (4, .int x4)]) hG 4 rfl dX0_addHexadecimal_107 (by rw [hx7_7]; rfl) (by decide) rfl ?_
  refine aw_goto (t := 52) hG dX0_addHexadecimal_110 rfl ?_
  obtain rfl := Option.some.inj h
  refine aw_sub (L' := [(0, .ref (wad (cxw g) (1 + 2 * t0))), (3, .int x3), (4, .int x4), (5, .long x5_6), (7, .int x7_7)]) [2, 3, 4, 1, 0] rfl ?_
  exact hK
def f_X0_addHexadecimal_L52 (t0 : Nat) (x3 : Int32) (x4 : Int32) (x5 : Int64) (x7 : Int32) (c : CS) : Option ((Int64 × Int32 × CS) ⊕ (CS)) :=
  if 16 ≤ x7 then
    some (.inr c)
  else
    if x5 = 0 then
      some (.inr c)
    else
      lt ((jushr x5 60).toInt32) fun x8_4 =>
      if 10 ≤ x8_4 then
        f_X0_addHexadecimal_J98 t0 x3 x4 x5 x7 ((97 + x8_4) - 10) t0 c
      else
        f_X0_addHexadecimal_J98 t0 x3 x4 x5 x7 (48 + x8_4) t0 c
set_option maxRecDepth 20000 in
theorem w_X0_addHexadecimal_L52 {g : Cx} {mc ms : Nat} {c : CS} {m : MS} {z : Nat → Int64} {t0 : Nat} {x3 : Int32} {x4 : Int32} {x5 : Int64} {x7 : Int32} {s : ((Int64 × Int32 × CS) ⊕ (CS))} (ht0 : t0 < 2) (hG : Gd g RX0 cX0_addHexadecimal 9 6 mc ms) (h : f_X0_addHexadecimal_L52 t0 x3 x4 x5 x7 c = some s) (hK : Sum.elim (fun a => AW g 52 [(0, .ref (wad (cxw g) (1 + 2 * t0))), (3, .int x3), (4, .int x4), (5, .long a.1), (7, .int a.2.1)] [] (a.2.2, m, z) 0 0) (fun e => AW g 113 [(0, .ref (wad (cxw g) (1 + 2 * t0))), (3, .int x3), (4, .int x4)] [] (e, m, z) 0 0) s) : AW g 52 [(0, .ref (wad (cxw g) (1 + 2 * t0))), (3, .int x3), (4, .int x4), (5, .long x5), (7, .int x7)] [] (c, m, z) 0 0 := by
  unfold f_X0_addHexadecimal_L52 at h
  refine aw_iload hG 4 rfl dX0_addHexadecimal_52 ?_
  refine aw_bipush (v := 16) hG dX0_addHexadecimal_54 rfl ?_
  refine aw_icmp_ge (t := 113) hG dX0_addHexadecimal_56 rfl (fun hc => ?_) (fun hc => ?_)
  · replace h := it_p hc h
    obtain rfl := Option.some.inj h
    refine aw_sub (L' := [(0, .ref (wad (cxw g) (1 + 2 * t0))), (3, .int x3), (4, .int x4)]) [0, 1, 2] rfl ?_
    exact hK
  · replace h := it_n hc h
    refine aw_lload hG 3 rfl dX0_addHexadecimal_59 ?_
    refine aw_lconst (v := 0) hG dX0_addHexadecimal_61 rfl ?_
    refine aw_lc_eq (t := 113) hG dX0_addHexadecimal_62 rfl dX0_addHexadecimal_63 rfl rfl (fun hc => ?_) (fun hc => ?_)
    · replace h := it_p hc h
      obtain rfl := Option.some.inj h
      refine aw_sub (L' := [(0, .ref (wad (cxw g) (1 + 2 * t0))), (3, .int x3), (4, .int x4)]) [0, 1, 2] rfl ?_
      exact hK
    · replace h := it_n hc h
      refine aw_lload hG 3 rfl dX0_addHexadecimal_66 ?_
      refine aw_bipush (v := 60) hG dX0_addHexadecimal_68 rfl ?_
      refine aw_lushrJ hG dX0_addHexadecimal_70 ?_
      refine aw_l2i hG dX0_addHexadecimal_71 ?_
      refine aw_topi (fun x8_4 hx8_4 => ?_)
      replace h := lt_r hx8_4 h
      refine aw_istore (L' := [(8, .int x8_4), (0, .ref (wad (cxw g) (1 + 2 * t0))), (3, .int x3), (4, .int x4), (5, .long x5), (7, .int x7)]) hG dX0_addHexadecimal_72 (by decide) rfl ?_
      refine aw_aload_n hG 1 rfl dX0_addHexadecimal_74 rfl ?_
      refine aw_iload hG 0 rfl dX0_addHexadecimal_75 ?_
      refine aw_bipush (v := 10) hG dX0_addHexadecimal_77 rfl ?_
      refine aw_icmp_ge (t := 90) hG dX0_addHexadecimal_79 rfl (fun hc => ?_) (fun hc => ?_)
      · replace h := it_p hc h
        refine aw_bipush (v := 97) hG dX0_addHexadecimal_90 rfl ?_
        refine aw_iload hG 0 rfl dX0_addHexadecimal_92 ?_
        refine aw_iadd hG dX0_addHexadecimal_94 ?_
        refine aw_bipush (v := 10) hG dX0_addHexadecimal_95 rfl ?_
        refine aw_isub hG dX0_addHexadecimal_97 ?_
        refine aw_sub (L' := [(0, .ref (wad (cxw g) (1 + 2 * t0))), (3, .int x3), (4, .int x4), (5, .long x5), (7, .int x7)]) [1, 2, 3, 4, 5] rfl ?_
        exact w_X0_addHexadecimal_J98 (t0 := t0) (x3 := x3) (x4 := x4) (x5 := x5) (x7 := x7) (s0 := (97 + x8_4) - 10) (q1 := t0) (c := c) ht0 ht0 hG h hK
      · replace h := it_n hc h
        refine aw_bipush (v := 48) hG dX0_addHexadecimal_82 rfl ?_
        refine aw_iload hG 0 rfl dX0_addHexadecimal_84 ?_
        refine aw_iadd hG dX0_addHexadecimal_86 ?_
        refine aw_goto (t := 98) hG dX0_addHexadecimal_87 rfl ?_
        refine aw_sub (L' := [(0, .ref (wad (cxw g) (1 + 2 * t0))), (3, .int x3), (4, .int x4), (5, .long x5), (7, .int x7)]) [1, 2, 3, 4, 5] rfl ?_
        exact w_X0_addHexadecimal_J98 (t0 := t0) (x3 := x3) (x4 := x4) (x5 := x5) (x7 := x7) (s0 := 48 + x8_4) (q1 := t0) (c := c) ht0 ht0 hG h hK
noncomputable def f_X0_addHexadecimal (t0 : Nat) (x1 : Int64) (x3 : Int32) (c : CS) : Option CS :=
  if x1 = 0 then
    Option.bind (f_X0_addWord t0 13 c) fun v_19 =>
    some v_19
  else
    Option.bind (f_X3_bitsOf x1) fun v_1 =>
    Option.bind (f_X0_addWord t0 14 c) fun v_2 =>
    lt (jshl (jshl x1 (64 - v_1)) 1) fun x5_3 =>
    if x5_3 = 0 then
      Option.bind (Lp (fun a => f_X0_addHexadecimal_L52 t0 x3 v_1 a.1 a.2.1 a.2.2) (x5_3, 0, v_2)) fun e_11 =>
      lt (f_X0_add t0 112 e_11) fun v_12 =>
      Option.bind (f_X0_addNumber t0 ((x3 + v_1) - 1) v_12) fun v_13 =>
      some v_13
    else
      lt (f_X0_add t0 46 v_2) fun v_14 =>
      Option.bind (Lp (fun a => f_X0_addHexadecimal_L52 t0 x3 v_1 a.1 a.2.1 a.2.2) (x5_3, 0, v_14)) fun e_15 =>
      lt (f_X0_add t0 112 e_15) fun v_16 =>
      Option.bind (f_X0_addNumber t0 ((x3 + v_1) - 1) v_16) fun v_17 =>
      some v_17
set_option maxRecDepth 20000 in
theorem w_X0_addHexadecimal {g : Cx} {mc ms : Nat} {c : CS} {m : MS} {z : Nat → Int64} {t0 : Nat} {x1 : Int64} {x3 : Int32} {s : CS} (ht0 : t0 < 2) (hG : Gd g RX0 cX0_addHexadecimal 9 6 mc ms) (h : f_X0_addHexadecimal t0 x1 x3 c = some s) (hK : FinV g cX0_addHexadecimal mc ms (s, m, z)) : AW g 0 [(0, .ref (wad (cxw g) (1 + 2 * t0))), (1, .long x1), (3, .int x3)] [] (c, m, z) 0 0 := by
  unfold f_X0_addHexadecimal at h
  refine aw_lload_n hG 1 rfl dX0_addHexadecimal_0 rfl ?_
  refine aw_lconst (v := 0) hG dX0_addHexadecimal_1 rfl ?_
  refine aw_lc_ne (t := 13) hG dX0_addHexadecimal_2 rfl dX0_addHexadecimal_3 rfl rfl (fun hc => ?_) (fun hc => ?_)
  · replace h := it_n hc h
    refine aw_lload_n hG 1 rfl dX0_addHexadecimal_13 rfl ?_
    obtain ⟨v_1, hv_1, h⟩ := bd_o h
    refine aw_callSNi (host := "FloatTexts") (As := [.long x1]) (rest := []) hG (c_X3_bitsOf (x0 := x1) (c := c)  hv_1) (fun U h => h.2.2.1) ws_X3_bitsOf rfl rfl rfl (by decide) (Nat.zero_le _) (Nat.zero_le _) (Nat.le_of_ble_eq_true rfl) dX0_addHexadecimal_14 ?_
    refine aw_istore (L' := [(4, .int v_1), (0, .ref (wad (cxw g) (1 + 2 * t0))), (1, .long x1), (3, .int x3)]) hG dX0_addHexadecimal_17 (by decide) rfl ?_
    refine aw_aload_n hG 1 rfl dX0_addHexadecimal_19 rfl ?_
    refine aw_ldcS (j := 14) hG rfl dX0_addHexadecimal_20 ?_
    obtain ⟨v_2, hv_2, h⟩ := bd_o h
    refine aw_callVv (As := [.ref (wad (cxw g) (40 + 14))]) (rest := []) hG (c_X0_addWord (t0 := t0) (j1 := 14) (c := c) ht0 (by decide) hv_2) l_62 wv_X0_addWord (rv_X0 hG ht0) rfl rfl rfl (by decide) (Nat.zero_le _) (Nat.zero_le _) (Nat.le_of_ble_eq_true rfl) dX0_addHexadecimal_22 ?_
    refine aw_lload_n hG 2 rfl dX0_addHexadecimal_25 rfl ?_
    refine aw_bipush (v := 64) hG dX0_addHexadecimal_26 rfl ?_
    refine aw_iload hG 0 rfl dX0_addHexadecimal_28 ?_
    refine aw_isub hG dX0_addHexadecimal_30 ?_
    refine aw_lshlJ hG dX0_addHexadecimal_31 ?_
    refine aw_iconst (v := 1) hG dX0_addHexadecimal_32 rfl ?_
    refine aw_lshlJ hG dX0_addHexadecimal_33 ?_
    refine aw_topl (fun x5_3 hx5_3 => ?_)
    replace h := lt_r hx5_3 h
    refine aw_lstore (L' := [(5, .long x5_3), (4, .int v_1), (0, .ref (wad (cxw g) (1 + 2 * t0))), (1, .long x1), (3, .int x3)]) hG dX0_addHexadecimal_34 (by decide) rfl ?_
    refine aw_lload hG 0 rfl dX0_addHexadecimal_36 ?_
    refine aw_lconst (v := 0) hG dX0_addHexadecimal_38 rfl ?_
    refine aw_lc_eq (t := 49) hG dX0_addHexadecimal_39 rfl dX0_addHexadecimal_40 rfl rfl (fun hc => ?_) (fun hc => ?_)
    · replace h := it_p hc h
      refine aw_iconst (v := 0) hG dX0_addHexadecimal_49 rfl ?_
      refine aw_istore (L' := [(7, .int 0), (5, .long x5_3), (4, .int v_1), (0, .ref (wad (cxw g) (1 + 2 * t0))), (1, .long x1), (3, .int x3)]) hG dX0_addHexadecimal_50 (by decide) rfl ?_
      obtain ⟨e_11, he, h⟩ := bd_o h
      refine aw_sub (L' := [(0, .ref (wad (cxw g) (1 + 2 * t0))), (3, .int x3), (4, .int v_1), (5, .long x5_3), (7, .int 0)]) [3, 5, 2, 1, 0] rfl ?_
      refine Lp_w (F := (fun a => f_X0_addHexadecimal_L52 t0 x3 v_1 a.1 a.2.1 a.2.2)) (S := (fun a => AW g 52 [(0, .ref (wad (cxw g) (1 + 2 * t0))), (3, .int x3), (4, .int v_1), (5, .long a.1), (7, .int a.2.1)] [] (a.2.2, m, z) 0 0)) (E := (fun e => AW g 113 [(0, .ref (wad (cxw g) (1 + 2 * t0))), (3, .int x3), (4, .int v_1)] [] (e, m, z) 0 0)) (a := (x5_3, 0, v_2)) he (fun a s h hK => w_X0_addHexadecimal_L52 (t0 := t0) (x3 := x3) (x4 := v_1) (x5 := a.1) (x7 := a.2.1) (c := a.2.2) ht0 hG h hK) ?_
      show AW g 113 _ _ _ 0 0
      refine aw_aload_n hG 0 rfl dX0_addHexadecimal_113 rfl ?_
      refine aw_bipush (v := 112) hG dX0_addHexadecimal_114 rfl ?_
      obtain ⟨v_12, hv_12⟩ : ∃ y, y = f_X0_add t0 112 e_11 := ⟨_, rfl⟩
      replace h := lt_r hv_12 h
      refine aw_callVv (As := [.int 112]) (rest := []) hG (c_X0_add (t0 := t0) (x1 := 112) (c := e_11) ht0 hv_12.symm) l_38 wv_X0_add (rv_X0 hG ht0) rfl rfl rfl (by decide) (Nat.zero_le _) (Nat.zero_le _) (Nat.le_of_ble_eq_true rfl) dX0_addHexadecimal_116 ?_
      refine aw_aload_n hG 0 rfl dX0_addHexadecimal_119 rfl ?_
      refine aw_iload_n hG 1 rfl dX0_addHexadecimal_120 rfl ?_
      refine aw_iload hG 2 rfl dX0_addHexadecimal_121 ?_
      refine aw_iadd hG dX0_addHexadecimal_123 ?_
      refine aw_iconst (v := 1) hG dX0_addHexadecimal_124 rfl ?_
      refine aw_isub hG dX0_addHexadecimal_125 ?_
      obtain ⟨v_13, hv_13, h⟩ := bd_o h
      refine aw_callVv (As := [.int ((x3 + v_1) - 1)]) (rest := []) hG (c_X0_addNumber (t0 := t0) (x1 := (x3 + v_1) - 1) (c := v_12) ht0 hv_13) l_57 wv_X0_addNumber (rv_X0 hG ht0) rfl rfl rfl (by decide) (Nat.zero_le _) (Nat.zero_le _) (Nat.le_of_ble_eq_true rfl) dX0_addHexadecimal_126 ?_
      obtain rfl := Option.some.inj h
      exact FinV.z hK dX0_addHexadecimal_129
    · replace h := it_n hc h
      refine aw_aload_n hG 2 rfl dX0_addHexadecimal_43 rfl ?_
      refine aw_bipush (v := 46) hG dX0_addHexadecimal_44 rfl ?_
      obtain ⟨v_14, hv_14⟩ : ∃ y, y = f_X0_add t0 46 v_2 := ⟨_, rfl⟩
      replace h := lt_r hv_14 h
      refine aw_callVv (As := [.int 46]) (rest := []) hG (c_X0_add (t0 := t0) (x1 := 46) (c := v_2) ht0 hv_14.symm) l_38 wv_X0_add (rv_X0 hG ht0) rfl rfl rfl (by decide) (Nat.zero_le _) (Nat.zero_le _) (Nat.le_of_ble_eq_true rfl) dX0_addHexadecimal_46 ?_
      refine aw_iconst (v := 0) hG dX0_addHexadecimal_49 rfl ?_
      refine aw_istore (L' := [(7, .int 0), (5, .long x5_3), (4, .int v_1), (0, .ref (wad (cxw g) (1 + 2 * t0))), (1, .long x1), (3, .int x3)]) hG dX0_addHexadecimal_50 (by decide) rfl ?_
      obtain ⟨e_15, he, h⟩ := bd_o h
      refine aw_sub (L' := [(0, .ref (wad (cxw g) (1 + 2 * t0))), (3, .int x3), (4, .int v_1), (5, .long x5_3), (7, .int 0)]) [3, 5, 2, 1, 0] rfl ?_
      refine Lp_w (F := (fun a => f_X0_addHexadecimal_L52 t0 x3 v_1 a.1 a.2.1 a.2.2)) (S := (fun a => AW g 52 [(0, .ref (wad (cxw g) (1 + 2 * t0))), (3, .int x3), (4, .int v_1), (5, .long a.1), (7, .int a.2.1)] [] (a.2.2, m, z) 0 0)) (E := (fun e => AW g 113 [(0, .ref (wad (cxw g) (1 + 2 * t0))), (3, .int x3), (4, .int v_1)] [] (e, m, z) 0 0)) (a := (x5_3, 0, v_14)) he (fun a s h hK => w_X0_addHexadecimal_L52 (t0 := t0) (x3 := x3) (x4 := v_1) (x5 := a.1) (x7 := a.2.1) (c := a.2.2) ht0 hG h hK) ?_
      show AW g 113 _ _ _ 0 0
      refine aw_aload_n hG 0 rfl dX0_addHexadecimal_113 rfl ?_
      refine aw_bipush (v := 112) hG dX0_addHexadecimal_114 rfl ?_
      obtain ⟨v_16, hv_16⟩ : ∃ y, y = f_X0_add t0 112 e_15 := ⟨_, rfl⟩
      replace h := lt_r hv_16 h
      refine aw_callVv (As := [.int 112]) (rest := []) hG (c_X0_add (t0 := t0) (x1 := 112) (c := e_15) ht0 hv_16.symm) l_38 wv_X0_add (rv_X0 hG ht0) rfl rfl rfl (by decide) (Nat.zero_le _) (Nat.zero_le _) (Nat.le_of_ble_eq_true rfl) dX0_addHexadecimal_116 ?_
      refine aw_aload_n hG 0 rfl dX0_addHexadecimal_119 rfl ?_
      refine aw_iload_n hG 1 rfl dX0_addHexadecimal_120 rfl ?_
      refine aw_iload hG 2 rfl dX0_addHexadecimal_121 ?_
      refine aw_iadd hG dX0_addHexadecimal_123 ?_
      refine aw_iconst (v := 1) hG dX0_addHexadecimal_124 rfl ?_
      refine aw_isub hG dX0_addHexadecimal_125 ?_
      obtain ⟨v_17, hv_17, h⟩ := bd_o h
      refine aw_callVv (As := [.int ((x3 + v_1) - 1)]) (rest := []) hG (c_X0_addNumber (t0 := t0) (x1 := (x3 + v_1) - 1) (c := v_16) ht0 hv_17) l_57 wv_X0_addNumber (rv_X0 hG ht0) rfl rfl rfl (by decide) (Nat.zero_le _) (Nat.zero_le _) (Nat.le_of_ble_eq_true rfl) dX0_addHexadecimal_126 ?_
      obtain rfl := Option.some.inj h
      exact FinV.z hK dX0_addHexadecimal_129
  · replace h := it_p hc h
    refine aw_aload_n hG 0 rfl dX0_addHexadecimal_6 rfl ?_
    refine aw_ldcS (j := 13) hG rfl dX0_addHexadecimal_7 ?_
    obtain ⟨v_19, hv_19, h⟩ := bd_o h
    refine aw_callVv (As := [.ref (wad (cxw g) (40 + 13))]) (rest := []) hG (c_X0_addWord (t0 := t0) (j1 := 13) (c := c) ht0 (by decide) hv_19) l_62 wv_X0_addWord (rv_X0 hG ht0) rfl rfl rfl (by decide) (Nat.zero_le _) (Nat.zero_le _) (Nat.le_of_ble_eq_true rfl) dX0_addHexadecimal_9 ?_
    obtain rfl := Option.some.inj h
    exact FinV.z hK dX0_addHexadecimal_12
theorem c_X0_addHexadecimal {c : CS} {m : MS} {z : Nat → Int64} {t0 : Nat} {x1 : Int64} {x3 : Int32} {s : CS} (ht0 : t0 < 2) (h : f_X0_addHexadecimal t0 x1 x3 c = some s) : Ct yX0_addHexadecimal cX0_addHexadecimal 9 none 6 (fun w => [.ref (wad w (1 + 2 * t0)), .long x1, .int x3]) (c, m, z) (fun _ => none) (s, m, z) := Ct_ofV (by decide +kernel) (fun _ => Nat.le_of_ble_eq_true rfl) (fun g hG hK => w_X0_addHexadecimal ht0 hG h hK)
def f_X1_takeNone (x1 : Int32) (c : CS) : Option CS :=
  if x1 = 0 ∨ x1 = 1 then
    lt (sdcM c x1) fun c_2 =>
    lt (sdcC c_2 0) fun c_3 =>
    lt (sdcP c_3 0) fun c_4 =>
    some c_4
  else none
set_option maxRecDepth 20000 in
theorem w_X1_takeNone {g : Cx} {mc ms : Nat} {c : CS} {m : MS} {z : Nat → Int64} {x1 : Int32} {s : CS}  (hG : Gd g RX1 cX1_takeNone 2 1 mc ms) (h : f_X1_takeNone x1 c = some s) (hK : FinV g cX1_takeNone mc ms (s, m, z)) : AW g 0 [(0, .ref (wad (cxw g) 5)), (1, .int x1)] [] (c, m, z) 0 0 := by
  unfold f_X1_takeNone at h
  refine aw_aload_n hG 0 rfl dX1_takeNone_0 rfl ?_
  refine aw_iload_n hG 1 rfl dX1_takeNone_1 rfl ?_
  obtain ⟨hb_1, h⟩ := it_o h
  refine pt_dcM hG hb_1 l_70 dX1_takeNone_2 ?_
  refine aw_stc (fun c_2 hc_2 => ?_)
  replace h := lt_r hc_2 h
  refine aw_aload_n hG 0 rfl dX1_takeNone_5 rfl ?_
  refine aw_iconst (v := 0) hG dX1_takeNone_6 rfl ?_
  refine pt_dcC hG l_43 dX1_takeNone_7 ?_
  refine aw_stc (fun c_3 hc_3 => ?_)
  replace h := lt_r hc_3 h
  refine aw_aload_n hG 0 rfl dX1_takeNone_10 rfl ?_
  refine aw_iconst (v := 0) hG dX1_takeNone_11 rfl ?_
  refine pt_dcP hG l_104 dX1_takeNone_12 ?_
  refine aw_stc (fun c_4 hc_4 => ?_)
  replace h := lt_r hc_4 h
  obtain rfl := Option.some.inj h
  exact FinV.z hK dX1_takeNone_15
theorem c_X1_takeNone {c : CS} {m : MS} {z : Nat → Int64} {x1 : Int32} {s : CS}  (h : f_X1_takeNone x1 c = some s) : Ct yX1_takeNone cX1_takeNone 2 none 1 (fun w => [.ref (wad w 5), .int x1]) (c, m, z) (fun _ => none) (s, m, z) := Ct_ofV (by decide +kernel) (fun _ => Nat.le_of_ble_eq_true rfl) (fun g hG hK => w_X1_takeNone hG h hK)
noncomputable def f_X1_take (r1 : Nat) (x2 : Int32) (x3 : Int32) (c : CS) : Option CS :=
  if x2 = 0 ∨ x2 = 1 then
    lt (sdcM c x2) fun c_2 =>
    lt (sdcC c_2 (f_JM_min x3 1420)) fun c_3 =>
    Option.bind (f_X4_point r1 c_3) fun v_4 =>
    lt (sdcP c_3 v_4) fun c_5 =>
    Option.bind (f_X4_giveDigits r1 (dcC c_5) c_5) fun v_6 =>
    some v_6
  else none
set_option maxRecDepth 20000 in
theorem w_X1_take {g : Cx} {mc ms : Nat} {c : CS} {m : MS} {z : Nat → Int64} {r1 : Nat} {x2 : Int32} {x3 : Int32} {s : CS} (hr1 : r1 < 4) (hG : Gd g RX1 cX1_take 4 5 mc ms) (h : f_X1_take r1 x2 x3 c = some s) (hK : FinV g cX1_take mc ms (s, m, z)) : AW g 0 [(0, .ref (wad (cxw g) 5)), (1, .ref (wad (cxw g) (9 + 2 * r1))), (2, .int x2), (3, .int x3)] [] (c, m, z) 0 0 := by
  unfold f_X1_take at h
  refine aw_aload_n hG 0 rfl dX1_take_0 rfl ?_
  refine aw_iload_n hG 2 rfl dX1_take_1 rfl ?_
  obtain ⟨hb_1, h⟩ := it_o h
  refine pt_dcM hG hb_1 l_70 dX1_take_2 ?_
  refine aw_stc (fun c_2 hc_2 => ?_)
  replace h := lt_r hc_2 h
  refine aw_aload_n hG 0 rfl dX1_take_5 rfl ?_
  refine aw_iload_n hG 3 rfl dX1_take_6 rfl ?_
  refine aw_sipush (v := 1420) hG dX1_take_7 rfl ?_
  refine aw_callSi (As := [.int x3, .int 1420]) (rest := [.ref (wad (cxw g) 5)]) hG (c_JM_min (x0 := x3) (x1 := 1420) (c := c_2) ) l_99 ws_JM_min rfl rfl rfl (by decide) (Nat.zero_le _) (Nat.zero_le _) (Nat.le_of_ble_eq_true rfl) dX1_take_10 ?_
  refine pt_dcC hG l_43 dX1_take_13 ?_
  refine aw_stc (fun c_3 hc_3 => ?_)
  replace h := lt_r hc_3 h
  refine aw_aload_n hG 0 rfl dX1_take_16 rfl ?_
  refine aw_aload_n hG 1 rfl dX1_take_17 rfl ?_
  obtain ⟨v_4, hv_4, h⟩ := bd_o h
  refine aw_callVi (As := []) (rest := [.ref (wad (cxw g) 5)]) hG (c_X4_point (r0 := r1) (c := c_3) hr1 hv_4) l_103 wv_X4_point (rv_X4 hG hr1) rfl rfl rfl (by decide) (Nat.zero_le _) (Nat.zero_le _) (Nat.le_of_ble_eq_true rfl) dX1_take_18 ?_
  refine pt_dcP hG l_104 dX1_take_21 ?_
  refine aw_stc (fun c_5 hc_5 => ?_)
  replace h := lt_r hc_5 h
  refine aw_aload_n hG 1 rfl dX1_take_24 rfl ?_
  refine aw_aload_n hG 0 rfl dX1_take_25 rfl ?_
  refine gt_dcD hG l_44 dX1_take_26 ?_
  refine aw_aload_n hG 0 rfl dX1_take_29 rfl ?_
  refine gt_dcC hG l_43 dX1_take_30 ?_
  obtain ⟨v_6, hv_6, h⟩ := bd_o h
  refine aw_callVv (As := [.ref (wad (cxw g) 6), .int (dcC c_5)]) (rest := []) hG (c_X4_giveDigits (r0 := r1) (x2 := dcC c_5) (c := c_5) hr1 hv_6) l_105 wv_X4_giveDigits (rv_X4 hG hr1) rfl rfl rfl (by decide) (Nat.zero_le _) (Nat.zero_le _) (Nat.le_of_ble_eq_true rfl) dX1_take_33 ?_
  obtain rfl := Option.some.inj h
  exact FinV.z hK dX1_take_36
theorem c_X1_take {c : CS} {m : MS} {z : Nat → Int64} {r1 : Nat} {x2 : Int32} {x3 : Int32} {s : CS} (hr1 : r1 < 4) (h : f_X1_take r1 x2 x3 c = some s) : Ct yX1_take cX1_take 4 none 5 (fun w => [.ref (wad w 5), .ref (wad w (9 + 2 * r1)), .int x2, .int x3]) (c, m, z) (fun _ => none) (s, m, z) := Ct_ofV (by decide +kernel) (fun _ => Nat.le_of_ble_eq_true rfl) (fun g hG hK => w_X1_take hr1 hG h hK)
