def f_X3_become (x1 : Int64) (c : CS) : CS :=
  lt (srdP c x1) fun c_1 =>
  lt (srdF c_1 0) fun c_2 =>
  c_2
set_option maxRecDepth 20000 in
theorem w_X3_become {g : Cx} {mc ms : Nat} {c : CS} {m : MS} {z : Nat → Int64} {x1 : Int64} {s : CS}  (hG : Gd g RX3 cX3_become 3 1 mc ms) (h : f_X3_become x1 c = s) (hK : FinV g cX3_become mc ms (s, m, z)) : AW g 0 [(0, .ref (wad (cxw g) 8)), (1, .long x1)] [] (c, m, z) 0 0 := by
  unfold f_X3_become at h
  refine aw_aload_n hG 0 rfl dX3_become_0 rfl ?_
  refine aw_lload_n hG 1 rfl dX3_become_1 rfl ?_
  refine pt_rdP hG l_150 dX3_become_2 ?_
  refine aw_stc (fun c_1 hc_1 => ?_)
  replace h := lt_r hc_1 h
  refine aw_aload_n hG 0 rfl dX3_become_5 rfl ?_
  refine aw_iconst (v := 0) hG dX3_become_6 rfl ?_
  refine pt_rdF hG l_151 dX3_become_7 ?_
  refine aw_stc (fun c_2 hc_2 => ?_)
  replace h := lt_r hc_2 h
  subst h
  exact FinV.z hK dX3_become_10
theorem c_X3_become {c : CS} {m : MS} {z : Nat → Int64} {x1 : Int64} {s : CS}  (h : f_X3_become x1 c = s) : Ct yX3_become cX3_become 3 none 1 (fun w => [.ref (wad w 8), .long x1]) (c, m, z) (fun _ => none) (s, m, z) := Ct_ofV (by decide +kernel) (fun _ => Nat.le_of_ble_eq_true rfl) (fun g hG hK => w_X3_become hG h hK)
def f_X3_keptOf (x0 : Int64) (x2 : Int64) : Int64 :=
  if x2 ≤ 63 then
    if x2 ≤ 0 then
      (jshl x0 ((-x2).toInt32))
    else
      (jushr x0 x2.toInt32)
  else
    0
set_option maxRecDepth 20000 in
theorem w_X3_keptOf {g : Cx} {mc ms : Nat} {c : CS} {m : MS} {z : Nat → Int64} {x0 : Int64} {x2 : Int64} {s : Int64}  (hG : Gd g RX3 cX3_keptOf 4 1 mc ms) (h : f_X3_keptOf x0 x2 = s) (hK : FinJ g cX3_keptOf mc ms s (c, m, z)) : AW g 0 [(0, .long x0), (2, .long x2)] [] (c, m, z) 0 0 := by
  unfold f_X3_keptOf at h
  refine aw_lload_n hG 1 rfl dX3_keptOf_0 rfl ?_
  refine aw_ldc2 hG l_152 dX3_keptOf_1 ?_
  refine aw_lc_le (t := 10) hG dX3_keptOf_4 rfl dX3_keptOf_5 rfl rfl (fun hc => ?_) (fun hc => ?_)
  · replace h := it_p hc h
    refine aw_lload_n hG 1 rfl dX3_keptOf_10 rfl ?_
    refine aw_lconst (v := 0) hG dX3_keptOf_11 rfl ?_
    refine aw_lc_le (t := 23) hG dX3_keptOf_12 rfl dX3_keptOf_13 rfl rfl (fun hc => ?_) (fun hc => ?_)
    · replace h := it_p hc h
      refine aw_lload_n hG 0 rfl dX3_keptOf_23 rfl ?_
      refine aw_lload_n hG 1 rfl dX3_keptOf_24 rfl ?_
      refine aw_lneg hG dX3_keptOf_25 ?_
      refine aw_l2i hG dX3_keptOf_26 ?_
      refine aw_lshlJ hG dX3_keptOf_27 ?_
      subst h
      exact FinJ.z hK dX3_keptOf_28
    · replace h := it_n hc h
      refine aw_lload_n hG 0 rfl dX3_keptOf_16 rfl ?_
      refine aw_lload_n hG 1 rfl dX3_keptOf_17 rfl ?_
      refine aw_l2i hG dX3_keptOf_18 ?_
      refine aw_lushrJ hG dX3_keptOf_19 ?_
      refine aw_goto (t := 28) hG dX3_keptOf_20 rfl ?_
      subst h
      exact FinJ.z hK dX3_keptOf_28
  · replace h := it_n hc h
    refine aw_lconst (v := 0) hG dX3_keptOf_8 rfl ?_
    subst h
    exact FinJ.z hK dX3_keptOf_9
theorem c_X3_keptOf {c : CS} {m : MS} {z : Nat → Int64} {x0 : Int64} {x2 : Int64}  : Ct yX3_keptOf cX3_keptOf 4 (some .long) 1 (fun w => [.long x0, .long x2]) (c, m, z) (fun _ => some (.long (f_X3_keptOf x0 x2))) (c, m, z) := Ct_ofJ (by decide +kernel) (fun _ => Nat.le_of_ble_eq_true rfl) (fun g hG hK => w_X3_keptOf hG rfl hK)
def f_X3_restOf_J56 (x0 : Int64) (x5 : Int64) (s0 : Int32) : Int32 :=
  if (x0 &&& x5) = 0 then
    if s0 = 0 then
      0
    else
      1
  else
    if s0 = 0 then
      2
    else
      3
set_option maxRecDepth 20000 in
theorem w_X3_restOf_J56 {g : Cx} {mc ms : Nat} {c : CS} {m : MS} {z : Nat → Int64} {x0 : Int64} {x5 : Int64} {s0 : Int32} {s : Int32}  (hG : Gd g RX3 cX3_restOf 8 1 mc ms) (h : f_X3_restOf_J56 x0 x5 s0 = s) (hK : FinI g cX3_restOf mc ms s (c, m, z)) : AW g 56 [(0, .long x0), (5, .long x5)] [.int s0] (c, m, z) 0 0 := by
  unfold f_X3_restOf_J56 at h
  refine aw_istore (L' := [(7, .int s0), (0, .long x0), (5, .long x5)]) hG dX3_restOf_56 (by decide) rfl ?_
  refine aw_lload_n hG 1 rfl dX3_restOf_58 rfl ?_
  refine aw_lload hG 2 rfl dX3_restOf_59 ?_
  refine aw_land hG dX3_restOf_61 ?_
  refine aw_lconst (v := 0) hG dX3_restOf_62 rfl ?_
  refine aw_lc_eq (t := 78) hG dX3_restOf_63 rfl dX3_restOf_64 rfl rfl (fun hc => ?_) (fun hc => ?_)
  · replace h := it_p hc h
    refine aw_iload hG 0 rfl dX3_restOf_78 ?_
    refine aw_if_eq (t := 87) hG dX3_restOf_80 rfl (fun hc => ?_) (fun hc => ?_)
    · replace h := it_p hc h
      refine aw_iconst (v := 0) hG dX3_restOf_87 rfl ?_
      subst h
      exact FinI.z hK dX3_restOf_88
    · replace h := it_n hc h
      refine aw_iconst (v := 1) hG dX3_restOf_83 rfl ?_
      refine aw_goto (t := 88) hG dX3_restOf_84 rfl ?_
      subst h
      exact FinI.z hK dX3_restOf_88
  · replace h := it_n hc h
    refine aw_iload hG 0 rfl dX3_restOf_67 ?_
    refine aw_if_eq (t := 76) hG dX3_restOf_69 rfl (fun hc => ?_) (fun hc => ?_)
    · replace h := it_p hc h
      refine aw_iconst (v := 2) hG dX3_restOf_76 rfl ?_
      subst h
      exact FinI.z hK dX3_restOf_77
    · replace h := it_n hc h
      refine aw_iconst (v := 3) hG dX3_restOf_72 rfl ?_
      refine aw_goto (t := 77) hG dX3_restOf_73 rfl ?_
      subst h
      exact FinI.z hK dX3_restOf_77
def f_X3_restOf (x0 : Int64) (x2 : Int64) (x4 : Int32) : Int32 :=
  if x2 ≤ 64 then
    if 1 ≤ x2 then
      lt (jshl 1 ((x2 - 1).toInt32)) fun x5_1 =>
      if x4 = 0 then
        if (x0 &&& (x5_1 - 1)) = 0 then
          f_X3_restOf_J56 x0 x5_1 0
        else
          f_X3_restOf_J56 x0 x5_1 1
      else
        f_X3_restOf_J56 x0 x5_1 1
    else
      if x4 = 0 then
        0
      else
        1
  else
    1
set_option maxRecDepth 20000 in
theorem w_X3_restOf {g : Cx} {mc ms : Nat} {c : CS} {m : MS} {z : Nat → Int64} {x0 : Int64} {x2 : Int64} {x4 : Int32} {s : Int32}  (hG : Gd g RX3 cX3_restOf 8 1 mc ms) (h : f_X3_restOf x0 x2 x4 = s) (hK : FinI g cX3_restOf mc ms s (c, m, z)) : AW g 0 [(0, .long x0), (2, .long x2), (4, .int x4)] [] (c, m, z) 0 0 := by
  unfold f_X3_restOf at h
  refine aw_lload_n hG 1 rfl dX3_restOf_0 rfl ?_
  refine aw_ldc2 hG l_153 dX3_restOf_1 ?_
  refine aw_lc_le (t := 10) hG dX3_restOf_4 rfl dX3_restOf_5 rfl rfl (fun hc => ?_) (fun hc => ?_)
  · replace h := it_p hc h
    refine aw_lload_n hG 1 rfl dX3_restOf_10 rfl ?_
    refine aw_lconst (v := 1) hG dX3_restOf_11 rfl ?_
    refine aw_lc_ge (t := 27) hG dX3_restOf_12 rfl dX3_restOf_13 rfl rfl (fun hc => ?_) (fun hc => ?_)
    · replace h := it_p hc h
      refine aw_lconst (v := 1) hG dX3_restOf_27 rfl ?_
      refine aw_lload_n hG 1 rfl dX3_restOf_28 rfl ?_
      refine aw_lconst (v := 1) hG dX3_restOf_29 rfl ?_
      refine aw_lsub hG dX3_restOf_30 ?_
      refine aw_l2i hG dX3_restOf_31 ?_
      refine aw_lshlJ hG dX3_restOf_32 ?_
      refine aw_topl (fun x5_1 hx5_1 => ?_)
      replace h := lt_r hx5_1 h
      refine aw_lstore (L' := [(5, .long x5_1), (0, .long x0), (2, .long x2), (4, .int x4)]) hG dX3_restOf_33 (by decide) rfl ?_
      refine aw_iload hG 3 rfl dX3_restOf_35 ?_
      refine aw_if_ne (t := 51) hG dX3_restOf_37 rfl (fun hc => ?_) (fun hc => ?_)
      · replace h := it_n hc h
        refine aw_iconst (v := 1) hG dX3_restOf_51 rfl ?_
        refine aw_goto (t := 56) hG dX3_restOf_52 rfl ?_
        refine aw_sub (L' := [(0, .long x0), (5, .long x5_1)]) [1, 0] rfl ?_
        exact w_X3_restOf_J56 (x0 := x0) (x5 := x5_1) (s0 := 1) hG h hK
      · replace h := it_p hc h
        refine aw_lload_n hG 1 rfl dX3_restOf_40 rfl ?_
        refine aw_lload hG 0 rfl dX3_restOf_41 ?_
        refine aw_lconst (v := 1) hG dX3_restOf_43 rfl ?_
        refine aw_lsub hG dX3_restOf_44 ?_
        refine aw_land hG dX3_restOf_45 ?_
        refine aw_lconst (v := 0) hG dX3_restOf_46 rfl ?_
        refine aw_lc_eq (t := 55) hG dX3_restOf_47 rfl dX3_restOf_48 rfl rfl (fun hc => ?_) (fun hc => ?_)
        · replace h := it_p hc h
          refine aw_iconst (v := 0) hG dX3_restOf_55 rfl ?_
          refine aw_sub (L' := [(0, .long x0), (5, .long x5_1)]) [1, 0] rfl ?_
          exact w_X3_restOf_J56 (x0 := x0) (x5 := x5_1) (s0 := 0) hG h hK
        · replace h := it_n hc h
          refine aw_iconst (v := 1) hG dX3_restOf_51 rfl ?_
          refine aw_goto (t := 56) hG dX3_restOf_52 rfl ?_
          refine aw_sub (L' := [(0, .long x0), (5, .long x5_1)]) [1, 0] rfl ?_
          exact w_X3_restOf_J56 (x0 := x0) (x5 := x5_1) (s0 := 1) hG h hK
    · replace h := it_n hc h
      refine aw_iload hG 2 rfl dX3_restOf_16 ?_
      refine aw_if_eq (t := 25) hG dX3_restOf_18 rfl (fun hc => ?_) (fun hc => ?_)
      · replace h := it_p hc h
        refine aw_iconst (v := 0) hG dX3_restOf_25 rfl ?_
        subst h
        exact FinI.z hK dX3_restOf_26
      · replace h := it_n hc h
        refine aw_iconst (v := 1) hG dX3_restOf_21 rfl ?_
        refine aw_goto (t := 26) hG dX3_restOf_22 rfl ?_
        subst h
        exact FinI.z hK dX3_restOf_26
  · replace h := it_n hc h
    refine aw_iconst (v := 1) hG dX3_restOf_8 rfl ?_
    subst h
    exact FinI.z hK dX3_restOf_9
theorem c_X3_restOf {c : CS} {m : MS} {z : Nat → Int64} {x0 : Int64} {x2 : Int64} {x4 : Int32}  : Ct yX3_restOf cX3_restOf 8 (some .int) 1 (fun w => [.long x0, .long x2, .int x4]) (c, m, z) (fun _ => some (.int (f_X3_restOf x0 x2 x4))) (c, m, z) := Ct_ofI (by decide +kernel) (fun _ => Nat.le_of_ble_eq_true rfl) (fun g hG hK => w_X3_restOf hG rfl hK)
def f_X6_goesUp (x0 : Int32) (x1 : Int32) (x2 : Int32) (x3 : Int32) : Int32 :=
  if x0 = 0 then
    if x3 = 3 then
      1
    else
      if x3 = 2 then
        if x2 = 0 then
          0
        else
          1
      else
        0
  else
    if x0 = 1 then
      if x3 < 2 then
        0
      else
        1
    else
      if x0 = 2 then
        0
      else
        if x0 = 3 then
          if x3 = 0 then
            0
          else
            if x1 = 0 then
              1
            else
              0
        else
          if x0 = 4 then
            if x3 = 0 then
              0
            else
              if x1 = 0 then
                0
              else
                1
          else
            0
set_option maxRecDepth 20000 in
theorem w_X6_goesUp {g : Cx} {mc ms : Nat} {c : CS} {m : MS} {z : Nat → Int64} {x0 : Int32} {x1 : Int32} {x2 : Int32} {x3 : Int32} {s : Int32}  (hG : Gd g RX6 cX6_goesUp 4 1 mc ms) (h : f_X6_goesUp x0 x1 x2 x3 = s) (hK : FinZ g cX6_goesUp mc ms s (c, m, z)) : AW g 0 [(0, .int x0), (1, .int x1), (2, .int x2), (3, .int x3)] [] (c, m, z) 0 0 := by
  unfold f_X6_goesUp at h
  refine aw_iload_n hG 0 rfl dX6_goesUp_0 rfl ?_
  by_cases hs0 : x0 = 0
  · replace h := it_p hs0 h
    refine aw_tableIn (off := 35) (t := 36) hG dX6_goesUp_1 (by rw [hs0]; decide) (by rw [hs0]; decide) (by rw [hs0]; rfl) rfl ?_
    refine aw_iload_n hG 3 rfl dX6_goesUp_36 rfl ?_
    refine aw_iconst (v := 3) hG dX6_goesUp_37 rfl ?_
    refine aw_icmp_eq (t := 50) hG dX6_goesUp_38 rfl (fun hc => ?_) (fun hc => ?_)
    · replace h := it_p hc h
      refine aw_iconst (v := 1) hG dX6_goesUp_50 rfl ?_
      refine aw_goto (t := 55) hG dX6_goesUp_51 rfl ?_
      subst h
      exact FinZ.z hK (Or.inr rfl) dX6_goesUp_55
    · replace h := it_n hc h
      refine aw_iload_n hG 3 rfl dX6_goesUp_41 rfl ?_
      refine aw_iconst (v := 2) hG dX6_goesUp_42 rfl ?_
      refine aw_icmp_ne (t := 54) hG dX6_goesUp_43 rfl (fun hc => ?_) (fun hc => ?_)
      · replace h := it_n hc h
        refine aw_iconst (v := 0) hG dX6_goesUp_54 rfl ?_
        subst h
        exact FinZ.z hK (Or.inl rfl) dX6_goesUp_55
      · replace h := it_p hc h
        refine aw_iload_n hG 2 rfl dX6_goesUp_46 rfl ?_
        refine aw_if_eq (t := 54) hG dX6_goesUp_47 rfl (fun hc => ?_) (fun hc => ?_)
        · replace h := it_p hc h
          refine aw_iconst (v := 0) hG dX6_goesUp_54 rfl ?_
          subst h
          exact FinZ.z hK (Or.inl rfl) dX6_goesUp_55
        · replace h := it_n hc h
          refine aw_iconst (v := 1) hG dX6_goesUp_50 rfl ?_
          refine aw_goto (t := 55) hG dX6_goesUp_51 rfl ?_
          subst h
          exact FinZ.z hK (Or.inr rfl) dX6_goesUp_55
  · replace h := it_n hs0 h
    by_cases hs1 : x0 = 1
    · replace h := it_p hs1 h
      refine aw_tableIn (off := 55) (t := 56) hG dX6_goesUp_1 (by rw [hs1]; decide) (by rw [hs1]; decide) (by rw [hs1]; rfl) rfl ?_
      refine aw_iload_n hG 3 rfl dX6_goesUp_56 rfl ?_
      refine aw_iconst (v := 2) hG dX6_goesUp_57 rfl ?_
      refine aw_icmp_lt (t := 65) hG dX6_goesUp_58 rfl (fun hc => ?_) (fun hc => ?_)
      · replace h := it_p hc h
        refine aw_iconst (v := 0) hG dX6_goesUp_65 rfl ?_
        subst h
        exact FinZ.z hK (Or.inl rfl) dX6_goesUp_66
      · replace h := it_n hc h
        refine aw_iconst (v := 1) hG dX6_goesUp_61 rfl ?_
        refine aw_goto (t := 66) hG dX6_goesUp_62 rfl ?_
        subst h
        exact FinZ.z hK (Or.inr rfl) dX6_goesUp_66
    · replace h := it_n hs1 h
      by_cases hs2 : x0 = 2
      · replace h := it_p hs2 h
        refine aw_tableIn (off := 94) (t := 95) hG dX6_goesUp_1 (by rw [hs2]; decide) (by rw [hs2]; decide) (by rw [hs2]; rfl) rfl ?_
        refine aw_iconst (v := 0) hG dX6_goesUp_95 rfl ?_
        subst h
        exact FinZ.z hK (Or.inl rfl) dX6_goesUp_96
      · replace h := it_n hs2 h
        by_cases hs3 : x0 = 3
        · replace h := it_p hs3 h
          refine aw_tableIn (off := 66) (t := 67) hG dX6_goesUp_1 (by rw [hs3]; decide) (by rw [hs3]; decide) (by rw [hs3]; rfl) rfl ?_
          refine aw_iload_n hG 3 rfl dX6_goesUp_67 rfl ?_
          refine aw_if_eq (t := 79) hG dX6_goesUp_68 rfl (fun hc => ?_) (fun hc => ?_)
          · replace h := it_p hc h
            refine aw_iconst (v := 0) hG dX6_goesUp_79 rfl ?_
            subst h
            exact FinZ.z hK (Or.inl rfl) dX6_goesUp_80
          · replace h := it_n hc h
            refine aw_iload_n hG 1 rfl dX6_goesUp_71 rfl ?_
            refine aw_if_ne (t := 79) hG dX6_goesUp_72 rfl (fun hc => ?_) (fun hc => ?_)
            · replace h := it_n hc h
              refine aw_iconst (v := 0) hG dX6_goesUp_79 rfl ?_
              subst h
              exact FinZ.z hK (Or.inl rfl) dX6_goesUp_80
            · replace h := it_p hc h
              refine aw_iconst (v := 1) hG dX6_goesUp_75 rfl ?_
              refine aw_goto (t := 80) hG dX6_goesUp_76 rfl ?_
              subst h
              exact FinZ.z hK (Or.inr rfl) dX6_goesUp_80
        · replace h := it_n hs3 h
          by_cases hs4 : x0 = 4
          · replace h := it_p hs4 h
            refine aw_tableIn (off := 80) (t := 81) hG dX6_goesUp_1 (by rw [hs4]; decide) (by rw [hs4]; decide) (by rw [hs4]; rfl) rfl ?_
            refine aw_iload_n hG 3 rfl dX6_goesUp_81 rfl ?_
            refine aw_if_eq (t := 93) hG dX6_goesUp_82 rfl (fun hc => ?_) (fun hc => ?_)
            · replace h := it_p hc h
              refine aw_iconst (v := 0) hG dX6_goesUp_93 rfl ?_
              subst h
              exact FinZ.z hK (Or.inl rfl) dX6_goesUp_94
            · replace h := it_n hc h
              refine aw_iload_n hG 1 rfl dX6_goesUp_85 rfl ?_
              refine aw_if_eq (t := 93) hG dX6_goesUp_86 rfl (fun hc => ?_) (fun hc => ?_)
              · replace h := it_p hc h
                refine aw_iconst (v := 0) hG dX6_goesUp_93 rfl ?_
                subst h
                exact FinZ.z hK (Or.inl rfl) dX6_goesUp_94
              · replace h := it_n hc h
                refine aw_iconst (v := 1) hG dX6_goesUp_89 rfl ?_
                refine aw_goto (t := 94) hG dX6_goesUp_90 rfl ?_
                subst h
                exact FinZ.z hK (Or.inr rfl) dX6_goesUp_94
          · replace h := it_n hs4 h
            refine aw_tableOut (t := 95) hG dX6_goesUp_1 (sw5 hs0 hs1 hs2 hs3 hs4) rfl ?_
            refine aw_iconst (v := 0) hG dX6_goesUp_95 rfl ?_
            subst h
            exact FinZ.z hK (Or.inl rfl) dX6_goesUp_96
theorem c_X6_goesUp {c : CS} {m : MS} {z : Nat → Int64} {x0 : Int32} {x1 : Int32} {x2 : Int32} {x3 : Int32}  : Ct yX6_goesUp cX6_goesUp 4 (some .boolean) 1 (fun w => [.int x0, .int x1, .int x2, .int x3]) (c, m, z) (fun _ => some (.int (f_X6_goesUp x0 x1 x2 x3))) (c, m, z) := Ct_ofZ (by decide +kernel) (fun _ => Nat.le_of_ble_eq_true rfl) (fun g hG hK => w_X6_goesUp hG rfl hK)
theorem b_X6_goesUp {x0 : Int32} {x1 : Int32} {x2 : Int32} {x3 : Int32} : f_X6_goesUp x0 x1 x2 x3 = 0 ∨ f_X6_goesUp x0 x1 x2 x3 = 1 := by
  unfold f_X6_goesUp
  repeat' split
  all_goals first | exact Or.inl rfl | exact Or.inr rfl
def f_X3_settle_J71 (s0 : Int64) (s1 : Int32) (q2 : Nat) (c : CS) : CS :=
  lt (srdP c (f_X2_signed q2 s1 s0)) fun c_5 =>
  lt (srdF c_5 3) fun c_6 =>
  c_6
set_option maxRecDepth 20000 in
theorem w_X3_settle_J71 {g : Cx} {mc ms : Nat} {c : CS} {m : MS} {z : Nat → Int64} {s0 : Int64} {s1 : Int32} {q2 : Nat} {s : CS} (hq2 : q2 < 4) (hG : Gd g RX3 cX3_settle 12 3 mc ms) (h : f_X3_settle_J71 s0 s1 q2 c = s) (hK : FinV g cX3_settle mc ms (s, m, z)) : AW g 71 [(0, .ref (wad (cxw g) 8))] [.long s0, .int s1, .ref (wad (cxw g) (30 + q2)), .ref (wad (cxw g) 8)] (c, m, z) 0 0 := by
  unfold f_X3_settle_J71 at h
  refine aw_callNl (As := [.int s1, .long s0]) (rest := [.ref (wad (cxw g) 8)]) hG (c_X2_signed (f0 := q2) (x1 := s1) (x2 := s0) (c := c) hq2) l_158 wf_X2_signed (rv_X2 hG hq2) rfl rfl rfl (by decide) (Nat.zero_le _) (Nat.zero_le _) (Nat.le_of_ble_eq_true rfl) dX3_settle_71 ?_
  refine pt_rdP hG l_150 dX3_settle_74 ?_
  refine aw_stc (fun c_5 hc_5 => ?_)
  replace h := lt_r hc_5 h
  refine aw_aload_n hG 0 rfl dX3_settle_77 rfl ?_
  refine aw_iconst (v := 3) hG dX3_settle_78 rfl ?_
  refine pt_rdF hG l_151 dX3_settle_79 ?_
  refine aw_stc (fun c_6 hc_6 => ?_)
  replace h := lt_r hc_6 h
  refine aw_goto (t := 119) hG dX3_settle_82 rfl ?_
  subst h
  exact FinV.z hK dX3_settle_119
def f_X3_settle_J23 (f1 : Nat) (x2 : Int32) (x3 : Int64) (x7 : Int32) (s0 : Int64) (c : CS) : CS :=
  if s0 ≤ (2 * ((fE f1).toInt64)) then
    lt (x3 &&& ((f_X2_hiddenBit f1) - 1)) fun x10_1 =>
    lt (srdP c (f_X2_signed f1 x2 ((s0 * (f_X2_hiddenBit f1)) + x10_1))) fun c_2 =>
    lt (srdF c_2 0) fun c_3 =>
    c_3
  else
    lt (f_X6_goesUp x7 x2 1 3) fun x10_4 =>
    if x10_4 = 0 then
      f_X3_settle_J71 ((f_X2_infinite f1) - 1) x2 f1 c
    else
      f_X3_settle_J71 (f_X2_infinite f1) x2 f1 c
set_option maxRecDepth 20000 in
theorem w_X3_settle_J23 {g : Cx} {mc ms : Nat} {c : CS} {m : MS} {z : Nat → Int64} {f1 : Nat} {x2 : Int32} {x3 : Int64} {x7 : Int32} {s0 : Int64} {s : CS} (hf1 : f1 < 4) (hG : Gd g RX3 cX3_settle 12 3 mc ms) (h : f_X3_settle_J23 f1 x2 x3 x7 s0 c = s) (hK : FinV g cX3_settle mc ms (s, m, z)) : AW g 23 [(0, .ref (wad (cxw g) 8)), (1, .ref (wad (cxw g) (30 + f1))), (2, .int x2), (3, .long x3), (7, .int x7)] [.long s0] (c, m, z) 0 0 := by
  unfold f_X3_settle_J23 at h
  refine aw_lstore (L' := [(8, .long s0), (0, .ref (wad (cxw g) 8)), (1, .ref (wad (cxw g) (30 + f1))), (2, .int x2), (3, .long x3), (7, .int x7)]) hG dX3_settle_23 (by decide) rfl ?_
  refine aw_lload hG 0 rfl dX3_settle_25 ?_
  refine aw_ldc2 hG l_156 dX3_settle_27 ?_
  refine aw_aload_n hG 2 rfl dX3_settle_30 rfl ?_
  refine aw_fE hG hf1 l_157 dX3_settle_31 ?_
  refine aw_i2l hG dX3_settle_34 ?_
  refine aw_lmul hG dX3_settle_35 ?_
  refine aw_lc_le (t := 85) hG dX3_settle_36 rfl dX3_settle_37 rfl rfl (fun hc => ?_) (fun hc => ?_)
  · replace h := it_p hc h
    refine aw_lload_n hG 4 rfl dX3_settle_85 rfl ?_
    refine aw_aload_n hG 2 rfl dX3_settle_86 rfl ?_
    refine aw_callNl (As := []) (rest := [.long x3]) hG (c_X2_hiddenBit (f0 := f1) (c := c) hf1) l_154 wf_X2_hiddenBit (rv_X2 hG hf1) rfl rfl rfl (by decide) (Nat.zero_le _) (Nat.zero_le _) (Nat.le_of_ble_eq_true rfl) dX3_settle_87 ?_
    refine aw_lconst (v := 1) hG dX3_settle_90 rfl ?_
    refine aw_lsub hG dX3_settle_91 ?_
    refine aw_land hG dX3_settle_92 ?_
    refine aw_topl (fun x10_1 hx10_1 => ?_)
    replace h := lt_r hx10_1 h
    refine aw_lstore (L' := [(10, .long x10_1), (8, .long s0), (0, .ref (wad (cxw g) 8)), (1, .ref (wad (cxw g) (30 + f1))), (2, .int x2), (3, .long x3), (7, .int x7)]) hG dX3_settle_93 (by decide) rfl ?_
    refine aw_aload_n hG 2 rfl dX3_settle_95 rfl ?_
    refine aw_aload_n hG 3 rfl dX3_settle_96 rfl ?_
    refine aw_iload_n hG 4 rfl dX3_settle_97 rfl ?_
    refine aw_lload hG 1 rfl dX3_settle_98 ?_
    refine aw_aload_n hG 3 rfl dX3_settle_100 rfl ?_
    refine aw_callNl (As := []) (rest := [.long s0, .int x2, .ref (wad (cxw g) (30 + f1)), .ref (wad (cxw g) 8)]) hG (c_X2_hiddenBit (f0 := f1) (c := c) hf1) l_154 wf_X2_hiddenBit (rv_X2 hG hf1) rfl rfl rfl (by decide) (Nat.zero_le _) (Nat.zero_le _) (Nat.le_of_ble_eq_true rfl) dX3_settle_101 ?_
    refine aw_lmul hG dX3_settle_104 ?_
    refine aw_lload hG 0 rfl dX3_settle_105 ?_
    refine aw_ladd hG dX3_settle_107 ?_
    refine aw_callNl (As := [.int x2, .long ((s0 * (f_X2_hiddenBit f1)) + x10_1)]) (rest := [.ref (wad (cxw g) 8)]) hG (c_X2_signed (f0 := f1) (x1 := x2) (x2 := (s0 * (f_X2_hiddenBit f1)) + x10_1) (c := c) hf1) l_158 wf_X2_signed (rv_X2 hG hf1) rfl rfl rfl (by decide) (Nat.zero_le _) (Nat.zero_le _) (Nat.le_of_ble_eq_true rfl) dX3_settle_108 ?_
    refine pt_rdP hG l_150 dX3_settle_111 ?_
    refine aw_stc (fun c_2 hc_2 => ?_)
    replace h := lt_r hc_2 h
    refine aw_aload_n hG 2 rfl dX3_settle_114 rfl ?_
    refine aw_iconst (v := 0) hG dX3_settle_115 rfl ?_
    refine pt_rdF hG l_151 dX3_settle_116 ?_
    refine aw_stc (fun c_3 hc_3 => ?_)
    replace h := lt_r hc_3 h
    subst h
    exact FinV.z hK dX3_settle_119
  · replace h := it_n hc h
    refine aw_iload hG 5 rfl dX3_settle_40 ?_
    refine aw_iload_n hG 3 rfl dX3_settle_42 rfl ?_
    refine aw_iconst (v := 1) hG dX3_settle_43 rfl ?_
    refine aw_iconst (v := 3) hG dX3_settle_44 rfl ?_
    refine aw_callSNi (host := "FloatTexts") (As := [.int x7, .int x2, .int 1, .int 3]) (rest := []) hG (c_X6_goesUp (x0 := x7) (x1 := x2) (x2 := 1) (x3 := 3) (c := c) ) (fun U h => h.2.1) ws_X6_goesUp rfl rfl rfl (by decide) (Nat.zero_le _) (Nat.zero_le _) (Nat.le_of_ble_eq_true rfl) dX3_settle_45 ?_
    refine aw_topi (fun x10_4 hx10_4 => ?_)
    replace h := lt_r hx10_4 h
    refine aw_istore (L' := [(10, .int x10_4), (8, .long s0), (0, .ref (wad (cxw g) 8)), (1, .ref (wad (cxw g) (30 + f1))), (2, .int x2), (3, .long x3), (7, .int x7)]) hG dX3_settle_48 (by decide) rfl ?_
    refine aw_aload_n hG 2 rfl dX3_settle_50 rfl ?_
    refine aw_aload_n hG 3 rfl dX3_settle_51 rfl ?_
    refine aw_iload_n hG 4 rfl dX3_settle_52 rfl ?_
    refine aw_iload hG 0 rfl dX3_settle_53 ?_
    refine aw_if_eq (t := 65) hG dX3_settle_55 rfl (fun hc => ?_) (fun hc => ?_)
    · replace h := it_p hc h
      refine aw_aload_n hG 3 rfl dX3_settle_65 rfl ?_
      refine aw_callNl (As := []) (rest := [.int x2, .ref (wad (cxw g) (30 + f1)), .ref (wad (cxw g) 8)]) hG (c_X2_infinite (f0 := f1) (c := c) hf1) l_165 wf_X2_infinite (rv_X2 hG hf1) rfl rfl rfl (by decide) (Nat.zero_le _) (Nat.zero_le _) (Nat.le_of_ble_eq_true rfl) dX3_settle_66 ?_
      refine aw_lconst (v := 1) hG dX3_settle_69 rfl ?_
      refine aw_lsub hG dX3_settle_70 ?_
      refine aw_sub (L' := [(0, .ref (wad (cxw g) 8))]) [2] rfl ?_
      exact w_X3_settle_J71 (s0 := (f_X2_infinite f1) - 1) (s1 := x2) (q2 := f1) (c := c) hf1 hG h hK
    · replace h := it_n hc h
      refine aw_aload_n hG 3 rfl dX3_settle_58 rfl ?_
      refine aw_callNl (As := []) (rest := [.int x2, .ref (wad (cxw g) (30 + f1)), .ref (wad (cxw g) 8)]) hG (c_X2_infinite (f0 := f1) (c := c) hf1) l_165 wf_X2_infinite (rv_X2 hG hf1) rfl rfl rfl (by decide) (Nat.zero_le _) (Nat.zero_le _) (Nat.le_of_ble_eq_true rfl) dX3_settle_59 ?_
      refine aw_goto (t := 71) hG dX3_settle_62 rfl ?_
      refine aw_sub (L' := [(0, .ref (wad (cxw g) 8))]) [2] rfl ?_
      exact w_X3_settle_J71 (s0 := f_X2_infinite f1) (s1 := x2) (q2 := f1) (c := c) hf1 hG h hK
def f_X3_settle (f1 : Nat) (x2 : Int32) (x3 : Int64) (x5 : Int64) (x7 : Int32) (c : CS) : CS :=
  if (f_X2_hiddenBit f1) ≤ x3 then
    f_X3_settle_J23 f1 x2 x3 x7 ((x5 - ((f_X2_leastUnit f1).toInt64)) + 1) c
  else
    f_X3_settle_J23 f1 x2 x3 x7 0 c
set_option maxRecDepth 20000 in
theorem w_X3_settle {g : Cx} {mc ms : Nat} {c : CS} {m : MS} {z : Nat → Int64} {f1 : Nat} {x2 : Int32} {x3 : Int64} {x5 : Int64} {x7 : Int32} {s : CS} (hf1 : f1 < 4) (hG : Gd g RX3 cX3_settle 12 3 mc ms) (h : f_X3_settle f1 x2 x3 x5 x7 c = s) (hK : FinV g cX3_settle mc ms (s, m, z)) : AW g 0 [(0, .ref (wad (cxw g) 8)), (1, .ref (wad (cxw g) (30 + f1))), (2, .int x2), (3, .long x3), (5, .long x5), (7, .int x7)] [] (c, m, z) 0 0 := by
  unfold f_X3_settle at h
  refine aw_lload_n hG 3 rfl dX3_settle_0 rfl ?_
  refine aw_aload_n hG 1 rfl dX3_settle_1 rfl ?_
  refine aw_callNl (As := []) (rest := [.long x3]) hG (c_X2_hiddenBit (f0 := f1) (c := c) hf1) l_154 wf_X2_hiddenBit (rv_X2 hG hf1) rfl rfl rfl (by decide) (Nat.zero_le _) (Nat.zero_le _) (Nat.le_of_ble_eq_true rfl) dX3_settle_2 ?_
  refine aw_lc_ge (t := 13) hG dX3_settle_5 rfl dX3_settle_6 rfl rfl (fun hc => ?_) (fun hc => ?_)
  · replace h := it_p hc h
    refine aw_lload hG 4 rfl dX3_settle_13 ?_
    refine aw_aload_n hG 1 rfl dX3_settle_15 rfl ?_
    refine aw_callNi (As := []) (rest := [.long x5]) hG (c_X2_leastUnit (f0 := f1) (c := c) hf1) l_155 wf_X2_leastUnit (rv_X2 hG hf1) rfl rfl rfl (by decide) (Nat.zero_le _) (Nat.zero_le _) (Nat.le_of_ble_eq_true rfl) dX3_settle_16 ?_
    refine aw_i2l hG dX3_settle_19 ?_
    refine aw_lsub hG dX3_settle_20 ?_
    refine aw_lconst (v := 1) hG dX3_settle_21 rfl ?_
    refine aw_ladd hG dX3_settle_22 ?_
    refine aw_sub (L' := [(0, .ref (wad (cxw g) 8)), (1, .ref (wad (cxw g) (30 + f1))), (2, .int x2), (3, .long x3), (7, .int x7)]) [0, 1, 2, 3, 5] rfl ?_
    exact w_X3_settle_J23 (f1 := f1) (x2 := x2) (x3 := x3) (x7 := x7) (s0 := (x5 - ((f_X2_leastUnit f1).toInt64)) + 1) (c := c) hf1 hG h hK
  · replace h := it_n hc h
    refine aw_lconst (v := 0) hG dX3_settle_9 rfl ?_
    refine aw_goto (t := 23) hG dX3_settle_10 rfl ?_
    refine aw_sub (L' := [(0, .ref (wad (cxw g) 8)), (1, .ref (wad (cxw g) (30 + f1))), (2, .int x2), (3, .long x3), (7, .int x7)]) [0, 1, 2, 3, 5] rfl ?_
    exact w_X3_settle_J23 (f1 := f1) (x2 := x2) (x3 := x3) (x7 := x7) (s0 := 0) (c := c) hf1 hG h hK
theorem c_X3_settle {c : CS} {m : MS} {z : Nat → Int64} {f1 : Nat} {x2 : Int32} {x3 : Int64} {x5 : Int64} {x7 : Int32} {s : CS} (hf1 : f1 < 4) (h : f_X3_settle f1 x2 x3 x5 x7 c = s) : Ct yX3_settle cX3_settle 12 none 3 (fun w => [.ref (wad w 8), .ref (wad w (30 + f1)), .int x2, .long x3, .long x5, .int x7]) (c, m, z) (fun _ => none) (s, m, z) := Ct_ofV (by decide +kernel) (fun _ => Nat.le_of_ble_eq_true rfl) (fun g hG hK => w_X3_settle hf1 hG h hK)
def f_X3_round_J110 (f1 : Nat) (x2 : Int32) (x8 : Int32) (x11 : Int64) (x15 : Int64) (x17 : Int32) (c : CS) : Option CS :=
  lt (f_X3_settle f1 x2 x15 x11 x8 c) fun v_7 =>
  if x17 = 0 then
    some v_7
  else
    if (f_X2_exponentOf f1 (rdP v_7)) = 0 then
      lt (srdF v_7 ((rdF v_7) ||| 5)) fun c_9 =>
      some c_9
    else
      lt (srdF v_7 ((rdF v_7) ||| 1)) fun c_8 =>
      some c_8
set_option maxRecDepth 20000 in
theorem w_X3_round_J110 {g : Cx} {mc ms : Nat} {c : CS} {m : MS} {z : Nat → Int64} {f1 : Nat} {x2 : Int32} {x8 : Int32} {x11 : Int64} {x15 : Int64} {x17 : Int32} {s : CS} (hf1 : f1 < 4) (hG : Gd g RX3 cX3_round 18 4 mc ms) (h : f_X3_round_J110 f1 x2 x8 x11 x15 x17 c = some s) (hK : FinV g cX3_round mc ms (s, m, z)) : AW g 110 [(0, .ref (wad (cxw g) 8)), (1, .ref (wad (cxw g) (30 + f1))), (2, .int x2), (8, .int x8), (11, .long x11), (15, .long x15), (17, .int x17)] [] (c, m, z) 0 0 := by
  unfold f_X3_round_J110 at h
  refine aw_aload_n hG 0 rfl dX3_round_110 rfl ?_
  refine aw_aload_n hG 1 rfl dX3_round_111 rfl ?_
  refine aw_iload_n hG 2 rfl dX3_round_112 rfl ?_
  refine aw_lload hG 5 rfl dX3_round_113 ?_
  refine aw_lload hG 4 rfl dX3_round_115 ?_
  refine aw_iload hG 3 rfl dX3_round_117 ?_
  obtain ⟨v_7, hv_7⟩ : ∃ y, y = f_X3_settle f1 x2 x15 x11 x8 c := ⟨_, rfl⟩
  replace h := lt_r hv_7 h
  refine aw_callVv (As := [.ref (wad (cxw g) (30 + f1)), .int x2, .long x15, .long x11, .int x8]) (rest := []) hG (c_X3_settle (f1 := f1) (x2 := x2) (x3 := x15) (x5 := x11) (x7 := x8) (c := c) hf1 hv_7.symm) l_180 wv_X3_settle (rv_X3 hG) rfl rfl rfl (by decide) (Nat.zero_le _) (Nat.zero_le _) (Nat.le_of_ble_eq_true rfl) dX3_round_119 ?_
  refine aw_iload hG 6 rfl dX3_round_122 ?_
  refine aw_if_eq (t := 152) hG dX3_round_124 rfl (fun hc => ?_) (fun hc => ?_)
  · replace h := it_p hc h
    obtain rfl := Option.some.inj h
    exact FinV.z hK dX3_round_152
  · replace h := it_n hc h
    refine aw_aload_n hG 0 rfl dX3_round_127 rfl ?_
    refine aw_dup hG dX3_round_128 rfl ?_
    refine gt_rdF hG l_151 dX3_round_129 ?_
    refine aw_aload_n hG 1 rfl dX3_round_132 rfl ?_
    refine aw_aload_n hG 0 rfl dX3_round_133 rfl ?_
    refine gt_rdP hG l_150 dX3_round_134 ?_
    refine aw_callNi (As := [.long (rdP v_7)]) (rest := [.int (rdF v_7), .ref (wad (cxw g) 8)]) hG (c_X2_exponentOf (f0 := f1) (x1 := rdP v_7) (c := v_7) hf1) l_185 wf_X2_exponentOf (rv_X2 hG hf1) rfl rfl rfl (by decide) (Nat.zero_le _) (Nat.zero_le _) (Nat.le_of_ble_eq_true rfl) dX3_round_137 ?_
    refine aw_if_ne (t := 147) hG dX3_round_140 rfl (fun hc => ?_) (fun hc => ?_)
    · replace h := it_n hc h
      refine aw_iconst (v := 1) hG dX3_round_147 rfl ?_
      refine aw_ior hG dX3_round_148 ?_
      refine pt_rdF hG l_151 dX3_round_149 ?_
      refine aw_stc (fun c_8 hc_8 => ?_)
      replace h := lt_r hc_8 h
      obtain rfl := Option.some.inj h
      exact FinV.z hK dX3_round_152
    · replace h := it_p hc h
      refine aw_iconst (v := 5) hG dX3_round_143 rfl ?_
      refine aw_goto (t := 148) hG dX3_round_144 rfl ?_
      refine aw_ior hG dX3_round_148 ?_
      refine pt_rdF hG l_151 dX3_round_149 ?_
      refine aw_stc (fun c_9 hc_9 => ?_)
      replace h := lt_r hc_9 h
      obtain rfl := Option.some.inj h
      exact FinV.z hK dX3_round_152
def f_X3_round_J84 (f1 : Nat) (x2 : Int32) (x8 : Int32) (x11 : Int64) (x15 : Int64) (x17 : Int32) (c : CS) : Option CS :=
  if x15 = (2 * (f_X2_hiddenBit f1)) then
    lt (f_X2_hiddenBit f1) fun x15_12 =>
    lt (x11 + 1) fun x11_13 =>
    f_X3_round_J110 f1 x2 x8 x11_13 x15_12 x17 c
  else
    f_X3_round_J110 f1 x2 x8 x11 x15 x17 c
set_option maxRecDepth 20000 in
theorem w_X3_round_J84 {g : Cx} {mc ms : Nat} {c : CS} {m : MS} {z : Nat → Int64} {f1 : Nat} {x2 : Int32} {x8 : Int32} {x11 : Int64} {x15 : Int64} {x17 : Int32} {s : CS} (hf1 : f1 < 4) (hG : Gd g RX3 cX3_round 18 4 mc ms) (h : f_X3_round_J84 f1 x2 x8 x11 x15 x17 c = some s) (hK : FinV g cX3_round mc ms (s, m, z)) : AW g 84 [(0, .ref (wad (cxw g) 8)), (1, .ref (wad (cxw g) (30 + f1))), (2, .int x2), (8, .int x8), (11, .long x11), (15, .long x15), (17, .int x17)] [] (c, m, z) 0 0 := by
  unfold f_X3_round_J84 at h
  refine aw_lload hG 5 rfl dX3_round_84 ?_
  refine aw_ldc2 hG l_156 dX3_round_86 ?_
  refine aw_aload_n hG 1 rfl dX3_round_89 rfl ?_
  refine aw_callNl (As := []) (rest := [.long 2, .long x15]) hG (c_X2_hiddenBit (f0 := f1) (c := c) hf1) l_154 wf_X2_hiddenBit (rv_X2 hG hf1) rfl rfl rfl (by decide) (Nat.zero_le _) (Nat.zero_le _) (Nat.le_of_ble_eq_true rfl) dX3_round_90 ?_
  refine aw_lmul hG dX3_round_93 ?_
  refine aw_lc_ne (t := 110) hG dX3_round_94 rfl dX3_round_95 rfl rfl (fun hc => ?_) (fun hc => ?_)
  · replace h := it_n hc h
    exact w_X3_round_J110 (f1 := f1) (x2 := x2) (x8 := x8) (x11 := x11) (x15 := x15) (x17 := x17) (c := c) hf1 hG h hK
  · replace h := it_p hc h
    refine aw_aload_n hG 1 rfl dX3_round_98 rfl ?_
    refine aw_callNl (As := []) (rest := []) hG (c_X2_hiddenBit (f0 := f1) (c := c) hf1) l_154 wf_X2_hiddenBit (rv_X2 hG hf1) rfl rfl rfl (by decide) (Nat.zero_le _) (Nat.zero_le _) (Nat.le_of_ble_eq_true rfl) dX3_round_99 ?_
    refine aw_topl (fun x15_12 hx15_12 => ?_)
    replace h := lt_r hx15_12 h
    refine aw_lstore (L' := [(15, .long x15_12), (0, .ref (wad (cxw g) 8)), (1, .ref (wad (cxw g) (30 + f1))), (2, .int x2), (8, .int x8), (11, .long x11), (17, .int x17)]) hG dX3_round_102 (by decide) rfl ?_
    refine aw_lload hG 5 rfl dX3_round_104 ?_
    refine aw_lconst (v := 1) hG dX3_round_106 rfl ?_
    refine aw_ladd hG dX3_round_107 ?_
    refine aw_topl (fun x11_13 hx11_13 => ?_)
    replace h := lt_r hx11_13 h
    refine aw_lstore (L' := [(11, .long x11_13), (15, .long x15_12), (0, .ref (wad (cxw g) 8)), (1, .ref (wad (cxw g) (30 + f1))), (2, .int x2), (8, .int x8), (17, .int x17)]) hG dX3_round_108 (by decide) rfl ?_
    refine aw_sub (L' := [(0, .ref (wad (cxw g) 8)), (1, .ref (wad (cxw g) (30 + f1))), (2, .int x2), (8, .int x8), (11, .long x11_13), (15, .long x15_12), (17, .int x17)]) [2, 3, 4, 5, 0, 1, 6] rfl ?_
    exact w_X3_round_J110 (f1 := f1) (x2 := x2) (x8 := x8) (x11 := x11_13) (x15 := x15_12) (x17 := x17) (c := c) hf1 hG h hK
def f_X3_round_J70 (f1 : Nat) (x2 : Int32) (x8 : Int32) (x11 : Int64) (x15 : Int64) (x17 : Int32) (s0 : Int32) (s1 : Int32) (s2 : Int32) (c : CS) : Option CS :=
  if (f_X6_goesUp s2 s1 s0 x17) = 0 then
    f_X3_round_J84 f1 x2 x8 x11 x15 x17 c
  else
    lt (x15 + 1) fun x15_15 =>
    f_X3_round_J84 f1 x2 x8 x11 x15_15 x17 c
set_option maxRecDepth 20000 in
theorem w_X3_round_J70 {g : Cx} {mc ms : Nat} {c : CS} {m : MS} {z : Nat → Int64} {f1 : Nat} {x2 : Int32} {x8 : Int32} {x11 : Int64} {x15 : Int64} {x17 : Int32} {s0 : Int32} {s1 : Int32} {s2 : Int32} {s : CS} (hf1 : f1 < 4) (hG : Gd g RX3 cX3_round 18 4 mc ms) (h : f_X3_round_J70 f1 x2 x8 x11 x15 x17 s0 s1 s2 c = some s) (hK : FinV g cX3_round mc ms (s, m, z)) : AW g 70 [(0, .ref (wad (cxw g) 8)), (1, .ref (wad (cxw g) (30 + f1))), (2, .int x2), (8, .int x8), (11, .long x11), (15, .long x15), (17, .int x17)] [.int s0, .int s1, .int s2] (c, m, z) 0 0 := by
  unfold f_X3_round_J70 at h
  refine aw_iload hG 6 rfl dX3_round_70 ?_
  refine aw_callSNi (host := "FloatTexts") (As := [.int s2, .int s1, .int s0, .int x17]) (rest := []) hG (c_X6_goesUp (x0 := s2) (x1 := s1) (x2 := s0) (x3 := x17) (c := c) ) (fun U h => h.2.1) ws_X6_goesUp rfl rfl rfl (by decide) (Nat.zero_le _) (Nat.zero_le _) (Nat.le_of_ble_eq_true rfl) dX3_round_72 ?_
  refine aw_if_eq (t := 84) hG dX3_round_75 rfl (fun hc => ?_) (fun hc => ?_)
  · replace h := it_p hc h
    exact w_X3_round_J84 (f1 := f1) (x2 := x2) (x8 := x8) (x11 := x11) (x15 := x15) (x17 := x17) (c := c) hf1 hG h hK
  · replace h := it_n hc h
    refine aw_lload hG 5 rfl dX3_round_78 ?_
    refine aw_lconst (v := 1) hG dX3_round_80 rfl ?_
    refine aw_ladd hG dX3_round_81 ?_
    refine aw_topl (fun x15_15 hx15_15 => ?_)
    replace h := lt_r hx15_15 h
    refine aw_lstore (L' := [(15, .long x15_15), (0, .ref (wad (cxw g) 8)), (1, .ref (wad (cxw g) (30 + f1))), (2, .int x2), (8, .int x8), (11, .long x11), (17, .int x17)]) hG dX3_round_82 (by decide) rfl ?_
    refine aw_sub (L' := [(0, .ref (wad (cxw g) 8)), (1, .ref (wad (cxw g) (30 + f1))), (2, .int x2), (8, .int x8), (11, .long x11), (15, .long x15_15), (17, .int x17)]) [1, 2, 3, 4, 5, 0, 6] rfl ?_
    exact w_X3_round_J84 (f1 := f1) (x2 := x2) (x8 := x8) (x11 := x11) (x15 := x15_15) (x17 := x17) (c := c) hf1 hG h hK
noncomputable def f_X3_round (f1 : Nat) (x2 : Int32) (x3 : Int64) (x5 : Int64) (x7 : Int32) (x8 : Int32) (c : CS) : Option CS :=
  Option.bind (f_X3_bitsOf x3) fun v_1 =>
  lt (x5 + v_1.toInt64) fun x9_2 =>
  lt (f_JM_maxL (x9_2 - ((fP f1).toInt64)) ((f_X2_leastUnit f1).toInt64)) fun x11_3 =>
  lt (x11_3 - x5) fun x13_4 =>
  lt (f_X3_keptOf x3 x13_4) fun x15_5 =>
  lt (f_X3_restOf x3 x13_4 x7) fun x17_6 =>
  if (x15_5 &&& 1) = 0 then
    f_X3_round_J70 f1 x2 x8 x11_3 x15_5 x17_6 0 x2 x8 c
  else
    f_X3_round_J70 f1 x2 x8 x11_3 x15_5 x17_6 1 x2 x8 c
set_option maxRecDepth 20000 in
theorem w_X3_round {g : Cx} {mc ms : Nat} {c : CS} {m : MS} {z : Nat → Int64} {f1 : Nat} {x2 : Int32} {x3 : Int64} {x5 : Int64} {x7 : Int32} {x8 : Int32} {s : CS} (hf1 : f1 < 4) (hG : Gd g RX3 cX3_round 18 4 mc ms) (h : f_X3_round f1 x2 x3 x5 x7 x8 c = some s) (hK : FinV g cX3_round mc ms (s, m, z)) : AW g 0 [(0, .ref (wad (cxw g) 8)), (1, .ref (wad (cxw g) (30 + f1))), (2, .int x2), (3, .long x3), (5, .long x5), (7, .int x7), (8, .int x8)] [] (c, m, z) 0 0 := by
  unfold f_X3_round at h
  refine aw_lload hG 4 rfl dX3_round_0 ?_
  refine aw_lload_n hG 3 rfl dX3_round_2 rfl ?_
  obtain ⟨v_1, hv_1, h⟩ := bd_o h
  refine aw_callSi (As := [.long x3]) (rest := [.long x5]) hG (c_X3_bitsOf (x0 := x3) (c := c)  hv_1) l_166 ws_X3_bitsOf rfl rfl rfl (by decide) (Nat.zero_le _) (Nat.zero_le _) (Nat.le_of_ble_eq_true rfl) dX3_round_3 ?_
  refine aw_i2l hG dX3_round_6 ?_
  refine aw_ladd hG dX3_round_7 ?_
  refine aw_topl (fun x9_2 hx9_2 => ?_)
  replace h := lt_r hx9_2 h
  refine aw_lstore (L' := [(9, .long x9_2), (0, .ref (wad (cxw g) 8)), (1, .ref (wad (cxw g) (30 + f1))), (2, .int x2), (3, .long x3), (5, .long x5), (7, .int x7), (8, .int x8)]) hG dX3_round_8 (by decide) rfl ?_
  refine aw_lload hG 0 rfl dX3_round_10 ?_
  refine aw_aload_n hG 2 rfl dX3_round_12 rfl ?_
  refine aw_fP hG hf1 l_167 dX3_round_13 ?_
  refine aw_i2l hG dX3_round_16 ?_
  refine aw_lsub hG dX3_round_17 ?_
  refine aw_aload_n hG 2 rfl dX3_round_18 rfl ?_
  refine aw_callNi (As := []) (rest := [.long (x9_2 - ((fP f1).toInt64))]) hG (c_X2_leastUnit (f0 := f1) (c := c) hf1) l_155 wf_X2_leastUnit (rv_X2 hG hf1) rfl rfl rfl (by decide) (Nat.zero_le _) (Nat.zero_le _) (Nat.le_of_ble_eq_true rfl) dX3_round_19 ?_
  refine aw_i2l hG dX3_round_22 ?_
  refine aw_callSl (As := [.long (x9_2 - ((fP f1).toInt64)), .long ((f_X2_leastUnit f1).toInt64)]) (rest := []) hG (c_JM_maxL (x0 := x9_2 - ((fP f1).toInt64)) (x2 := (f_X2_leastUnit f1).toInt64) (c := c) ) l_168 ws_JM_maxL rfl rfl rfl (by decide) (Nat.zero_le _) (Nat.zero_le _) (Nat.le_of_ble_eq_true rfl) dX3_round_23 ?_
  refine aw_topl (fun x11_3 hx11_3 => ?_)
  replace h := lt_r hx11_3 h
  refine aw_lstore (L' := [(11, .long x11_3), (9, .long x9_2), (0, .ref (wad (cxw g) 8)), (1, .ref (wad (cxw g) (30 + f1))), (2, .int x2), (3, .long x3), (5, .long x5), (7, .int x7), (8, .int x8)]) hG dX3_round_26 (by decide) rfl ?_
  refine aw_lload hG 0 rfl dX3_round_28 ?_
  refine aw_lload hG 6 rfl dX3_round_30 ?_
  refine aw_lsub hG dX3_round_32 ?_
  refine aw_topl (fun x13_4 hx13_4 => ?_)
  replace h := lt_r hx13_4 h
  refine aw_lstore (L' := [(13, .long x13_4), (11, .long x11_3), (9, .long x9_2), (0, .ref (wad (cxw g) 8)), (1, .ref (wad (cxw g) (30 + f1))), (2, .int x2), (3, .long x3), (5, .long x5), (7, .int x7), (8, .int x8)]) hG dX3_round_33 (by decide) rfl ?_
  refine aw_lload_n hG 6 rfl dX3_round_35 rfl ?_
  refine aw_lload hG 0 rfl dX3_round_36 ?_
  refine aw_callSl (As := [.long x3, .long x13_4]) (rest := []) hG (c_X3_keptOf (x0 := x3) (x2 := x13_4) (c := c) ) l_172 ws_X3_keptOf rfl rfl rfl (by decide) (Nat.zero_le _) (Nat.zero_le _) (Nat.le_of_ble_eq_true rfl) dX3_round_38 ?_
  refine aw_topl (fun x15_5 hx15_5 => ?_)
  replace h := lt_r hx15_5 h
  refine aw_lstore (L' := [(15, .long x15_5), (13, .long x13_4), (11, .long x11_3), (9, .long x9_2), (0, .ref (wad (cxw g) 8)), (1, .ref (wad (cxw g) (30 + f1))), (2, .int x2), (3, .long x3), (5, .long x5), (7, .int x7), (8, .int x8)]) hG dX3_round_41 (by decide) rfl ?_
  refine aw_lload_n hG 7 rfl dX3_round_43 rfl ?_
  refine aw_lload hG 1 rfl dX3_round_44 ?_
  refine aw_iload hG 9 rfl dX3_round_46 ?_
  refine aw_callSi (As := [.long x3, .long x13_4, .int x7]) (rest := []) hG (c_X3_restOf (x0 := x3) (x2 := x13_4) (x4 := x7) (c := c) ) l_176 ws_X3_restOf rfl rfl rfl (by decide) (Nat.zero_le _) (Nat.zero_le _) (Nat.le_of_ble_eq_true rfl) dX3_round_48 ?_
  refine aw_topi (fun x17_6 hx17_6 => ?_)
  replace h := lt_r hx17_6 h
  refine aw_istore (L' := [(17, .int x17_6), (15, .long x15_5), (13, .long x13_4), (11, .long x11_3), (9, .long x9_2), (0, .ref (wad (cxw g) 8)), (1, .ref (wad (cxw g) (30 + f1))), (2, .int x2), (3, .long x3), (5, .long x5), (7, .int x7), (8, .int x8)]) hG dX3_round_51 (by decide) rfl ?_
  refine aw_iload hG 11 rfl dX3_round_53 ?_
  refine aw_iload_n hG 7 rfl dX3_round_55 rfl ?_
  refine aw_lload hG 1 rfl dX3_round_56 ?_
  refine aw_lconst (v := 1) hG dX3_round_58 rfl ?_
  refine aw_land hG dX3_round_59 ?_
  refine aw_lconst (v := 0) hG dX3_round_60 rfl ?_
  refine aw_lc_eq (t := 69) hG dX3_round_61 rfl dX3_round_62 rfl rfl (fun hc => ?_) (fun hc => ?_)
  · replace h := it_p hc h
    refine aw_iconst (v := 0) hG dX3_round_69 rfl ?_
    refine aw_sub (L' := [(0, .ref (wad (cxw g) 8)), (1, .ref (wad (cxw g) (30 + f1))), (2, .int x2), (8, .int x8), (11, .long x11_3), (15, .long x15_5), (17, .int x17_6)]) [5, 6, 7, 11, 3, 1, 0] rfl ?_
    exact w_X3_round_J70 (f1 := f1) (x2 := x2) (x8 := x8) (x11 := x11_3) (x15 := x15_5) (x17 := x17_6) (s0 := 0) (s1 := x2) (s2 := x8) (c := c) hf1 hG h hK
  · replace h := it_n hc h
    refine aw_iconst (v := 1) hG dX3_round_65 rfl ?_
    refine aw_goto (t := 70) hG dX3_round_66 rfl ?_
    refine aw_sub (L' := [(0, .ref (wad (cxw g) 8)), (1, .ref (wad (cxw g) (30 + f1))), (2, .int x2), (8, .int x8), (11, .long x11_3), (15, .long x15_5), (17, .int x17_6)]) [5, 6, 7, 11, 3, 1, 0] rfl ?_
    exact w_X3_round_J70 (f1 := f1) (x2 := x2) (x8 := x8) (x11 := x11_3) (x15 := x15_5) (x17 := x17_6) (s0 := 1) (s1 := x2) (s2 := x8) (c := c) hf1 hG h hK
theorem c_X3_round {c : CS} {m : MS} {z : Nat → Int64} {f1 : Nat} {x2 : Int32} {x3 : Int64} {x5 : Int64} {x7 : Int32} {x8 : Int32} {s : CS} (hf1 : f1 < 4) (h : f_X3_round f1 x2 x3 x5 x7 x8 c = some s) : Ct yX3_round cX3_round 18 none 4 (fun w => [.ref (wad w 8), .ref (wad w (30 + f1)), .int x2, .long x3, .long x5, .int x7, .int x8]) (c, m, z) (fun _ => none) (s, m, z) := Ct_ofV (by decide +kernel) (fun _ => Nat.le_of_ble_eq_true rfl) (fun g hG hK => w_X3_round hf1 hG h hK)
