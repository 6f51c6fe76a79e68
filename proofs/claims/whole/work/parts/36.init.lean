theorem lI_0 : Cond.instanceMethod Lib.objectInit ∈ gws := gws_of 80 (by decide +kernel) (by decide +kernel)
theorem lI_1 : Cond.code Lib.objectInit ⟨#[0xb1]⟩ 1 none ∈ gws := gws_of 81 (by decide +kernel) (by decide +kernel)
theorem lI_2 : Cond.arrayClass .byte ∈ gws := gws_of 100 (by decide +kernel) (by decide +kernel)
theorem lI_3 : Cond.arrayClass .int ∈ gws := gws_of 197 (by decide +kernel) (by decide +kernel)
theorem lI_4 : Cond.arrayClass .long ∈ gws := gws_of 1396 (by decide +kernel) (by decide +kernel)
theorem lI_5 : Cond.static Lib.Math.max.name ∈ gws := gws_of 89 (by decide +kernel) (by decide +kernel)
theorem lI_6 : Cond.initialized "java/lang/Math" ∈ gws := gws_of 58 (by decide +kernel) (by decide +kernel)
theorem lI_7 : Cond.code Lib.Math.max.name Lib.Math.max.code 2 (some .int) ∈ gws := gws_of 90 (by decide +kernel) (by decide +kernel)
theorem lI_8 : Cond.methodLink RX0 3 Lib.objectInit ∈ gws := gws_of 87 (by decide +kernel) (by decide +kernel)
theorem lI_9 : Cond.methodLink RX0 9 Lib.Math.max.name ∈ gws := gws_of 88 (by decide +kernel) (by decide +kernel)
theorem lI_10 : Cond.fieldLink RX0 15 "FloatTexts$ByteRow" "bytes" "[B" ∈ gws := gws_of 91 (by decide +kernel) (by decide +kernel)
theorem lI_11 : Cond.fieldLink RX0 21 "FloatTexts$ByteRow" "length" "I" ∈ gws := gws_of 92 (by decide +kernel) (by decide +kernel)
theorem lI_12 : Cond.methodLink RX1 1 Lib.objectInit ∈ gws := gws_of 106 (by decide +kernel) (by decide +kernel)
theorem lI_13 : Cond.fieldLink RX1 9 "FloatTexts$Decimal" "digits" "[B" ∈ gws := gws_of 107 (by decide +kernel) (by decide +kernel)
theorem lI_14 : Cond.fieldLink RX1 13 "FloatTexts$Decimal" "minus" "Z" ∈ gws := gws_of 108 (by decide +kernel) (by decide +kernel)
theorem lI_15 : Cond.fieldLink RX1 17 "FloatTexts$Decimal" "count" "I" ∈ gws := gws_of 110 (by decide +kernel) (by decide +kernel)
theorem lI_16 : Cond.fieldLink RX1 21 "FloatTexts$Decimal" "point" "I" ∈ gws := gws_of 113 (by decide +kernel) (by decide +kernel)
theorem lI_17 : Cond.methodLink RX3 3 Lib.objectInit ∈ gws := gws_of 168 (by decide +kernel) (by decide +kernel)
theorem lI_18 : Cond.fieldLink RX3 9 "FloatTexts$Rounding" "pattern" "J" ∈ gws := gws_of 169 (by decide +kernel) (by decide +kernel)
theorem lI_19 : Cond.fieldLink RX3 15 "FloatTexts$Rounding" "flags" "I" ∈ gws := gws_of 171 (by decide +kernel) (by decide +kernel)
theorem lI_20 : Cond.methodLink RX4 5 Lib.objectInit ∈ gws := gws_of 183 (by decide +kernel) (by decide +kernel)
theorem lI_21 : Cond.fieldLink RX4 11 "FloatTexts$Row" "limbs" "[I" ∈ gws := gws_of 184 (by decide +kernel) (by decide +kernel)
theorem lI_22 : Cond.fieldLink RX4 15 "FloatTexts$Row" "first" "I" ∈ gws := gws_of 185 (by decide +kernel) (by decide +kernel)
theorem lI_23 : Cond.fieldLink RX4 19 "FloatTexts$Row" "last" "I" ∈ gws := gws_of 186 (by decide +kernel) (by decide +kernel)
theorem lI_24 : Cond.fieldLink RX4 22 "FloatTexts$Row" "lost" "Z" ∈ gws := gws_of 187 (by decide +kernel) (by decide +kernel)
theorem lI_25 : Cond.methodLink RX5 3 Lib.objectInit ∈ gws := gws_of 130 (by decide +kernel) (by decide +kernel)
theorem lI_26 : Cond.fieldLink RX5 11 "FloatTexts$Scan" "what" "I" ∈ gws := gws_of 131 (by decide +kernel) (by decide +kernel)
theorem lI_27 : Cond.fieldLink RX5 15 "FloatTexts$Scan" "minus" "Z" ∈ gws := gws_of 133 (by decide +kernel) (by decide +kernel)
theorem lI_28 : Cond.fieldLink RX5 19 "FloatTexts$Scan" "start" "I" ∈ gws := gws_of 135 (by decide +kernel) (by decide +kernel)
theorem lI_29 : Cond.fieldLink RX5 22 "FloatTexts$Scan" "end" "I" ∈ gws := gws_of 137 (by decide +kernel) (by decide +kernel)
theorem lI_30 : Cond.fieldLink RX5 25 "FloatTexts$Scan" "wholeDigits" "I" ∈ gws := gws_of 139 (by decide +kernel) (by decide +kernel)
theorem lI_31 : Cond.fieldLink RX5 28 "FloatTexts$Scan" "leading" "I" ∈ gws := gws_of 141 (by decide +kernel) (by decide +kernel)
theorem lI_32 : Cond.fieldLink RX5 31 "FloatTexts$Scan" "exponent" "I" ∈ gws := gws_of 143 (by decide +kernel) (by decide +kernel)
theorem lI_33 : Cond.fieldLink RX5 34 "FloatTexts$Scan" "allDigits" "I" ∈ gws := gws_of 145 (by decide +kernel) (by decide +kernel)
theorem lI_34 : Cond.methodLink RX7 1 Lib.objectInit ∈ gws := gws_of 990 (by decide +kernel) (by decide +kernel)
theorem lI_35 : Cond.fieldLink RX7 7 "FloatTextsModel" "text" "[I" ∈ gws := gws_of 992 (by decide +kernel) (by decide +kernel)
theorem lI_36 : Cond.fieldLink RX7 13 "FloatTextsModel" "out" "[I" ∈ gws := gws_of 994 (by decide +kernel) (by decide +kernel)
theorem lI_37 : Cond.fieldLink RX7 16 "FloatTextsModel" "digits" "[I" ∈ gws := gws_of 996 (by decide +kernel) (by decide +kernel)
theorem lI_38 : Cond.fieldLink RX7 19 "FloatTextsModel" "a" "[I" ∈ gws := gws_of 1002 (by decide +kernel) (by decide +kernel)
theorem lI_39 : Cond.fieldLink RX7 22 "FloatTextsModel" "b" "[I" ∈ gws := gws_of 1003 (by decide +kernel) (by decide +kernel)
theorem lI_40 : Cond.fieldLink RX7 25 "FloatTextsModel" "c" "[I" ∈ gws := gws_of 1004 (by decide +kernel) (by decide +kernel)
theorem lI_41 : Cond.fieldLink RX7 28 "FloatTextsModel" "exact" "[I" ∈ gws := gws_of 1007 (by decide +kernel) (by decide +kernel)
theorem lI_42 : Cond.fieldLink RX7 31 "FloatTextsModel" "row" "[I" ∈ gws := gws_of 1010 (by decide +kernel) (by decide +kernel)
theorem lI_43 : Cond.methodLink RX6 1 Lib.objectInit ∈ gws := gws_of 79 (by decide +kernel) (by decide +kernel)
theorem lI_44 : Cond.classLink RX6 7 RX0 ∈ gws := gws_of 82 (by decide +kernel) (by decide +kernel)
theorem lI_45 : Cond.instantiable RX0 2 ∈ gws := gws_of 83 (by decide +kernel) (by decide +kernel)
theorem lI_46 : Cond.initialized RX0 ∈ gws := gws_of 57 (by decide +kernel) (by decide +kernel)
theorem lI_47 : Cond.methodLink RX6 11 yX0_init ∈ gws := gws_of 84 (by decide +kernel) (by decide +kernel)
theorem lI_48 : Cond.instanceMethod yX0_init ∈ gws := gws_of 85 (by decide +kernel) (by decide +kernel)
theorem lI_49 : Cond.initialized yX0_init.cls ∈ gws := gws_of 57 (by decide +kernel) (by decide +kernel)
theorem lI_50 : Cond.code yX0_init cX0_init 2 none ∈ gws := gws_of 86 (by decide +kernel) (by decide +kernel)
theorem lI_51 : Cond.fieldLink RX6 14 "FloatTexts" "text" "LFloatTexts$ByteRow;" ∈ gws := gws_of 198 (by decide +kernel) (by decide +kernel)
theorem lI_52 : Cond.fieldLink RX6 18 "FloatTexts" "made" "LFloatTexts$ByteRow;" ∈ gws := gws_of 199 (by decide +kernel) (by decide +kernel)
theorem lI_53 : Cond.classLink RX6 21 RX1 ∈ gws := gws_of 101 (by decide +kernel) (by decide +kernel)
theorem lI_54 : Cond.instantiable RX1 4 ∈ gws := gws_of 102 (by decide +kernel) (by decide +kernel)
theorem lI_55 : Cond.initialized RX1 ∈ gws := gws_of 59 (by decide +kernel) (by decide +kernel)
theorem lI_56 : Cond.methodLink RX6 23 yX1_init ∈ gws := gws_of 103 (by decide +kernel) (by decide +kernel)
theorem lI_57 : Cond.instanceMethod yX1_init ∈ gws := gws_of 104 (by decide +kernel) (by decide +kernel)
theorem lI_58 : Cond.initialized yX1_init.cls ∈ gws := gws_of 59 (by decide +kernel) (by decide +kernel)
theorem lI_59 : Cond.code yX1_init cX1_init 1 none ∈ gws := gws_of 105 (by decide +kernel) (by decide +kernel)
theorem lI_60 : Cond.fieldLink RX6 24 "FloatTexts" "told" "LFloatTexts$Decimal;" ∈ gws := gws_of 200 (by decide +kernel) (by decide +kernel)
theorem lI_61 : Cond.classLink RX6 28 RX5 ∈ gws := gws_of 125 (by decide +kernel) (by decide +kernel)
theorem lI_62 : Cond.instantiable RX5 8 ∈ gws := gws_of 126 (by decide +kernel) (by decide +kernel)
theorem lI_63 : Cond.initialized RX5 ∈ gws := gws_of 60 (by decide +kernel) (by decide +kernel)
theorem lI_64 : Cond.methodLink RX6 30 yX5_init ∈ gws := gws_of 127 (by decide +kernel) (by decide +kernel)
theorem lI_65 : Cond.instanceMethod yX5_init ∈ gws := gws_of 128 (by decide +kernel) (by decide +kernel)
theorem lI_66 : Cond.initialized yX5_init.cls ∈ gws := gws_of 60 (by decide +kernel) (by decide +kernel)
theorem lI_67 : Cond.code yX5_init cX5_init 1 none ∈ gws := gws_of 129 (by decide +kernel) (by decide +kernel)
theorem lI_68 : Cond.fieldLink RX6 31 "FloatTexts" "scan" "LFloatTexts$Scan;" ∈ gws := gws_of 201 (by decide +kernel) (by decide +kernel)
theorem lI_69 : Cond.classLink RX6 35 RX3 ∈ gws := gws_of 163 (by decide +kernel) (by decide +kernel)
theorem lI_70 : Cond.instantiable RX3 2 ∈ gws := gws_of 164 (by decide +kernel) (by decide +kernel)
theorem lI_71 : Cond.initialized RX3 ∈ gws := gws_of 61 (by decide +kernel) (by decide +kernel)
theorem lI_72 : Cond.methodLink RX6 37 yX3_init ∈ gws := gws_of 165 (by decide +kernel) (by decide +kernel)
theorem lI_73 : Cond.instanceMethod yX3_init ∈ gws := gws_of 166 (by decide +kernel) (by decide +kernel)
theorem lI_74 : Cond.initialized yX3_init.cls ∈ gws := gws_of 61 (by decide +kernel) (by decide +kernel)
theorem lI_75 : Cond.code yX3_init cX3_init 1 none ∈ gws := gws_of 167 (by decide +kernel) (by decide +kernel)
theorem lI_76 : Cond.fieldLink RX6 38 "FloatTexts" "rounding" "LFloatTexts$Rounding;" ∈ gws := gws_of 202 (by decide +kernel) (by decide +kernel)
theorem lI_77 : Cond.classLink RX6 42 RX4 ∈ gws := gws_of 178 (by decide +kernel) (by decide +kernel)
theorem lI_78 : Cond.instantiable RX4 4 ∈ gws := gws_of 179 (by decide +kernel) (by decide +kernel)
theorem lI_79 : Cond.initialized RX4 ∈ gws := gws_of 62 (by decide +kernel) (by decide +kernel)
theorem lI_80 : Cond.methodLink RX6 44 yX4_init ∈ gws := gws_of 180 (by decide +kernel) (by decide +kernel)
theorem lI_81 : Cond.instanceMethod yX4_init ∈ gws := gws_of 181 (by decide +kernel) (by decide +kernel)
theorem lI_82 : Cond.initialized yX4_init.cls ∈ gws := gws_of 62 (by decide +kernel) (by decide +kernel)
theorem lI_83 : Cond.code yX4_init cX4_init 1 none ∈ gws := gws_of 182 (by decide +kernel) (by decide +kernel)
theorem lI_84 : Cond.fieldLink RX6 45 "FloatTexts" "number" "LFloatTexts$Row;" ∈ gws := gws_of 203 (by decide +kernel) (by decide +kernel)
theorem lI_85 : Cond.fieldLink RX6 49 "FloatTexts" "low" "LFloatTexts$Row;" ∈ gws := gws_of 204 (by decide +kernel) (by decide +kernel)
theorem lI_86 : Cond.fieldLink RX6 52 "FloatTexts" "high" "LFloatTexts$Row;" ∈ gws := gws_of 205 (by decide +kernel) (by decide +kernel)
theorem lI_87 : Cond.fieldLink RX6 55 "FloatTexts" "candidate" "LFloatTexts$Row;" ∈ gws := gws_of 206 (by decide +kernel) (by decide +kernel)
theorem lI_88 : Cond.fieldLink RX6 58 "FloatTexts" "resultPattern" "J" ∈ gws := gws_of 207 (by decide +kernel) (by decide +kernel)
theorem lI_89 : Cond.fieldLink RX6 62 "FloatTexts" "resultFlags" "I" ∈ gws := gws_of 208 (by decide +kernel) (by decide +kernel)
set_option maxRecDepth 20000 in
set_option maxHeartbeats 4000000 in
theorem ci_X0 (w : Wc) (pre : va_W) (h : Nat) (r : Int32) (M : Nat) (hr0 : ¬ r < 0) (hM : r.toNatClampNeg = M) (hle : M ≤ 1600) : CtB w yX0_init cX0_init 2 3 1 1600 [.ref h, .int r] (pre ++ [(h, .inr (0, [.null, .int 0]))]) (fun ws' => ∃ q, ws' = pre ++ [(h, .inr (0, [.ref q, .int 0])), (q, .inl (w.2.1 0, M, .inl (fun _ => 0)))]) := by
  refine CtB_of (pre := pre) (ws := [(h, .inr (0, [.null, .int 0]))]) (by decide +kernel) (Nat.le_of_ble_eq_true rfl) rfl ?_
  intro g hgw hG hnm hF
  subst hgw
  show BP g 0 [(0, .ref h), (1, .int r)] [] pre [(h, .inr (0, [.null, .int 0]))] 0 0
  refine bp_aload_n hG 0 rfl dX0_init_0 rfl ?_
  refine bp_obj hG lI_8 lI_0 lI_1 (by decide) (Nat.le_of_ble_eq_true rfl) dX0_init_1 ?_
  refine bp_aload_n hG 0 rfl dX0_init_4 rfl ?_
  refine bp_iload_n hG 1 rfl dX0_init_5 rfl ?_
  refine bp_iconst (v := 0) hG dX0_init_6 rfl ?_
  refine bp_max hG lI_9 lI_5 lI_6 lI_7 (by decide) (by decide) (by decide) (Nat.le_of_ble_eq_true rfl) dX0_init_7 ?_
  rw [if_neg hr0]
  refine bp_newab (M := M) hG lI_2 hr0 hM (by have := hle; simp only [componentBytes]; omega) (by omega) (by omega) dX0_init_10 (fun q1 => ?_)
  show BP g _ _ _ pre [(h, .inr (0, [.null, .int 0])), (q1, .inl ((cxw g).2.1 0, M, .inl (fun _ => 0)))] _ _
  refine bp_putF (v := .ref q1) (ty := .array .byte) (ws' := [(h, .inr (0, [.ref q1, .int 0])), (q1, .inl ((cxw g).2.1 0, M, .inl (fun _ => 0)))]) hG hnm uin0 tyX0 tyX0_ok nmX0 0 rfl rfl 0 (by decide) rfl rfl (by decide +kernel) rfl rfl (Nat.le_of_ble_eq_true rfl) rfl lI_10 dX0_init_12 ?_
  refine bp_aload_n hG 0 rfl dX0_init_15 rfl ?_
  refine bp_iconst (v := 0) hG dX0_init_16 rfl ?_
  refine bp_put (v := .int 0) (ty := .int) (ws' := [(h, .inr (0, [.ref q1, .int 0])), (q1, .inl ((cxw g).2.1 0, M, .inl (fun _ => 0)))]) hG uin0 tyX0 tyX0_ok nmX0 0 rfl rfl 1 (by decide) rfl (by decide +kernel) rfl rfl (Nat.le_of_ble_eq_true rfl) rfl lI_11 dX0_init_17 ?_
  refine hF _ _ _ _ _ (by omega) (by omega) ?_ dX0_init_20
  exact ⟨q1, rfl⟩
set_option maxRecDepth 20000 in
set_option maxHeartbeats 4000000 in
theorem ci_X1 (w : Wc) (pre : va_W) (h : Nat) : CtB w yX1_init cX1_init 1 3 1 1420 [.ref h] (pre ++ [(h, .inr (1, [.null, .int 0, .int 0, .int 0]))]) (fun ws' => ∃ q, ws' = pre ++ [(h, .inr (1, [.ref q, .int 0, .int 0, .int 0])), (q, .inl (w.2.1 0, 1420, .inl (fun _ => 0)))]) := by
  refine CtB_of (pre := pre) (ws := [(h, .inr (1, [.null, .int 0, .int 0, .int 0]))]) (by decide +kernel) (Nat.le_of_ble_eq_true rfl) rfl ?_
  intro g hgw hG hnm hF
  subst hgw
  show BP g 0 [(0, .ref h)] [] pre [(h, .inr (1, [.null, .int 0, .int 0, .int 0]))] 0 0
  refine bp_aload_n hG 0 rfl dX1_init_0 rfl ?_
  refine bp_obj hG lI_12 lI_0 lI_1 (by decide) (Nat.le_of_ble_eq_true rfl) dX1_init_1 ?_
  refine bp_aload_n hG 0 rfl dX1_init_4 rfl ?_
  refine bp_sipush (v := 1420) hG dX1_init_5 rfl ?_
  refine bp_newab (M := 1420) hG lI_2 (by decide) rfl (by decide) (by omega) (by omega) dX1_init_8 (fun q1 => ?_)
  show BP g _ _ _ pre [(h, .inr (1, [.null, .int 0, .int 0, .int 0])), (q1, .inl ((cxw g).2.1 0, 1420, .inl (fun _ => 0)))] _ _
  refine bp_putF (v := .ref q1) (ty := .array .byte) (ws' := [(h, .inr (1, [.ref q1, .int 0, .int 0, .int 0])), (q1, .inl ((cxw g).2.1 0, 1420, .inl (fun _ => 0)))]) hG hnm uin1 tyX1 tyX1_ok nmX1 0 rfl rfl 0 (by decide) rfl rfl (by decide +kernel) rfl rfl (Nat.le_of_ble_eq_true rfl) rfl lI_13 dX1_init_10 ?_
  refine bp_aload_n hG 0 rfl dX1_init_13 rfl ?_
  refine bp_iconst (v := 0) hG dX1_init_14 rfl ?_
  refine bp_put (v := .int 0) (ty := .boolean) (ws' := [(h, .inr (1, [.ref q1, .int 0, .int 0, .int 0])), (q1, .inl ((cxw g).2.1 0, 1420, .inl (fun _ => 0)))]) hG uin1 tyX1 tyX1_ok nmX1 0 rfl rfl 1 (by decide) rfl (by decide +kernel) rfl rfl (Nat.le_of_ble_eq_true rfl) rfl lI_14 dX1_init_15 ?_
  refine bp_aload_n hG 0 rfl dX1_init_18 rfl ?_
  refine bp_iconst (v := 0) hG dX1_init_19 rfl ?_
  refine bp_put (v := .int 0) (ty := .int) (ws' := [(h, .inr (1, [.ref q1, .int 0, .int 0, .int 0])), (q1, .inl ((cxw g).2.1 0, 1420, .inl (fun _ => 0)))]) hG uin1 tyX1 tyX1_ok nmX1 0 rfl rfl 2 (by decide) rfl (by decide +kernel) rfl rfl (Nat.le_of_ble_eq_true rfl) rfl lI_15 dX1_init_20 ?_
  refine bp_aload_n hG 0 rfl dX1_init_23 rfl ?_
  refine bp_iconst (v := 0) hG dX1_init_24 rfl ?_
  refine bp_put (v := .int 0) (ty := .int) (ws' := [(h, .inr (1, [.ref q1, .int 0, .int 0, .int 0])), (q1, .inl ((cxw g).2.1 0, 1420, .inl (fun _ => 0)))]) hG uin1 tyX1 tyX1_ok nmX1 0 rfl rfl 3 (by decide) rfl (by decide +kernel) rfl rfl (Nat.le_of_ble_eq_true rfl) rfl lI_16 dX1_init_25 ?_
  refine hF _ _ _ _ _ (by decide) (by decide) ?_ dX1_init_28
  exact ⟨q1, rfl⟩
set_option maxRecDepth 20000 in
set_option maxHeartbeats 4000000 in
theorem ci_X3 (w : Wc) (pre : va_W) (h : Nat) : CtB w yX3_init cX3_init 1 3 0 0 [.ref h] (pre ++ [(h, .inr (2, [.long 0, .int 0]))]) (fun ws' => ws' = pre ++ [(h, .inr (2, [.long 0, .int 0]))]) := by
  refine CtB_of (pre := pre) (ws := [(h, .inr (2, [.long 0, .int 0]))]) (by decide +kernel) (Nat.le_of_ble_eq_true rfl) rfl ?_
  intro g hgw hG hnm hF
  subst hgw
  show BP g 0 [(0, .ref h)] [] pre [(h, .inr (2, [.long 0, .int 0]))] 0 0
  refine bp_aload_n hG 0 rfl dX3_init_0 rfl ?_
  refine bp_obj hG lI_17 lI_0 lI_1 (by decide) (Nat.le_of_ble_eq_true rfl) dX3_init_1 ?_
  refine bp_aload_n hG 0 rfl dX3_init_4 rfl ?_
  refine bp_lconst (v := 0) hG dX3_init_5 rfl ?_
  refine bp_put (v := .long 0) (ty := .long) (ws' := [(h, .inr (2, [.long 0, .int 0]))]) hG uin3 tyX3 tyX3_ok nmX3 0 rfl rfl 0 (by decide) rfl (by decide +kernel) rfl rfl (Nat.le_of_ble_eq_true rfl) rfl lI_18 dX3_init_6 ?_
  refine bp_aload_n hG 0 rfl dX3_init_9 rfl ?_
  refine bp_iconst (v := 0) hG dX3_init_10 rfl ?_
  refine bp_put (v := .int 0) (ty := .int) (ws' := [(h, .inr (2, [.long 0, .int 0]))]) hG uin3 tyX3 tyX3_ok nmX3 0 rfl rfl 1 (by decide) rfl (by decide +kernel) rfl rfl (Nat.le_of_ble_eq_true rfl) rfl lI_19 dX3_init_11 ?_
  refine hF _ _ _ _ _ (by decide) (by decide) ?_ dX3_init_14
  exact rfl
set_option maxRecDepth 20000 in
set_option maxHeartbeats 4000000 in
theorem ci_X4 (w : Wc) (pre : va_W) (h : Nat) : CtB w yX4_init cX4_init 1 3 1 156 [.ref h] (pre ++ [(h, .inr (3, [.null, .int 0, .int 0, .int 0]))]) (fun ws' => ∃ q, ws' = pre ++ [(h, .inr (3, [.ref q, .int 156, .int (-1), .int 0])), (q, .inl (w.2.1 1, 156, .inl (fun _ => 0)))]) := by
  refine CtB_of (pre := pre) (ws := [(h, .inr (3, [.null, .int 0, .int 0, .int 0]))]) (by decide +kernel) (Nat.le_of_ble_eq_true rfl) rfl ?_
  intro g hgw hG hnm hF
  subst hgw
  show BP g 0 [(0, .ref h)] [] pre [(h, .inr (3, [.null, .int 0, .int 0, .int 0]))] 0 0
  refine bp_aload_n hG 0 rfl dX4_init_0 rfl ?_
  refine bp_obj hG lI_20 lI_0 lI_1 (by decide) (Nat.le_of_ble_eq_true rfl) dX4_init_1 ?_
  refine bp_aload_n hG 0 rfl dX4_init_4 rfl ?_
  refine bp_sipush (v := 156) hG dX4_init_5 rfl ?_
  refine bp_newai (M := 156) hG lI_3 (by decide) rfl (by decide) (by omega) (by omega) dX4_init_8 (fun q1 => ?_)
  show BP g _ _ _ pre [(h, .inr (3, [.null, .int 0, .int 0, .int 0])), (q1, .inl ((cxw g).2.1 1, 156, .inl (fun _ => 0)))] _ _
  refine bp_putF (v := .ref q1) (ty := .array .int) (ws' := [(h, .inr (3, [.ref q1, .int 0, .int 0, .int 0])), (q1, .inl ((cxw g).2.1 1, 156, .inl (fun _ => 0)))]) hG hnm uin4 tyX4 tyX4_ok nmX4 0 rfl rfl 0 (by decide) rfl rfl (by decide +kernel) rfl rfl (Nat.le_of_ble_eq_true rfl) rfl lI_21 dX4_init_10 ?_
  refine bp_aload_n hG 0 rfl dX4_init_13 rfl ?_
  refine bp_sipush (v := 156) hG dX4_init_14 rfl ?_
  refine bp_put (v := .int 156) (ty := .int) (ws' := [(h, .inr (3, [.ref q1, .int 156, .int 0, .int 0])), (q1, .inl ((cxw g).2.1 1, 156, .inl (fun _ => 0)))]) hG uin4 tyX4 tyX4_ok nmX4 0 rfl rfl 1 (by decide) rfl (by decide +kernel) rfl rfl (Nat.le_of_ble_eq_true rfl) rfl lI_22 dX4_init_17 ?_
  refine bp_aload_n hG 0 rfl dX4_init_20 rfl ?_
  refine bp_iconst (v := (-1)) hG dX4_init_21 rfl ?_
  refine bp_put (v := .int (-1)) (ty := .int) (ws' := [(h, .inr (3, [.ref q1, .int 156, .int (-1), .int 0])), (q1, .inl ((cxw g).2.1 1, 156, .inl (fun _ => 0)))]) hG uin4 tyX4 tyX4_ok nmX4 0 rfl rfl 2 (by decide) rfl (by decide +kernel) rfl rfl (Nat.le_of_ble_eq_true rfl) rfl lI_23 dX4_init_22 ?_
  refine bp_aload_n hG 0 rfl dX4_init_25 rfl ?_
  refine bp_iconst (v := 0) hG dX4_init_26 rfl ?_
  refine bp_put (v := .int 0) (ty := .boolean) (ws' := [(h, .inr (3, [.ref q1, .int 156, .int (-1), .int 0])), (q1, .inl ((cxw g).2.1 1, 156, .inl (fun _ => 0)))]) hG uin4 tyX4 tyX4_ok nmX4 0 rfl rfl 3 (by decide) rfl (by decide +kernel) rfl rfl (Nat.le_of_ble_eq_true rfl) rfl lI_24 dX4_init_27 ?_
  refine hF _ _ _ _ _ (by decide) (by decide) ?_ dX4_init_30
  exact ⟨q1, rfl⟩
set_option maxRecDepth 20000 in
set_option maxHeartbeats 4000000 in
theorem ci_X5 (w : Wc) (pre : va_W) (h : Nat) : CtB w yX5_init cX5_init 1 3 0 0 [.ref h] (pre ++ [(h, .inr (4, [.int 0, .int 0, .int 0, .int 0, .int 0, .int 0, .int 0, .int 0]))]) (fun ws' => ws' = pre ++ [(h, .inr (4, [.int 0, .int 0, .int 0, .int 0, .int 0, .int 0, .int 0, .int 0]))]) := by
  refine CtB_of (pre := pre) (ws := [(h, .inr (4, [.int 0, .int 0, .int 0, .int 0, .int 0, .int 0, .int 0, .int 0]))]) (by decide +kernel) (Nat.le_of_ble_eq_true rfl) rfl ?_
  intro g hgw hG hnm hF
  subst hgw
  show BP g 0 [(0, .ref h)] [] pre [(h, .inr (4, [.int 0, .int 0, .int 0, .int 0, .int 0, .int 0, .int 0, .int 0]))] 0 0
  refine bp_aload_n hG 0 rfl dX5_init_0 rfl ?_
  refine bp_obj hG lI_25 lI_0 lI_1 (by decide) (Nat.le_of_ble_eq_true rfl) dX5_init_1 ?_
  refine bp_aload_n hG 0 rfl dX5_init_4 rfl ?_
  refine bp_iconst (v := 0) hG dX5_init_5 rfl ?_
  refine bp_put (v := .int 0) (ty := .int) (ws' := [(h, .inr (4, [.int 0, .int 0, .int 0, .int 0, .int 0, .int 0, .int 0, .int 0]))]) hG uin5 tyX5 tyX5_ok nmX5 0 rfl rfl 0 (by decide) rfl (by decide +kernel) rfl rfl (Nat.le_of_ble_eq_true rfl) rfl lI_26 dX5_init_6 ?_
  refine bp_aload_n hG 0 rfl dX5_init_9 rfl ?_
  refine bp_iconst (v := 0) hG dX5_init_10 rfl ?_
  refine bp_put (v := .int 0) (ty := .boolean) (ws' := [(h, .inr (4, [.int 0, .int 0, .int 0, .int 0, .int 0, .int 0, .int 0, .int 0]))]) hG uin5 tyX5 tyX5_ok nmX5 0 rfl rfl 1 (by decide) rfl (by decide +kernel) rfl rfl (Nat.le_of_ble_eq_true rfl) rfl lI_27 dX5_init_11 ?_
  refine bp_aload_n hG 0 rfl dX5_init_14 rfl ?_
  refine bp_iconst (v := 0) hG dX5_init_15 rfl ?_
  refine bp_put (v := .int 0) (ty := .int) (ws' := [(h, .inr (4, [.int 0, .int 0, .int 0, .int 0, .int 0, .int 0, .int 0, .int 0]))]) hG uin5 tyX5 tyX5_ok nmX5 0 rfl rfl 2 (by decide) rfl (by decide +kernel) rfl rfl (Nat.le_of_ble_eq_true rfl) rfl lI_28 dX5_init_16 ?_
  refine bp_aload_n hG 0 rfl dX5_init_19 rfl ?_
  refine bp_iconst (v := 0) hG dX5_init_20 rfl ?_
  refine bp_put (v := .int 0) (ty := .int) (ws' := [(h, .inr (4, [.int 0, .int 0, .int 0, .int 0, .int 0, .int 0, .int 0, .int 0]))]) hG uin5 tyX5 tyX5_ok nmX5 0 rfl rfl 3 (by decide) rfl (by decide +kernel) rfl rfl (Nat.le_of_ble_eq_true rfl) rfl lI_29 dX5_init_21 ?_
  refine bp_aload_n hG 0 rfl dX5_init_24 rfl ?_
  refine bp_iconst (v := 0) hG dX5_init_25 rfl ?_
  refine bp_put (v := .int 0) (ty := .int) (ws' := [(h, .inr (4, [.int 0, .int 0, .int 0, .int 0, .int 0, .int 0, .int 0, .int 0]))]) hG uin5 tyX5 tyX5_ok nmX5 0 rfl rfl 4 (by decide) rfl (by decide +kernel) rfl rfl (Nat.le_of_ble_eq_true rfl) rfl lI_30 dX5_init_26 ?_
  refine bp_aload_n hG 0 rfl dX5_init_29 rfl ?_
  refine bp_iconst (v := 0) hG dX5_init_30 rfl ?_
  refine bp_put (v := .int 0) (ty := .int) (ws' := [(h, .inr (4, [.int 0, .int 0, .int 0, .int 0, .int 0, .int 0, .int 0, .int 0]))]) hG uin5 tyX5 tyX5_ok nmX5 0 rfl rfl 5 (by decide) rfl (by decide +kernel) rfl rfl (Nat.le_of_ble_eq_true rfl) rfl lI_31 dX5_init_31 ?_
  refine bp_aload_n hG 0 rfl dX5_init_34 rfl ?_
  refine bp_iconst (v := 0) hG dX5_init_35 rfl ?_
  refine bp_put (v := .int 0) (ty := .int) (ws' := [(h, .inr (4, [.int 0, .int 0, .int 0, .int 0, .int 0, .int 0, .int 0, .int 0]))]) hG uin5 tyX5 tyX5_ok nmX5 0 rfl rfl 6 (by decide) rfl (by decide +kernel) rfl rfl (Nat.le_of_ble_eq_true rfl) rfl lI_32 dX5_init_36 ?_
  refine bp_aload_n hG 0 rfl dX5_init_39 rfl ?_
  refine bp_iconst (v := 0) hG dX5_init_40 rfl ?_
  refine bp_put (v := .int 0) (ty := .int) (ws' := [(h, .inr (4, [.int 0, .int 0, .int 0, .int 0, .int 0, .int 0, .int 0, .int 0]))]) hG uin5 tyX5 tyX5_ok nmX5 0 rfl rfl 7 (by decide) rfl (by decide +kernel) rfl rfl (Nat.le_of_ble_eq_true rfl) rfl lI_33 dX5_init_41 ?_
  refine hF _ _ _ _ _ (by decide) (by decide) ?_ dX5_init_44
  exact rfl
set_option maxRecDepth 20000 in
set_option maxHeartbeats 4000000 in
theorem ci_X7 (w : Wc) (pre : va_W) (h : Nat) : CtB w yX7_init cX7_init 1 3 8 8960 [.ref h] (pre ++ [(h, .inr (6, [.int 0, .null, .int 0, .null, .int 0, .null, .int 0, .int 0, .int 0, .long 0, .int 0, .null, .null, .null, .long 0, .int 0, .null, .int 0, .int 0, .null, .int 0, .long 0, .int 0, .int 0, .int 0]))]) (fun ws' => ∃ q1 q2 q3 q4 q5 q6 q7 q8, ws' = pre ++ [(h, .inr (6, [.int 0, .ref q1, .int 0, .ref q2, .int 0, .ref q3, .int 0, .int 0, .int 0, .long 0, .int 0, .ref q4, .ref q5, .ref q6, .long 0, .int 0, .ref q7, .int 0, .int 0, .ref q8, .int 0, .long 0, .int 0, .int 0, .int 0])), (q1, .inl (w.2.1 1, 1600, .inl (fun _ => 0))), (q2, .inl (w.2.1 1, 1600, .inl (fun _ => 0))), (q3, .inl (w.2.1 1, 1600, .inl (fun _ => 0))), (q4, .inl (w.2.1 1, 320, .inl (fun _ => 0))), (q5, .inl (w.2.1 1, 320, .inl (fun _ => 0))), (q6, .inl (w.2.1 1, 320, .inl (fun _ => 0))), (q7, .inl (w.2.1 1, 1600, .inl (fun _ => 0))), (q8, .inl (w.2.1 1, 1600, .inl (fun _ => 0)))]) := by
  refine CtB_of (pre := pre) (ws := [(h, .inr (6, [.int 0, .null, .int 0, .null, .int 0, .null, .int 0, .int 0, .int 0, .long 0, .int 0, .null, .null, .null, .long 0, .int 0, .null, .int 0, .int 0, .null, .int 0, .long 0, .int 0, .int 0, .int 0]))]) (by decide +kernel) (Nat.le_of_ble_eq_true rfl) rfl ?_
  intro g hgw hG hnm hF
  subst hgw
  show BP g 0 [(0, .ref h)] [] pre [(h, .inr (6, [.int 0, .null, .int 0, .null, .int 0, .null, .int 0, .int 0, .int 0, .long 0, .int 0, .null, .null, .null, .long 0, .int 0, .null, .int 0, .int 0, .null, .int 0, .long 0, .int 0, .int 0, .int 0]))] 0 0
  refine bp_aload_n hG 0 rfl dX7_init_0 rfl ?_
  refine bp_obj hG lI_34 lI_0 lI_1 (by decide) (Nat.le_of_ble_eq_true rfl) dX7_init_1 ?_
  refine bp_aload_n hG 0 rfl dX7_init_4 rfl ?_
  refine bp_sipush (v := 1600) hG dX7_init_5 rfl ?_
  refine bp_newai (M := 1600) hG lI_3 (by decide) rfl (by decide) (by omega) (by omega) dX7_init_8 (fun q1 => ?_)
  show BP g _ _ _ pre [(h, .inr (6, [.int 0, .null, .int 0, .null, .int 0, .null, .int 0, .int 0, .int 0, .long 0, .int 0, .null, .null, .null, .long 0, .int 0, .null, .int 0, .int 0, .null, .int 0, .long 0, .int 0, .int 0, .int 0])), (q1, .inl ((cxw g).2.1 1, 1600, .inl (fun _ => 0)))] _ _
  refine bp_putF (v := .ref q1) (ty := .array .int) (ws' := [(h, .inr (6, [.int 0, .ref q1, .int 0, .null, .int 0, .null, .int 0, .int 0, .int 0, .long 0, .int 0, .null, .null, .null, .long 0, .int 0, .null, .int 0, .int 0, .null, .int 0, .long 0, .int 0, .int 0, .int 0])), (q1, .inl ((cxw g).2.1 1, 1600, .inl (fun _ => 0)))]) hG hnm uin7 tyX7 tyX7_ok nmX7 0 rfl rfl 1 (by decide) rfl rfl (by decide +kernel) rfl rfl (Nat.le_of_ble_eq_true rfl) rfl lI_35 dX7_init_10 ?_
  refine bp_aload_n hG 0 rfl dX7_init_13 rfl ?_
  refine bp_sipush (v := 1600) hG dX7_init_14 rfl ?_
  refine bp_newai (M := 1600) hG lI_3 (by decide) rfl (by decide) (by omega) (by omega) dX7_init_17 (fun q2 => ?_)
  show BP g _ _ _ pre [(h, .inr (6, [.int 0, .ref q1, .int 0, .null, .int 0, .null, .int 0, .int 0, .int 0, .long 0, .int 0, .null, .null, .null, .long 0, .int 0, .null, .int 0, .int 0, .null, .int 0, .long 0, .int 0, .int 0, .int 0])), (q1, .inl ((cxw g).2.1 1, 1600, .inl (fun _ => 0))), (q2, .inl ((cxw g).2.1 1, 1600, .inl (fun _ => 0)))] _ _
  refine bp_putF (v := .ref q2) (ty := .array .int) (ws' := [(h, .inr (6, [.int 0, .ref q1, .int 0, .ref q2, .int 0, .null, .int 0, .int 0, .int 0, .long 0, .int 0, .null, .null, .null, .long 0, .int 0, .null, .int 0, .int 0, .null, .int 0, .long 0, .int 0, .int 0, .int 0])), (q1, .inl ((cxw g).2.1 1, 1600, .inl (fun _ => 0))), (q2, .inl ((cxw g).2.1 1, 1600, .inl (fun _ => 0)))]) hG hnm uin7 tyX7 tyX7_ok nmX7 0 rfl rfl 3 (by decide) rfl rfl (by decide +kernel) rfl rfl (Nat.le_of_ble_eq_true rfl) rfl lI_36 dX7_init_19 ?_
  refine bp_aload_n hG 0 rfl dX7_init_22 rfl ?_
  refine bp_sipush (v := 1600) hG dX7_init_23 rfl ?_
  refine bp_newai (M := 1600) hG lI_3 (by decide) rfl (by decide) (by omega) (by omega) dX7_init_26 (fun q3 => ?_)
  show BP g _ _ _ pre [(h, .inr (6, [.int 0, .ref q1, .int 0, .ref q2, .int 0, .null, .int 0, .int 0, .int 0, .long 0, .int 0, .null, .null, .null, .long 0, .int 0, .null, .int 0, .int 0, .null, .int 0, .long 0, .int 0, .int 0, .int 0])), (q1, .inl ((cxw g).2.1 1, 1600, .inl (fun _ => 0))), (q2, .inl ((cxw g).2.1 1, 1600, .inl (fun _ => 0))), (q3, .inl ((cxw g).2.1 1, 1600, .inl (fun _ => 0)))] _ _
  refine bp_putF (v := .ref q3) (ty := .array .int) (ws' := [(h, .inr (6, [.int 0, .ref q1, .int 0, .ref q2, .int 0, .ref q3, .int 0, .int 0, .int 0, .long 0, .int 0, .null, .null, .null, .long 0, .int 0, .null, .int 0, .int 0, .null, .int 0, .long 0, .int 0, .int 0, .int 0])), (q1, .inl ((cxw g).2.1 1, 1600, .inl (fun _ => 0))), (q2, .inl ((cxw g).2.1 1, 1600, .inl (fun _ => 0))), (q3, .inl ((cxw g).2.1 1, 1600, .inl (fun _ => 0)))]) hG hnm uin7 tyX7 tyX7_ok nmX7 0 rfl rfl 5 (by decide) rfl rfl (by decide +kernel) rfl rfl (Nat.le_of_ble_eq_true rfl) rfl lI_37 dX7_init_28 ?_
  refine bp_aload_n hG 0 rfl dX7_init_31 rfl ?_
  refine bp_sipush (v := 320) hG dX7_init_32 rfl ?_
  refine bp_newai (M := 320) hG lI_3 (by decide) rfl (by decide) (by omega) (by omega) dX7_init_35 (fun q4 => ?_)
  show BP g _ _ _ pre [(h, .inr (6, [.int 0, .ref q1, .int 0, .ref q2, .int 0, .ref q3, .int 0, .int 0, .int 0, .long 0, .int 0, .null, .null, .null, .long 0, .int 0, .null, .int 0, .int 0, .null, .int 0, .long 0, .int 0, .int 0, .int 0])), (q1, .inl ((cxw g).2.1 1, 1600, .inl (fun _ => 0))), (q2, .inl ((cxw g).2.1 1, 1600, .inl (fun _ => 0))), (q3, .inl ((cxw g).2.1 1, 1600, .inl (fun _ => 0))), (q4, .inl ((cxw g).2.1 1, 320, .inl (fun _ => 0)))] _ _
  refine bp_putF (v := .ref q4) (ty := .array .int) (ws' := [(h, .inr (6, [.int 0, .ref q1, .int 0, .ref q2, .int 0, .ref q3, .int 0, .int 0, .int 0, .long 0, .int 0, .ref q4, .null, .null, .long 0, .int 0, .null, .int 0, .int 0, .null, .int 0, .long 0, .int 0, .int 0, .int 0])), (q1, .inl ((cxw g).2.1 1, 1600, .inl (fun _ => 0))), (q2, .inl ((cxw g).2.1 1, 1600, .inl (fun _ => 0))), (q3, .inl ((cxw g).2.1 1, 1600, .inl (fun _ => 0))), (q4, .inl ((cxw g).2.1 1, 320, .inl (fun _ => 0)))]) hG hnm uin7 tyX7 tyX7_ok nmX7 0 rfl rfl 11 (by decide) rfl rfl (by decide +kernel) rfl rfl (Nat.le_of_ble_eq_true rfl) rfl lI_38 dX7_init_37 ?_
  refine bp_aload_n hG 0 rfl dX7_init_40 rfl ?_
  refine bp_sipush (v := 320) hG dX7_init_41 rfl ?_
  refine bp_newai (M := 320) hG lI_3 (by decide) rfl (by decide) (by omega) (by omega) dX7_init_44 (fun q5 => ?_)
  show BP g _ _ _ pre [(h, .inr (6, [.int 0, .ref q1, .int 0, .ref q2, .int 0, .ref q3, .int 0, .int 0, .int 0, .long 0, .int 0, .ref q4, .null, .null, .long 0, .int 0, .null, .int 0, .int 0, .null, .int 0, .long 0, .int 0, .int 0, .int 0])), (q1, .inl ((cxw g).2.1 1, 1600, .inl (fun _ => 0))), (q2, .inl ((cxw g).2.1 1, 1600, .inl (fun _ => 0))), (q3, .inl ((cxw g).2.1 1, 1600, .inl (fun _ => 0))), (q4, .inl ((cxw g).2.1 1, 320, .inl (fun _ => 0))), (q5, .inl ((cxw g).2.1 1, 320, .inl (fun _ => 0)))] _ _
  refine bp_putF (v := .ref q5) (ty := .array .int) (ws' := [(h, .inr (6, [.int 0, .ref q1, .int 0, .ref q2, .int 0, .ref q3, .int 0, .int 0, .int 0, .long 0, .int 0, .ref q4, .ref q5, .null, .long 0, .int 0, .null, .int 0, .int 0, .null, .int 0, .long 0, .int 0, .int 0, .int 0])), (q1, .inl ((cxw g).2.1 1, 1600, .inl (fun _ => 0))), (q2, .inl ((cxw g).2.1 1, 1600, .inl (fun _ => 0))), (q3, .inl ((cxw g).2.1 1, 1600, .inl (fun _ => 0))), (q4, .inl ((cxw g).2.1 1, 320, .inl (fun _ => 0))), (q5, .inl ((cxw g).2.1 1, 320, .inl (fun _ => 0)))]) hG hnm uin7 tyX7 tyX7_ok nmX7 0 rfl rfl 12 (by decide) rfl rfl (by decide +kernel) rfl rfl (Nat.le_of_ble_eq_true rfl) rfl lI_39 dX7_init_46 ?_
  refine bp_aload_n hG 0 rfl dX7_init_49 rfl ?_
  refine bp_sipush (v := 320) hG dX7_init_50 rfl ?_
  refine bp_newai (M := 320) hG lI_3 (by decide) rfl (by decide) (by omega) (by omega) dX7_init_53 (fun q6 => ?_)
  show BP g _ _ _ pre [(h, .inr (6, [.int 0, .ref q1, .int 0, .ref q2, .int 0, .ref q3, .int 0, .int 0, .int 0, .long 0, .int 0, .ref q4, .ref q5, .null, .long 0, .int 0, .null, .int 0, .int 0, .null, .int 0, .long 0, .int 0, .int 0, .int 0])), (q1, .inl ((cxw g).2.1 1, 1600, .inl (fun _ => 0))), (q2, .inl ((cxw g).2.1 1, 1600, .inl (fun _ => 0))), (q3, .inl ((cxw g).2.1 1, 1600, .inl (fun _ => 0))), (q4, .inl ((cxw g).2.1 1, 320, .inl (fun _ => 0))), (q5, .inl ((cxw g).2.1 1, 320, .inl (fun _ => 0))), (q6, .inl ((cxw g).2.1 1, 320, .inl (fun _ => 0)))] _ _
  refine bp_putF (v := .ref q6) (ty := .array .int) (ws' := [(h, .inr (6, [.int 0, .ref q1, .int 0, .ref q2, .int 0, .ref q3, .int 0, .int 0, .int 0, .long 0, .int 0, .ref q4, .ref q5, .ref q6, .long 0, .int 0, .null, .int 0, .int 0, .null, .int 0, .long 0, .int 0, .int 0, .int 0])), (q1, .inl ((cxw g).2.1 1, 1600, .inl (fun _ => 0))), (q2, .inl ((cxw g).2.1 1, 1600, .inl (fun _ => 0))), (q3, .inl ((cxw g).2.1 1, 1600, .inl (fun _ => 0))), (q4, .inl ((cxw g).2.1 1, 320, .inl (fun _ => 0))), (q5, .inl ((cxw g).2.1 1, 320, .inl (fun _ => 0))), (q6, .inl ((cxw g).2.1 1, 320, .inl (fun _ => 0)))]) hG hnm uin7 tyX7 tyX7_ok nmX7 0 rfl rfl 13 (by decide) rfl rfl (by decide +kernel) rfl rfl (Nat.le_of_ble_eq_true rfl) rfl lI_40 dX7_init_55 ?_
  refine bp_aload_n hG 0 rfl dX7_init_58 rfl ?_
  refine bp_sipush (v := 1600) hG dX7_init_59 rfl ?_
  refine bp_newai (M := 1600) hG lI_3 (by decide) rfl (by decide) (by omega) (by omega) dX7_init_62 (fun q7 => ?_)
  show BP g _ _ _ pre [(h, .inr (6, [.int 0, .ref q1, .int 0, .ref q2, .int 0, .ref q3, .int 0, .int 0, .int 0, .long 0, .int 0, .ref q4, .ref q5, .ref q6, .long 0, .int 0, .null, .int 0, .int 0, .null, .int 0, .long 0, .int 0, .int 0, .int 0])), (q1, .inl ((cxw g).2.1 1, 1600, .inl (fun _ => 0))), (q2, .inl ((cxw g).2.1 1, 1600, .inl (fun _ => 0))), (q3, .inl ((cxw g).2.1 1, 1600, .inl (fun _ => 0))), (q4, .inl ((cxw g).2.1 1, 320, .inl (fun _ => 0))), (q5, .inl ((cxw g).2.1 1, 320, .inl (fun _ => 0))), (q6, .inl ((cxw g).2.1 1, 320, .inl (fun _ => 0))), (q7, .inl ((cxw g).2.1 1, 1600, .inl (fun _ => 0)))] _ _
  refine bp_putF (v := .ref q7) (ty := .array .int) (ws' := [(h, .inr (6, [.int 0, .ref q1, .int 0, .ref q2, .int 0, .ref q3, .int 0, .int 0, .int 0, .long 0, .int 0, .ref q4, .ref q5, .ref q6, .long 0, .int 0, .ref q7, .int 0, .int 0, .null, .int 0, .long 0, .int 0, .int 0, .int 0])), (q1, .inl ((cxw g).2.1 1, 1600, .inl (fun _ => 0))), (q2, .inl ((cxw g).2.1 1, 1600, .inl (fun _ => 0))), (q3, .inl ((cxw g).2.1 1, 1600, .inl (fun _ => 0))), (q4, .inl ((cxw g).2.1 1, 320, .inl (fun _ => 0))), (q5, .inl ((cxw g).2.1 1, 320, .inl (fun _ => 0))), (q6, .inl ((cxw g).2.1 1, 320, .inl (fun _ => 0))), (q7, .inl ((cxw g).2.1 1, 1600, .inl (fun _ => 0)))]) hG hnm uin7 tyX7 tyX7_ok nmX7 0 rfl rfl 16 (by decide) rfl rfl (by decide +kernel) rfl rfl (Nat.le_of_ble_eq_true rfl) rfl lI_41 dX7_init_64 ?_
  refine bp_aload_n hG 0 rfl dX7_init_67 rfl ?_
  refine bp_sipush (v := 1600) hG dX7_init_68 rfl ?_
  refine bp_newai (M := 1600) hG lI_3 (by decide) rfl (by decide) (by omega) (by omega) dX7_init_71 (fun q8 => ?_)
  show BP g _ _ _ pre [(h, .inr (6, [.int 0, .ref q1, .int 0, .ref q2, .int 0, .ref q3, .int 0, .int 0, .int 0, .long 0, .int 0, .ref q4, .ref q5, .ref q6, .long 0, .int 0, .ref q7, .int 0, .int 0, .null, .int 0, .long 0, .int 0, .int 0, .int 0])), (q1, .inl ((cxw g).2.1 1, 1600, .inl (fun _ => 0))), (q2, .inl ((cxw g).2.1 1, 1600, .inl (fun _ => 0))), (q3, .inl ((cxw g).2.1 1, 1600, .inl (fun _ => 0))), (q4, .inl ((cxw g).2.1 1, 320, .inl (fun _ => 0))), (q5, .inl ((cxw g).2.1 1, 320, .inl (fun _ => 0))), (q6, .inl ((cxw g).2.1 1, 320, .inl (fun _ => 0))), (q7, .inl ((cxw g).2.1 1, 1600, .inl (fun _ => 0))), (q8, .inl ((cxw g).2.1 1, 1600, .inl (fun _ => 0)))] _ _
  refine bp_putF (v := .ref q8) (ty := .array .int) (ws' := [(h, .inr (6, [.int 0, .ref q1, .int 0, .ref q2, .int 0, .ref q3, .int 0, .int 0, .int 0, .long 0, .int 0, .ref q4, .ref q5, .ref q6, .long 0, .int 0, .ref q7, .int 0, .int 0, .ref q8, .int 0, .long 0, .int 0, .int 0, .int 0])), (q1, .inl ((cxw g).2.1 1, 1600, .inl (fun _ => 0))), (q2, .inl ((cxw g).2.1 1, 1600, .inl (fun _ => 0))), (q3, .inl ((cxw g).2.1 1, 1600, .inl (fun _ => 0))), (q4, .inl ((cxw g).2.1 1, 320, .inl (fun _ => 0))), (q5, .inl ((cxw g).2.1 1, 320, .inl (fun _ => 0))), (q6, .inl ((cxw g).2.1 1, 320, .inl (fun _ => 0))), (q7, .inl ((cxw g).2.1 1, 1600, .inl (fun _ => 0))), (q8, .inl ((cxw g).2.1 1, 1600, .inl (fun _ => 0)))]) hG hnm uin7 tyX7 tyX7_ok nmX7 0 rfl rfl 19 (by decide) rfl rfl (by decide +kernel) rfl rfl (Nat.le_of_ble_eq_true rfl) rfl lI_42 dX7_init_73 ?_
  refine hF _ _ _ _ _ (by decide) (by decide) ?_ dX7_init_76
  exact ⟨q1, q2, q3, q4, q5, q6, q7, q8, rfl⟩
set_option maxRecDepth 20000 in
set_option maxHeartbeats 4000000 in
theorem ci_X6 (w : Wc) (pre : va_W) (h : Nat) : CtB w yX6_init cX6_init 1 4 16 5278 [.ref h] (pre ++ [(h, .inr (5, [.null, .null, .null, .null, .null, .null, .null, .null, .null, .long 0, .int 0]))]) (fun ws' => ∃ o1 q2 o3 q4 o5 q6 o7 o8 o9 q10 o11 q12 o13 q14 o15 q16, ws' = pre ++ [(h, .inr (5, [.ref o1, .ref o3, .ref o5, .ref o7, .ref o8, .ref o9, .ref o11, .ref o13, .ref o15, .long 0, .int 0])), (o1, .inr (0, [.ref q2, .int 0])), (q2, .inl (w.2.1 0, 1600, .inl (fun _ => 0))), (o3, .inr (0, [.ref q4, .int 0])), (q4, .inl (w.2.1 0, 1500, .inl (fun _ => 0))), (o5, .inr (1, [.ref q6, .int 0, .int 0, .int 0])), (q6, .inl (w.2.1 0, 1420, .inl (fun _ => 0))), (o7, .inr (4, [.int 0, .int 0, .int 0, .int 0, .int 0, .int 0, .int 0, .int 0])), (o8, .inr (2, [.long 0, .int 0])), (o9, .inr (3, [.ref q10, .int 156, .int (-1), .int 0])), (q10, .inl (w.2.1 1, 156, .inl (fun _ => 0))), (o11, .inr (3, [.ref q12, .int 156, .int (-1), .int 0])), (q12, .inl (w.2.1 1, 156, .inl (fun _ => 0))), (o13, .inr (3, [.ref q14, .int 156, .int (-1), .int 0])), (q14, .inl (w.2.1 1, 156, .inl (fun _ => 0))), (o15, .inr (3, [.ref q16, .int 156, .int (-1), .int 0])), (q16, .inl (w.2.1 1, 156, .inl (fun _ => 0)))]) := by
  refine CtB_of (pre := pre) (ws := [(h, .inr (5, [.null, .null, .null, .null, .null, .null, .null, .null, .null, .long 0, .int 0]))]) (by decide +kernel) (Nat.le_of_ble_eq_true rfl) rfl ?_
  intro g hgw hG hnm hF
  subst hgw
  show BP g 0 [(0, .ref h)] [] pre [(h, .inr (5, [.null, .null, .null, .null, .null, .null, .null, .null, .null, .long 0, .int 0]))] 0 0
  refine bp_aload_n hG 0 rfl dX6_init_0 rfl ?_
  refine bp_obj hG lI_43 lI_0 lI_1 (by decide) (Nat.le_of_ble_eq_true rfl) dX6_init_1 ?_
  refine bp_aload_n hG 0 rfl dX6_init_4 rfl ?_
  refine bp_new (ci := 0) (fs := [.null, .int 0]) (C := RX0) (T := TX0) (M := 2) hG uin0 tyX0 tyX0_ok lI_44 lI_45 lI_46 rfl (fun j hj => by rcases (show j = 0 ∨ j = 1 by omega) with rfl | rfl <;> rfl) (by omega) (by omega) dX6_init_5 (fun o1 => ?_)
  show BP g _ _ _ pre [(h, .inr (5, [.null, .null, .null, .null, .null, .null, .null, .null, .null, .long 0, .int 0])), (o1, .inr (0, [.null, .int 0]))] _ _
  refine bp_dup hG dX6_init_8 rfl ?_
  refine bp_sipush (v := 1600) hG dX6_init_9 rfl ?_
  refine bp_init (As := [.int 1600]) (pre0 := pre ++ [(h, .inr (5, [.null, .null, .null, .null, .null, .null, .null, .null, .null, .long 0, .int 0]))]) (ws0 := [(o1, .inr (0, [.null, .int 0]))]) hG (ci_X0 (cxw g) (pre ++ [(h, .inr (5, [.null, .null, .null, .null, .null, .null, .null, .null, .null, .long 0, .int 0]))]) o1 1600 1600 (by decide) rfl (by decide)) (by rw [List.append_assoc]; rfl) lI_47 lI_48 lI_49 lI_50 rfl (by decide +kernel) (by decide) rfl rfl (by decide) (by decide) (by decide) (Nat.le_of_ble_eq_true rfl) dX6_init_12 (fun ws2 hw2 => ?_) (fun w2 hw2 => ?_)
  rotate_left
  · obtain ⟨q, rfl⟩ := hw2
    exact ⟨_, List.append_assoc _ _ _⟩
  obtain ⟨q2, hw2⟩ := hw2
  rw [List.append_assoc] at hw2
  obtain rfl := List.append_cancel_left hw2
  show BP g _ _ _ pre [(h, .inr (5, [.null, .null, .null, .null, .null, .null, .null, .null, .null, .long 0, .int 0])), (o1, .inr (0, [.ref q2, .int 0])), (q2, .inl ((cxw g).2.1 0, 1600, .inl (fun _ => 0)))] _ _
  refine bp_putF (v := .ref o1) (ty := .object "FloatTexts$ByteRow") (ws' := [(h, .inr (5, [.ref o1, .null, .null, .null, .null, .null, .null, .null, .null, .long 0, .int 0])), (o1, .inr (0, [.ref q2, .int 0])), (q2, .inl ((cxw g).2.1 0, 1600, .inl (fun _ => 0)))]) hG hnm uin6 tyX6 tyX6_ok nmX6 0 rfl rfl 0 (by decide) rfl rfl (by decide +kernel) rfl rfl (Nat.le_of_ble_eq_true rfl) rfl lI_51 dX6_init_15 ?_
  refine bp_aload_n hG 0 rfl dX6_init_18 rfl ?_
  refine bp_new (ci := 0) (fs := [.null, .int 0]) (C := RX0) (T := TX0) (M := 2) hG uin0 tyX0 tyX0_ok lI_44 lI_45 lI_46 rfl (fun j hj => by rcases (show j = 0 ∨ j = 1 by omega) with rfl | rfl <;> rfl) (by omega) (by omega) dX6_init_19 (fun o3 => ?_)
  show BP g _ _ _ pre [(h, .inr (5, [.ref o1, .null, .null, .null, .null, .null, .null, .null, .null, .long 0, .int 0])), (o1, .inr (0, [.ref q2, .int 0])), (q2, .inl ((cxw g).2.1 0, 1600, .inl (fun _ => 0))), (o3, .inr (0, [.null, .int 0]))] _ _
  refine bp_dup hG dX6_init_22 rfl ?_
  refine bp_sipush (v := 1500) hG dX6_init_23 rfl ?_
  refine bp_init (As := [.int 1500]) (pre0 := pre ++ [(h, .inr (5, [.ref o1, .null, .null, .null, .null, .null, .null, .null, .null, .long 0, .int 0])), (o1, .inr (0, [.ref q2, .int 0])), (q2, .inl ((cxw g).2.1 0, 1600, .inl (fun _ => 0)))]) (ws0 := [(o3, .inr (0, [.null, .int 0]))]) hG (ci_X0 (cxw g) (pre ++ [(h, .inr (5, [.ref o1, .null, .null, .null, .null, .null, .null, .null, .null, .long 0, .int 0])), (o1, .inr (0, [.ref q2, .int 0])), (q2, .inl ((cxw g).2.1 0, 1600, .inl (fun _ => 0)))]) o3 1500 1500 (by decide) rfl (by decide)) (by rw [List.append_assoc]; rfl) lI_47 lI_48 lI_49 lI_50 rfl (by decide +kernel) (by decide) rfl rfl (by decide) (by decide) (by decide) (Nat.le_of_ble_eq_true rfl) dX6_init_26 (fun ws2 hw2 => ?_) (fun w2 hw2 => ?_)
  rotate_left
  · obtain ⟨q, rfl⟩ := hw2
    exact ⟨_, List.append_assoc _ _ _⟩
  obtain ⟨q4, hw2⟩ := hw2
  rw [List.append_assoc] at hw2
  obtain rfl := List.append_cancel_left hw2
  show BP g _ _ _ pre [(h, .inr (5, [.ref o1, .null, .null, .null, .null, .null, .null, .null, .null, .long 0, .int 0])), (o1, .inr (0, [.ref q2, .int 0])), (q2, .inl ((cxw g).2.1 0, 1600, .inl (fun _ => 0))), (o3, .inr (0, [.ref q4, .int 0])), (q4, .inl ((cxw g).2.1 0, 1500, .inl (fun _ => 0)))] _ _
  refine bp_putF (v := .ref o3) (ty := .object "FloatTexts$ByteRow") (ws' := [(h, .inr (5, [.ref o1, .ref o3, .null, .null, .null, .null, .null, .null, .null, .long 0, .int 0])), (o1, .inr (0, [.ref q2, .int 0])), (q2, .inl ((cxw g).2.1 0, 1600, .inl (fun _ => 0))), (o3, .inr (0, [.ref q4, .int 0])), (q4, .inl ((cxw g).2.1 0, 1500, .inl (fun _ => 0)))]) hG hnm uin6 tyX6 tyX6_ok nmX6 0 rfl rfl 1 (by decide) rfl rfl (by decide +kernel) rfl rfl (Nat.le_of_ble_eq_true rfl) rfl lI_52 dX6_init_29 ?_
  refine bp_aload_n hG 0 rfl dX6_init_32 rfl ?_
  refine bp_new (ci := 1) (fs := [.null, .int 0, .int 0, .int 0]) (C := RX1) (T := TX1) (M := 4) hG uin1 tyX1 tyX1_ok lI_53 lI_54 lI_55 rfl (fun j hj => by rcases (show j = 0 ∨ j = 1 ∨ j = 2 ∨ j = 3 by omega) with rfl | rfl | rfl | rfl <;> rfl) (by omega) (by omega) dX6_init_33 (fun o5 => ?_)
  show BP g _ _ _ pre [(h, .inr (5, [.ref o1, .ref o3, .null, .null, .null, .null, .null, .null, .null, .long 0, .int 0])), (o1, .inr (0, [.ref q2, .int 0])), (q2, .inl ((cxw g).2.1 0, 1600, .inl (fun _ => 0))), (o3, .inr (0, [.ref q4, .int 0])), (q4, .inl ((cxw g).2.1 0, 1500, .inl (fun _ => 0))), (o5, .inr (1, [.null, .int 0, .int 0, .int 0]))] _ _
  refine bp_dup hG dX6_init_36 rfl ?_
  refine bp_init (As := []) (pre0 := pre ++ [(h, .inr (5, [.ref o1, .ref o3, .null, .null, .null, .null, .null, .null, .null, .long 0, .int 0])), (o1, .inr (0, [.ref q2, .int 0])), (q2, .inl ((cxw g).2.1 0, 1600, .inl (fun _ => 0))), (o3, .inr (0, [.ref q4, .int 0])), (q4, .inl ((cxw g).2.1 0, 1500, .inl (fun _ => 0)))]) (ws0 := [(o5, .inr (1, [.null, .int 0, .int 0, .int 0]))]) hG (ci_X1 (cxw g) (pre ++ [(h, .inr (5, [.ref o1, .ref o3, .null, .null, .null, .null, .null, .null, .null, .long 0, .int 0])), (o1, .inr (0, [.ref q2, .int 0])), (q2, .inl ((cxw g).2.1 0, 1600, .inl (fun _ => 0))), (o3, .inr (0, [.ref q4, .int 0])), (q4, .inl ((cxw g).2.1 0, 1500, .inl (fun _ => 0)))]) o5) (by rw [List.append_assoc]; rfl) lI_56 lI_57 lI_58 lI_59 rfl (by decide +kernel) (by decide) rfl rfl (by decide) (by decide) (by decide) (Nat.le_of_ble_eq_true rfl) dX6_init_37 (fun ws2 hw2 => ?_) (fun w2 hw2 => ?_)
  rotate_left
  · obtain ⟨q, rfl⟩ := hw2
    exact ⟨_, List.append_assoc _ _ _⟩
  obtain ⟨q6, hw2⟩ := hw2
  rw [List.append_assoc] at hw2
  obtain rfl := List.append_cancel_left hw2
  show BP g _ _ _ pre [(h, .inr (5, [.ref o1, .ref o3, .null, .null, .null, .null, .null, .null, .null, .long 0, .int 0])), (o1, .inr (0, [.ref q2, .int 0])), (q2, .inl ((cxw g).2.1 0, 1600, .inl (fun _ => 0))), (o3, .inr (0, [.ref q4, .int 0])), (q4, .inl ((cxw g).2.1 0, 1500, .inl (fun _ => 0))), (o5, .inr (1, [.ref q6, .int 0, .int 0, .int 0])), (q6, .inl ((cxw g).2.1 0, 1420, .inl (fun _ => 0)))] _ _
  refine bp_putF (v := .ref o5) (ty := .object "FloatTexts$Decimal") (ws' := [(h, .inr (5, [.ref o1, .ref o3, .ref o5, .null, .null, .null, .null, .null, .null, .long 0, .int 0])), (o1, .inr (0, [.ref q2, .int 0])), (q2, .inl ((cxw g).2.1 0, 1600, .inl (fun _ => 0))), (o3, .inr (0, [.ref q4, .int 0])), (q4, .inl ((cxw g).2.1 0, 1500, .inl (fun _ => 0))), (o5, .inr (1, [.ref q6, .int 0, .int 0, .int 0])), (q6, .inl ((cxw g).2.1 0, 1420, .inl (fun _ => 0)))]) hG hnm uin6 tyX6 tyX6_ok nmX6 0 rfl rfl 2 (by decide) rfl rfl (by decide +kernel) rfl rfl (Nat.le_of_ble_eq_true rfl) rfl lI_60 dX6_init_40 ?_
  refine bp_aload_n hG 0 rfl dX6_init_43 rfl ?_
  refine bp_new (ci := 4) (fs := [.int 0, .int 0, .int 0, .int 0, .int 0, .int 0, .int 0, .int 0]) (C := RX5) (T := TX5) (M := 8) hG uin5 tyX5 tyX5_ok lI_61 lI_62 lI_63 rfl (fun j hj => by rcases (show j = 0 ∨ j = 1 ∨ j = 2 ∨ j = 3 ∨ j = 4 ∨ j = 5 ∨ j = 6 ∨ j = 7 by omega) with rfl | rfl | rfl | rfl | rfl | rfl | rfl | rfl <;> rfl) (by omega) (by omega) dX6_init_44 (fun o7 => ?_)
  show BP g _ _ _ pre [(h, .inr (5, [.ref o1, .ref o3, .ref o5, .null, .null, .null, .null, .null, .null, .long 0, .int 0])), (o1, .inr (0, [.ref q2, .int 0])), (q2, .inl ((cxw g).2.1 0, 1600, .inl (fun _ => 0))), (o3, .inr (0, [.ref q4, .int 0])), (q4, .inl ((cxw g).2.1 0, 1500, .inl (fun _ => 0))), (o5, .inr (1, [.ref q6, .int 0, .int 0, .int 0])), (q6, .inl ((cxw g).2.1 0, 1420, .inl (fun _ => 0))), (o7, .inr (4, [.int 0, .int 0, .int 0, .int 0, .int 0, .int 0, .int 0, .int 0]))] _ _
  refine bp_dup hG dX6_init_47 rfl ?_
  refine bp_init (As := []) (pre0 := pre ++ [(h, .inr (5, [.ref o1, .ref o3, .ref o5, .null, .null, .null, .null, .null, .null, .long 0, .int 0])), (o1, .inr (0, [.ref q2, .int 0])), (q2, .inl ((cxw g).2.1 0, 1600, .inl (fun _ => 0))), (o3, .inr (0, [.ref q4, .int 0])), (q4, .inl ((cxw g).2.1 0, 1500, .inl (fun _ => 0))), (o5, .inr (1, [.ref q6, .int 0, .int 0, .int 0])), (q6, .inl ((cxw g).2.1 0, 1420, .inl (fun _ => 0)))]) (ws0 := [(o7, .inr (4, [.int 0, .int 0, .int 0, .int 0, .int 0, .int 0, .int 0, .int 0]))]) hG (ci_X5 (cxw g) (pre ++ [(h, .inr (5, [.ref o1, .ref o3, .ref o5, .null, .null, .null, .null, .null, .null, .long 0, .int 0])), (o1, .inr (0, [.ref q2, .int 0])), (q2, .inl ((cxw g).2.1 0, 1600, .inl (fun _ => 0))), (o3, .inr (0, [.ref q4, .int 0])), (q4, .inl ((cxw g).2.1 0, 1500, .inl (fun _ => 0))), (o5, .inr (1, [.ref q6, .int 0, .int 0, .int 0])), (q6, .inl ((cxw g).2.1 0, 1420, .inl (fun _ => 0)))]) o7) (by rw [List.append_assoc]; rfl) lI_64 lI_65 lI_66 lI_67 rfl (by decide +kernel) (by decide) rfl rfl (by decide) (by decide) (by decide) (Nat.le_of_ble_eq_true rfl) dX6_init_48 (fun ws2 hw2 => ?_) (fun w2 hw2 => ?_)
  rotate_left
  · obtain rfl := hw2
    exact ⟨_, List.append_assoc _ _ _⟩
  rw [List.append_assoc] at hw2
  obtain rfl := List.append_cancel_left hw2
  show BP g _ _ _ pre [(h, .inr (5, [.ref o1, .ref o3, .ref o5, .null, .null, .null, .null, .null, .null, .long 0, .int 0])), (o1, .inr (0, [.ref q2, .int 0])), (q2, .inl ((cxw g).2.1 0, 1600, .inl (fun _ => 0))), (o3, .inr (0, [.ref q4, .int 0])), (q4, .inl ((cxw g).2.1 0, 1500, .inl (fun _ => 0))), (o5, .inr (1, [.ref q6, .int 0, .int 0, .int 0])), (q6, .inl ((cxw g).2.1 0, 1420, .inl (fun _ => 0))), (o7, .inr (4, [.int 0, .int 0, .int 0, .int 0, .int 0, .int 0, .int 0, .int 0]))] _ _
  refine bp_putF (v := .ref o7) (ty := .object "FloatTexts$Scan") (ws' := [(h, .inr (5, [.ref o1, .ref o3, .ref o5, .ref o7, .null, .null, .null, .null, .null, .long 0, .int 0])), (o1, .inr (0, [.ref q2, .int 0])), (q2, .inl ((cxw g).2.1 0, 1600, .inl (fun _ => 0))), (o3, .inr (0, [.ref q4, .int 0])), (q4, .inl ((cxw g).2.1 0, 1500, .inl (fun _ => 0))), (o5, .inr (1, [.ref q6, .int 0, .int 0, .int 0])), (q6, .inl ((cxw g).2.1 0, 1420, .inl (fun _ => 0))), (o7, .inr (4, [.int 0, .int 0, .int 0, .int 0, .int 0, .int 0, .int 0, .int 0]))]) hG hnm uin6 tyX6 tyX6_ok nmX6 0 rfl rfl 3 (by decide) rfl rfl (by decide +kernel) rfl rfl (Nat.le_of_ble_eq_true rfl) rfl lI_68 dX6_init_51 ?_
  refine bp_aload_n hG 0 rfl dX6_init_54 rfl ?_
  refine bp_new (ci := 2) (fs := [.long 0, .int 0]) (C := RX3) (T := TX3) (M := 2) hG uin3 tyX3 tyX3_ok lI_69 lI_70 lI_71 rfl (fun j hj => by rcases (show j = 0 ∨ j = 1 by omega) with rfl | rfl <;> rfl) (by omega) (by omega) dX6_init_55 (fun o8 => ?_)
  show BP g _ _ _ pre [(h, .inr (5, [.ref o1, .ref o3, .ref o5, .ref o7, .null, .null, .null, .null, .null, .long 0, .int 0])), (o1, .inr (0, [.ref q2, .int 0])), (q2, .inl ((cxw g).2.1 0, 1600, .inl (fun _ => 0))), (o3, .inr (0, [.ref q4, .int 0])), (q4, .inl ((cxw g).2.1 0, 1500, .inl (fun _ => 0))), (o5, .inr (1, [.ref q6, .int 0, .int 0, .int 0])), (q6, .inl ((cxw g).2.1 0, 1420, .inl (fun _ => 0))), (o7, .inr (4, [.int 0, .int 0, .int 0, .int 0, .int 0, .int 0, .int 0, .int 0])), (o8, .inr (2, [.long 0, .int 0]))] _ _
  refine bp_dup hG dX6_init_58 rfl ?_
  refine bp_init (As := []) (pre0 := pre ++ [(h, .inr (5, [.ref o1, .ref o3, .ref o5, .ref o7, .null, .null, .null, .null, .null, .long 0, .int 0])), (o1, .inr (0, [.ref q2, .int 0])), (q2, .inl ((cxw g).2.1 0, 1600, .inl (fun _ => 0))), (o3, .inr (0, [.ref q4, .int 0])), (q4, .inl ((cxw g).2.1 0, 1500, .inl (fun _ => 0))), (o5, .inr (1, [.ref q6, .int 0, .int 0, .int 0])), (q6, .inl ((cxw g).2.1 0, 1420, .inl (fun _ => 0))), (o7, .inr (4, [.int 0, .int 0, .int 0, .int 0, .int 0, .int 0, .int 0, .int 0]))]) (ws0 := [(o8, .inr (2, [.long 0, .int 0]))]) hG (ci_X3 (cxw g) (pre ++ [(h, .inr (5, [.ref o1, .ref o3, .ref o5, .ref o7, .null, .null, .null, .null, .null, .long 0, .int 0])), (o1, .inr (0, [.ref q2, .int 0])), (q2, .inl ((cxw g).2.1 0, 1600, .inl (fun _ => 0))), (o3, .inr (0, [.ref q4, .int 0])), (q4, .inl ((cxw g).2.1 0, 1500, .inl (fun _ => 0))), (o5, .inr (1, [.ref q6, .int 0, .int 0, .int 0])), (q6, .inl ((cxw g).2.1 0, 1420, .inl (fun _ => 0))), (o7, .inr (4, [.int 0, .int 0, .int 0, .int 0, .int 0, .int 0, .int 0, .int 0]))]) o8) (by rw [List.append_assoc]; rfl) lI_72 lI_73 lI_74 lI_75 rfl (by decide +kernel) (by decide) rfl rfl (by decide) (by decide) (by decide) (Nat.le_of_ble_eq_true rfl) dX6_init_59 (fun ws2 hw2 => ?_) (fun w2 hw2 => ?_)
  rotate_left
  · obtain rfl := hw2
    exact ⟨_, List.append_assoc _ _ _⟩
  rw [List.append_assoc] at hw2
  obtain rfl := List.append_cancel_left hw2
  show BP g _ _ _ pre [(h, .inr (5, [.ref o1, .ref o3, .ref o5, .ref o7, .null, .null, .null, .null, .null, .long 0, .int 0])), (o1, .inr (0, [.ref q2, .int 0])), (q2, .inl ((cxw g).2.1 0, 1600, .inl (fun _ => 0))), (o3, .inr (0, [.ref q4, .int 0])), (q4, .inl ((cxw g).2.1 0, 1500, .inl (fun _ => 0))), (o5, .inr (1, [.ref q6, .int 0, .int 0, .int 0])), (q6, .inl ((cxw g).2.1 0, 1420, .inl (fun _ => 0))), (o7, .inr (4, [.int 0, .int 0, .int 0, .int 0, .int 0, .int 0, .int 0, .int 0])), (o8, .inr (2, [.long 0, .int 0]))] _ _
  refine bp_putF (v := .ref o8) (ty := .object "FloatTexts$Rounding") (ws' := [(h, .inr (5, [.ref o1, .ref o3, .ref o5, .ref o7, .ref o8, .null, .null, .null, .null, .long 0, .int 0])), (o1, .inr (0, [.ref q2, .int 0])), (q2, .inl ((cxw g).2.1 0, 1600, .inl (fun _ => 0))), (o3, .inr (0, [.ref q4, .int 0])), (q4, .inl ((cxw g).2.1 0, 1500, .inl (fun _ => 0))), (o5, .inr (1, [.ref q6, .int 0, .int 0, .int 0])), (q6, .inl ((cxw g).2.1 0, 1420, .inl (fun _ => 0))), (o7, .inr (4, [.int 0, .int 0, .int 0, .int 0, .int 0, .int 0, .int 0, .int 0])), (o8, .inr (2, [.long 0, .int 0]))]) hG hnm uin6 tyX6 tyX6_ok nmX6 0 rfl rfl 4 (by decide) rfl rfl (by decide +kernel) rfl rfl (Nat.le_of_ble_eq_true rfl) rfl lI_76 dX6_init_62 ?_
  refine bp_aload_n hG 0 rfl dX6_init_65 rfl ?_
  refine bp_new (ci := 3) (fs := [.null, .int 0, .int 0, .int 0]) (C := RX4) (T := TX4) (M := 4) hG uin4 tyX4 tyX4_ok lI_77 lI_78 lI_79 rfl (fun j hj => by rcases (show j = 0 ∨ j = 1 ∨ j = 2 ∨ j = 3 by omega) with rfl | rfl | rfl | rfl <;> rfl) (by omega) (by omega) dX6_init_66 (fun o9 => ?_)
  show BP g _ _ _ pre [(h, .inr (5, [.ref o1, .ref o3, .ref o5, .ref o7, .ref o8, .null, .null, .null, .null, .long 0, .int 0])), (o1, .inr (0, [.ref q2, .int 0])), (q2, .inl ((cxw g).2.1 0, 1600, .inl (fun _ => 0))), (o3, .inr (0, [.ref q4, .int 0])), (q4, .inl ((cxw g).2.1 0, 1500, .inl (fun _ => 0))), (o5, .inr (1, [.ref q6, .int 0, .int 0, .int 0])), (q6, .inl ((cxw g).2.1 0, 1420, .inl (fun _ => 0))), (o7, .inr (4, [.int 0, .int 0, .int 0, .int 0, .int 0, .int 0, .int 0, .int 0])), (o8, .inr (2, [.long 0, .int 0])), (o9, .inr (3, [.null, .int 0, .int 0, .int 0]))] _ _
  refine bp_dup hG dX6_init_69 rfl ?_
  refine bp_init (As := []) (pre0 := pre ++ [(h, .inr (5, [.ref o1, .ref o3, .ref o5, .ref o7, .ref o8, .null, .null, .null, .null, .long 0, .int 0])), (o1, .inr (0, [.ref q2, .int 0])), (q2, .inl ((cxw g).2.1 0, 1600, .inl (fun _ => 0))), (o3, .inr (0, [.ref q4, .int 0])), (q4, .inl ((cxw g).2.1 0, 1500, .inl (fun _ => 0))), (o5, .inr (1, [.ref q6, .int 0, .int 0, .int 0])), (q6, .inl ((cxw g).2.1 0, 1420, .inl (fun _ => 0))), (o7, .inr (4, [.int 0, .int 0, .int 0, .int 0, .int 0, .int 0, .int 0, .int 0])), (o8, .inr (2, [.long 0, .int 0]))]) (ws0 := [(o9, .inr (3, [.null, .int 0, .int 0, .int 0]))]) hG (ci_X4 (cxw g) (pre ++ [(h, .inr (5, [.ref o1, .ref o3, .ref o5, .ref o7, .ref o8, .null, .null, .null, .null, .long 0, .int 0])), (o1, .inr (0, [.ref q2, .int 0])), (q2, .inl ((cxw g).2.1 0, 1600, .inl (fun _ => 0))), (o3, .inr (0, [.ref q4, .int 0])), (q4, .inl ((cxw g).2.1 0, 1500, .inl (fun _ => 0))), (o5, .inr (1, [.ref q6, .int 0, .int 0, .int 0])), (q6, .inl ((cxw g).2.1 0, 1420, .inl (fun _ => 0))), (o7, .inr (4, [.int 0, .int 0, .int 0, .int 0, .int 0, .int 0, .int 0, .int 0])), (o8, .inr (2, [.long 0, .int 0]))]) o9) (by rw [List.append_assoc]; rfl) lI_80 lI_81 lI_82 lI_83 rfl (by decide +kernel) (by decide) rfl rfl (by decide) (by decide) (by decide) (Nat.le_of_ble_eq_true rfl) dX6_init_70 (fun ws2 hw2 => ?_) (fun w2 hw2 => ?_)
  rotate_left
  · obtain ⟨q, rfl⟩ := hw2
    exact ⟨_, List.append_assoc _ _ _⟩
  obtain ⟨q10, hw2⟩ := hw2
  rw [List.append_assoc] at hw2
  obtain rfl := List.append_cancel_left hw2
  show BP g _ _ _ pre [(h, .inr (5, [.ref o1, .ref o3, .ref o5, .ref o7, .ref o8, .null, .null, .null, .null, .long 0, .int 0])), (o1, .inr (0, [.ref q2, .int 0])), (q2, .inl ((cxw g).2.1 0, 1600, .inl (fun _ => 0))), (o3, .inr (0, [.ref q4, .int 0])), (q4, .inl ((cxw g).2.1 0, 1500, .inl (fun _ => 0))), (o5, .inr (1, [.ref q6, .int 0, .int 0, .int 0])), (q6, .inl ((cxw g).2.1 0, 1420, .inl (fun _ => 0))), (o7, .inr (4, [.int 0, .int 0, .int 0, .int 0, .int 0, .int 0, .int 0, .int 0])), (o8, .inr (2, [.long 0, .int 0])), (o9, .inr (3, [.ref q10, .int 156, .int (-1), .int 0])), (q10, .inl ((cxw g).2.1 1, 156, .inl (fun _ => 0)))] _ _
  refine bp_putF (v := .ref o9) (ty := .object "FloatTexts$Row") (ws' := [(h, .inr (5, [.ref o1, .ref o3, .ref o5, .ref o7, .ref o8, .ref o9, .null, .null, .null, .long 0, .int 0])), (o1, .inr (0, [.ref q2, .int 0])), (q2, .inl ((cxw g).2.1 0, 1600, .inl (fun _ => 0))), (o3, .inr (0, [.ref q4, .int 0])), (q4, .inl ((cxw g).2.1 0, 1500, .inl (fun _ => 0))), (o5, .inr (1, [.ref q6, .int 0, .int 0, .int 0])), (q6, .inl ((cxw g).2.1 0, 1420, .inl (fun _ => 0))), (o7, .inr (4, [.int 0, .int 0, .int 0, .int 0, .int 0, .int 0, .int 0, .int 0])), (o8, .inr (2, [.long 0, .int 0])), (o9, .inr (3, [.ref q10, .int 156, .int (-1), .int 0])), (q10, .inl ((cxw g).2.1 1, 156, .inl (fun _ => 0)))]) hG hnm uin6 tyX6 tyX6_ok nmX6 0 rfl rfl 5 (by decide) rfl rfl (by decide +kernel) rfl rfl (Nat.le_of_ble_eq_true rfl) rfl lI_84 dX6_init_73 ?_
  refine bp_aload_n hG 0 rfl dX6_init_76 rfl ?_
  refine bp_new (ci := 3) (fs := [.null, .int 0, .int 0, .int 0]) (C := RX4) (T := TX4) (M := 4) hG uin4 tyX4 tyX4_ok lI_77 lI_78 lI_79 rfl (fun j hj => by rcases (show j = 0 ∨ j = 1 ∨ j = 2 ∨ j = 3 by omega) with rfl | rfl | rfl | rfl <;> rfl) (by omega) (by omega) dX6_init_77 (fun o11 => ?_)
  show BP g _ _ _ pre [(h, .inr (5, [.ref o1, .ref o3, .ref o5, .ref o7, .ref o8, .ref o9, .null, .null, .null, .long 0, .int 0])), (o1, .inr (0, [.ref q2, .int 0])), (q2, .inl ((cxw g).2.1 0, 1600, .inl (fun _ => 0))), (o3, .inr (0, [.ref q4, .int 0])), (q4, .inl ((cxw g).2.1 0, 1500, .inl (fun _ => 0))), (o5, .inr (1, [.ref q6, .int 0, .int 0, .int 0])), (q6, .inl ((cxw g).2.1 0, 1420, .inl (fun _ => 0))), (o7, .inr (4, [.int 0, .int 0, .int 0, .int 0, .int 0, .int 0, .int 0, .int 0])), (o8, .inr (2, [.long 0, .int 0])), (o9, .inr (3, [.ref q10, .int 156, .int (-1), .int 0])), (q10, .inl ((cxw g).2.1 1, 156, .inl (fun _ => 0))), (o11, .inr (3, [.null, .int 0, .int 0, .int 0]))] _ _
  refine bp_dup hG dX6_init_80 rfl ?_
  refine bp_init (As := []) (pre0 := pre ++ [(h, .inr (5, [.ref o1, .ref o3, .ref o5, .ref o7, .ref o8, .ref o9, .null, .null, .null, .long 0, .int 0])), (o1, .inr (0, [.ref q2, .int 0])), (q2, .inl ((cxw g).2.1 0, 1600, .inl (fun _ => 0))), (o3, .inr (0, [.ref q4, .int 0])), (q4, .inl ((cxw g).2.1 0, 1500, .inl (fun _ => 0))), (o5, .inr (1, [.ref q6, .int 0, .int 0, .int 0])), (q6, .inl ((cxw g).2.1 0, 1420, .inl (fun _ => 0))), (o7, .inr (4, [.int 0, .int 0, .int 0, .int 0, .int 0, .int 0, .int 0, .int 0])), (o8, .inr (2, [.long 0, .int 0])), (o9, .inr (3, [.ref q10, .int 156, .int (-1), .int 0])), (q10, .inl ((cxw g).2.1 1, 156, .inl (fun _ => 0)))]) (ws0 := [(o11, .inr (3, [.null, .int 0, .int 0, .int 0]))]) hG (ci_X4 (cxw g) (pre ++ [(h, .inr (5, [.ref o1, .ref o3, .ref o5, .ref o7, .ref o8, .ref o9, .null, .null, .null, .long 0, .int 0])), (o1, .inr (0, [.ref q2, .int 0])), (q2, .inl ((cxw g).2.1 0, 1600, .inl (fun _ => 0))), (o3, .inr (0, [.ref q4, .int 0])), (q4, .inl ((cxw g).2.1 0, 1500, .inl (fun _ => 0))), (o5, .inr (1, [.ref q6, .int 0, .int 0, .int 0])), (q6, .inl ((cxw g).2.1 0, 1420, .inl (fun _ => 0))), (o7, .inr (4, [.int 0, .int 0, .int 0, .int 0, .int 0, .int 0, .int 0, .int 0])), (o8, .inr (2, [.long 0, .int 0])), (o9, .inr (3, [.ref q10, .int 156, .int (-1), .int 0])), (q10, .inl ((cxw g).2.1 1, 156, .inl (fun _ => 0)))]) o11) (by rw [List.append_assoc]; rfl) lI_80 lI_81 lI_82 lI_83 rfl (by decide +kernel) (by decide) rfl rfl (by decide) (by decide) (by decide) (Nat.le_of_ble_eq_true rfl) dX6_init_81 (fun ws2 hw2 => ?_) (fun w2 hw2 => ?_)
  rotate_left
  · obtain ⟨q, rfl⟩ := hw2
    exact ⟨_, List.append_assoc _ _ _⟩
  obtain ⟨q12, hw2⟩ := hw2
  rw [List.append_assoc] at hw2
  obtain rfl := List.append_cancel_left hw2
  show BP g _ _ _ pre [(h, .inr (5, [.ref o1, .ref o3, .ref o5, .ref o7, .ref o8, .ref o9, .null, .null, .null, .long 0, .int 0])), (o1, .inr (0, [.ref q2, .int 0])), (q2, .inl ((cxw g).2.1 0, 1600, .inl (fun _ => 0))), (o3, .inr (0, [.ref q4, .int 0])), (q4, .inl ((cxw g).2.1 0, 1500, .inl (fun _ => 0))), (o5, .inr (1, [.ref q6, .int 0, .int 0, .int 0])), (q6, .inl ((cxw g).2.1 0, 1420, .inl (fun _ => 0))), (o7, .inr (4, [.int 0, .int 0, .int 0, .int 0, .int 0, .int 0, .int 0, .int 0])), (o8, .inr (2, [.long 0, .int 0])), (o9, .inr (3, [.ref q10, .int 156, .int (-1), .int 0])), (q10, .inl ((cxw g).2.1 1, 156, .inl (fun _ => 0))), (o11, .inr (3, [.ref q12, .int 156, .int (-1), .int 0])), (q12, .inl ((cxw g).2.1 1, 156, .inl (fun _ => 0)))] _ _
  refine bp_putF (v := .ref o11) (ty := .object "FloatTexts$Row") (ws' := [(h, .inr (5, [.ref o1, .ref o3, .ref o5, .ref o7, .ref o8, .ref o9, .ref o11, .null, .null, .long 0, .int 0])), (o1, .inr (0, [.ref q2, .int 0])), (q2, .inl ((cxw g).2.1 0, 1600, .inl (fun _ => 0))), (o3, .inr (0, [.ref q4, .int 0])), (q4, .inl ((cxw g).2.1 0, 1500, .inl (fun _ => 0))), (o5, .inr (1, [.ref q6, .int 0, .int 0, .int 0])), (q6, .inl ((cxw g).2.1 0, 1420, .inl (fun _ => 0))), (o7, .inr (4, [.int 0, .int 0, .int 0, .int 0, .int 0, .int 0, .int 0, .int 0])), (o8, .inr (2, [.long 0, .int 0])), (o9, .inr (3, [.ref q10, .int 156, .int (-1), .int 0])), (q10, .inl ((cxw g).2.1 1, 156, .inl (fun _ => 0))), (o11, .inr (3, [.ref q12, .int 156, .int (-1), .int 0])), (q12, .inl ((cxw g).2.1 1, 156, .inl (fun _ => 0)))]) hG hnm uin6 tyX6 tyX6_ok nmX6 0 rfl rfl 6 (by decide) rfl rfl (by decide +kernel) rfl rfl (Nat.le_of_ble_eq_true rfl) rfl lI_85 dX6_init_84 ?_
  refine bp_aload_n hG 0 rfl dX6_init_87 rfl ?_
  refine bp_new (ci := 3) (fs := [.null, .int 0, .int 0, .int 0]) (C := RX4) (T := TX4) (M := 4) hG uin4 tyX4 tyX4_ok lI_77 lI_78 lI_79 rfl (fun j hj => by rcases (show j = 0 ∨ j = 1 ∨ j = 2 ∨ j = 3 by omega) with rfl | rfl | rfl | rfl <;> rfl) (by omega) (by omega) dX6_init_88 (fun o13 => ?_)
  show BP g _ _ _ pre [(h, .inr (5, [.ref o1, .ref o3, .ref o5, .ref o7, .ref o8, .ref o9, .ref o11, .null, .null, .long 0, .int 0])), (o1, .inr (0, [.ref q2, .int 0])), (q2, .inl ((cxw g).2.1 0, 1600, .inl (fun _ => 0))), (o3, .inr (0, [.ref q4, .int 0])), (q4, .inl ((cxw g).2.1 0, 1500, .inl (fun _ => 0))), (o5, .inr (1, [.ref q6, .int 0, .int 0, .int 0])), (q6, .inl ((cxw g).2.1 0, 1420, .inl (fun _ => 0))), (o7, .inr (4, [.int 0, .int 0, .int 0, .int 0, .int 0, .int 0, .int 0, .int 0])), (o8, .inr (2, [.long 0, .int 0])), (o9, .inr (3, [.ref q10, .int 156, .int (-1), .int 0])), (q10, .inl ((cxw g).2.1 1, 156, .inl (fun _ => 0))), (o11, .inr (3, [.ref q12, .int 156, .int (-1), .int 0])), (q12, .inl ((cxw g).2.1 1, 156, .inl (fun _ => 0))), (o13, .inr (3, [.null, .int 0, .int 0, .int 0]))] _ _
  refine bp_dup hG dX6_init_91 rfl ?_
  refine bp_init (As := []) (pre0 := pre ++ [(h, .inr (5, [.ref o1, .ref o3, .ref o5, .ref o7, .ref o8, .ref o9, .ref o11, .null, .null, .long 0, .int 0])), (o1, .inr (0, [.ref q2, .int 0])), (q2, .inl ((cxw g).2.1 0, 1600, .inl (fun _ => 0))), (o3, .inr (0, [.ref q4, .int 0])), (q4, .inl ((cxw g).2.1 0, 1500, .inl (fun _ => 0))), (o5, .inr (1, [.ref q6, .int 0, .int 0, .int 0])), (q6, .inl ((cxw g).2.1 0, 1420, .inl (fun _ => 0))), (o7, .inr (4, [.int 0, .int 0, .int 0, .int 0, .int 0, .int 0, .int 0, .int 0])), (o8, .inr (2, [.long 0, .int 0])), (o9, .inr (3, [.ref q10, .int 156, .int (-1), .int 0])), (q10, .inl ((cxw g).2.1 1, 156, .inl (fun _ => 0))), (o11, .inr (3, [.ref q12, .int 156, .int (-1), .int 0])), (q12, .inl ((cxw g).2.1 1, 156, .inl (fun _ => 0)))]) (ws0 := [(o13, .inr (3, [.null, .int 0, .int 0, .int 0]))]) hG (ci_X4 (cxw g) (pre ++ [(h, .inr (5, [.ref o1, .ref o3, .ref o5, .ref o7, .ref o8, .ref o9, .ref o11, .null, .null, .long 0, .int 0])), (o1, .inr (0, [.ref q2, .int 0])), (q2, .inl ((cxw g).2.1 0, 1600, .inl (fun _ => 0))), (o3, .inr (0, [.ref q4, .int 0])), (q4, .inl ((cxw g).2.1 0, 1500, .inl (fun _ => 0))), (o5, .inr (1, [.ref q6, .int 0, .int 0, .int 0])), (q6, .inl ((cxw g).2.1 0, 1420, .inl (fun _ => 0))), (o7, .inr (4, [.int 0, .int 0, .int 0, .int 0, .int 0, .int 0, .int 0, .int 0])), (o8, .inr (2, [.long 0, .int 0])), (o9, .inr (3, [.ref q10, .int 156, .int (-1), .int 0])), (q10, .inl ((cxw g).2.1 1, 156, .inl (fun _ => 0))), (o11, .inr (3, [.ref q12, .int 156, .int (-1), .int 0])), (q12, .inl ((cxw g).2.1 1, 156, .inl (fun _ => 0)))]) o13) (by rw [List.append_assoc]; rfl) lI_80 lI_81 lI_82 lI_83 rfl (by decide +kernel) (by decide) rfl rfl (by decide) (by decide) (by decide) (Nat.le_of_ble_eq_true rfl) dX6_init_92 (fun ws2 hw2 => ?_) (fun w2 hw2 => ?_)
  rotate_left
  · obtain ⟨q, rfl⟩ := hw2
    exact ⟨_, List.append_assoc _ _ _⟩
  obtain ⟨q14, hw2⟩ := hw2
  rw [List.append_assoc] at hw2
  obtain rfl := List.append_cancel_left hw2
  show BP g _ _ _ pre [(h, .inr (5, [.ref o1, .ref o3, .ref o5, .ref o7, .ref o8, .ref o9, .ref o11, .null, .null, .long 0, .int 0])), (o1, .inr (0, [.ref q2, .int 0])), (q2, .inl ((cxw g).2.1 0, 1600, .inl (fun _ => 0))), (o3, .inr (0, [.ref q4, .int 0])), (q4, .inl ((cxw g).2.1 0, 1500, .inl (fun _ => 0))), (o5, .inr (1, [.ref q6, .int 0, .int 0, .int 0])), (q6, .inl ((cxw g).2.1 0, 1420, .inl (fun _ => 0))), (o7, .inr (4, [.int 0, .int 0, .int 0, .int 0, .int 0, .int 0, .int 0, .int 0])), (o8, .inr (2, [.long 0, .int 0])), (o9, .inr (3, [.ref q10, .int 156, .int (-1), .int 0])), (q10, .inl ((cxw g).2.1 1, 156, .inl (fun _ => 0))), (o11, .inr (3, [.ref q12, .int 156, .int (-1), .int 0])), (q12, .inl ((cxw g).2.1 1, 156, .inl (fun _ => 0))), (o13, .inr (3, [.ref q14, .int 156, .int (-1), .int 0])), (q14, .inl ((cxw g).2.1 1, 156, .inl (fun _ => 0)))] _ _
  refine bp_putF (v := .ref o13) (ty := .object "FloatTexts$Row") (ws' := [(h, .inr (5, [.ref o1, .ref o3, .ref o5, .ref o7, .ref o8, .ref o9, .ref o11, .ref o13, .null, .long 0, .int 0])), (o1, .inr (0, [.ref q2, .int 0])), (q2, .inl ((cxw g).2.1 0, 1600, .inl (fun _ => 0))), (o3, .inr (0, [.ref q4, .int 0])), (q4, .inl ((cxw g).2.1 0, 1500, .inl (fun _ => 0))), (o5, .inr (1, [.ref q6, .int 0, .int 0, .int 0])), (q6, .inl ((cxw g).2.1 0, 1420, .inl (fun _ => 0))), (o7, .inr (4, [.int 0, .int 0, .int 0, .int 0, .int 0, .int 0, .int 0, .int 0])), (o8, .inr (2, [.long 0, .int 0])), (o9, .inr (3, [.ref q10, .int 156, .int (-1), .int 0])), (q10, .inl ((cxw g).2.1 1, 156, .inl (fun _ => 0))), (o11, .inr (3, [.ref q12, .int 156, .int (-1), .int 0])), (q12, .inl ((cxw g).2.1 1, 156, .inl (fun _ => 0))), (o13, .inr (3, [.ref q14, .int 156, .int (-1), .int 0])), (q14, .inl ((cxw g).2.1 1, 156, .inl (fun _ => 0)))]) hG hnm uin6 tyX6 tyX6_ok nmX6 0 rfl rfl 7 (by decide) rfl rfl (by decide +kernel) rfl rfl (Nat.le_of_ble_eq_true rfl) rfl lI_86 dX6_init_95 ?_
  refine bp_aload_n hG 0 rfl dX6_init_98 rfl ?_
  refine bp_new (ci := 3) (fs := [.null, .int 0, .int 0, .int 0]) (C := RX4) (T := TX4) (M := 4) hG uin4 tyX4 tyX4_ok lI_77 lI_78 lI_79 rfl (fun j hj => by rcases (show j = 0 ∨ j = 1 ∨ j = 2 ∨ j = 3 by omega) with rfl | rfl | rfl | rfl <;> rfl) (by omega) (by omega) dX6_init_99 (fun o15 => ?_)
  show BP g _ _ _ pre [(h, .inr (5, [.ref o1, .ref o3, .ref o5, .ref o7, .ref o8, .ref o9, .ref o11, .ref o13, .null, .long 0, .int 0])), (o1, .inr (0, [.ref q2, .int 0])), (q2, .inl ((cxw g).2.1 0, 1600, .inl (fun _ => 0))), (o3, .inr (0, [.ref q4, .int 0])), (q4, .inl ((cxw g).2.1 0, 1500, .inl (fun _ => 0))), (o5, .inr (1, [.ref q6, .int 0, .int 0, .int 0])), (q6, .inl ((cxw g).2.1 0, 1420, .inl (fun _ => 0))), (o7, .inr (4, [.int 0, .int 0, .int 0, .int 0, .int 0, .int 0, .int 0, .int 0])), (o8, .inr (2, [.long 0, .int 0])), (o9, .inr (3, [.ref q10, .int 156, .int (-1), .int 0])), (q10, .inl ((cxw g).2.1 1, 156, .inl (fun _ => 0))), (o11, .inr (3, [.ref q12, .int 156, .int (-1), .int 0])), (q12, .inl ((cxw g).2.1 1, 156, .inl (fun _ => 0))), (o13, .inr (3, [.ref q14, .int 156, .int (-1), .int 0])), (q14, .inl ((cxw g).2.1 1, 156, .inl (fun _ => 0))), (o15, .inr (3, [.null, .int 0, .int 0, .int 0]))] _ _
  refine bp_dup hG dX6_init_102 rfl ?_
  refine bp_init (As := []) (pre0 := pre ++ [(h, .inr (5, [.ref o1, .ref o3, .ref o5, .ref o7, .ref o8, .ref o9, .ref o11, .ref o13, .null, .long 0, .int 0])), (o1, .inr (0, [.ref q2, .int 0])), (q2, .inl ((cxw g).2.1 0, 1600, .inl (fun _ => 0))), (o3, .inr (0, [.ref q4, .int 0])), (q4, .inl ((cxw g).2.1 0, 1500, .inl (fun _ => 0))), (o5, .inr (1, [.ref q6, .int 0, .int 0, .int 0])), (q6, .inl ((cxw g).2.1 0, 1420, .inl (fun _ => 0))), (o7, .inr (4, [.int 0, .int 0, .int 0, .int 0, .int 0, .int 0, .int 0, .int 0])), (o8, .inr (2, [.long 0, .int 0])), (o9, .inr (3, [.ref q10, .int 156, .int (-1), .int 0])), (q10, .inl ((cxw g).2.1 1, 156, .inl (fun _ => 0))), (o11, .inr (3, [.ref q12, .int 156, .int (-1), .int 0])), (q12, .inl ((cxw g).2.1 1, 156, .inl (fun _ => 0))), (o13, .inr (3, [.ref q14, .int 156, .int (-1), .int 0])), (q14, .inl ((cxw g).2.1 1, 156, .inl (fun _ => 0)))]) (ws0 := [(o15, .inr (3, [.null, .int 0, .int 0, .int 0]))]) hG (ci_X4 (cxw g) (pre ++ [(h, .inr (5, [.ref o1, .ref o3, .ref o5, .ref o7, .ref o8, .ref o9, .ref o11, .ref o13, .null, .long 0, .int 0])), (o1, .inr (0, [.ref q2, .int 0])), (q2, .inl ((cxw g).2.1 0, 1600, .inl (fun _ => 0))), (o3, .inr (0, [.ref q4, .int 0])), (q4, .inl ((cxw g).2.1 0, 1500, .inl (fun _ => 0))), (o5, .inr (1, [.ref q6, .int 0, .int 0, .int 0])), (q6, .inl ((cxw g).2.1 0, 1420, .inl (fun _ => 0))), (o7, .inr (4, [.int 0, .int 0, .int 0, .int 0, .int 0, .int 0, .int 0, .int 0])), (o8, .inr (2, [.long 0, .int 0])), (o9, .inr (3, [.ref q10, .int 156, .int (-1), .int 0])), (q10, .inl ((cxw g).2.1 1, 156, .inl (fun _ => 0))), (o11, .inr (3, [.ref q12, .int 156, .int (-1), .int 0])), (q12, .inl ((cxw g).2.1 1, 156, .inl (fun _ => 0))), (o13, .inr (3, [.ref q14, .int 156, .int (-1), .int 0])), (q14, .inl ((cxw g).2.1 1, 156, .inl (fun _ => 0)))]) o15) (by rw [List.append_assoc]; rfl) lI_80 lI_81 lI_82 lI_83 rfl (by decide +kernel) (by decide) rfl rfl (by decide) (by decide) (by decide) (Nat.le_of_ble_eq_true rfl) dX6_init_103 (fun ws2 hw2 => ?_) (fun w2 hw2 => ?_)
  rotate_left
  · obtain ⟨q, rfl⟩ := hw2
    exact ⟨_, List.append_assoc _ _ _⟩
  obtain ⟨q16, hw2⟩ := hw2
  rw [List.append_assoc] at hw2
  obtain rfl := List.append_cancel_left hw2
  show BP g _ _ _ pre [(h, .inr (5, [.ref o1, .ref o3, .ref o5, .ref o7, .ref o8, .ref o9, .ref o11, .ref o13, .null, .long 0, .int 0])), (o1, .inr (0, [.ref q2, .int 0])), (q2, .inl ((cxw g).2.1 0, 1600, .inl (fun _ => 0))), (o3, .inr (0, [.ref q4, .int 0])), (q4, .inl ((cxw g).2.1 0, 1500, .inl (fun _ => 0))), (o5, .inr (1, [.ref q6, .int 0, .int 0, .int 0])), (q6, .inl ((cxw g).2.1 0, 1420, .inl (fun _ => 0))), (o7, .inr (4, [.int 0, .int 0, .int 0, .int 0, .int 0, .int 0, .int 0, .int 0])), (o8, .inr (2, [.long 0, .int 0])), (o9, .inr (3, [.ref q10, .int 156, .int (-1), .int 0])), (q10, .inl ((cxw g).2.1 1, 156, .inl (fun _ => 0))), (o11, .inr (3, [.ref q12, .int 156, .int (-1), .int 0])), (q12, .inl ((cxw g).2.1 1, 156, .inl (fun _ => 0))), (o13, .inr (3, [.ref q14, .int 156, .int (-1), .int 0])), (q14, .inl ((cxw g).2.1 1, 156, .inl (fun _ => 0))), (o15, .inr (3, [.ref q16, .int 156, .int (-1), .int 0])), (q16, .inl ((cxw g).2.1 1, 156, .inl (fun _ => 0)))] _ _
  refine bp_putF (v := .ref o15) (ty := .object "FloatTexts$Row") (ws' := [(h, .inr (5, [.ref o1, .ref o3, .ref o5, .ref o7, .ref o8, .ref o9, .ref o11, .ref o13, .ref o15, .long 0, .int 0])), (o1, .inr (0, [.ref q2, .int 0])), (q2, .inl ((cxw g).2.1 0, 1600, .inl (fun _ => 0))), (o3, .inr (0, [.ref q4, .int 0])), (q4, .inl ((cxw g).2.1 0, 1500, .inl (fun _ => 0))), (o5, .inr (1, [.ref q6, .int 0, .int 0, .int 0])), (q6, .inl ((cxw g).2.1 0, 1420, .inl (fun _ => 0))), (o7, .inr (4, [.int 0, .int 0, .int 0, .int 0, .int 0, .int 0, .int 0, .int 0])), (o8, .inr (2, [.long 0, .int 0])), (o9, .inr (3, [.ref q10, .int 156, .int (-1), .int 0])), (q10, .inl ((cxw g).2.1 1, 156, .inl (fun _ => 0))), (o11, .inr (3, [.ref q12, .int 156, .int (-1), .int 0])), (q12, .inl ((cxw g).2.1 1, 156, .inl (fun _ => 0))), (o13, .inr (3, [.ref q14, .int 156, .int (-1), .int 0])), (q14, .inl ((cxw g).2.1 1, 156, .inl (fun _ => 0))), (o15, .inr (3, [.ref q16, .int 156, .int (-1), .int 0])), (q16, .inl ((cxw g).2.1 1, 156, .inl (fun _ => 0)))]) hG hnm uin6 tyX6 tyX6_ok nmX6 0 rfl rfl 8 (by decide) rfl rfl (by decide +kernel) rfl rfl (Nat.le_of_ble_eq_true rfl) rfl lI_87 dX6_init_106 ?_
  refine bp_aload_n hG 0 rfl dX6_init_109 rfl ?_
  refine bp_lconst (v := 0) hG dX6_init_110 rfl ?_
  refine bp_put (v := .long 0) (ty := .long) (ws' := [(h, .inr (5, [.ref o1, .ref o3, .ref o5, .ref o7, .ref o8, .ref o9, .ref o11, .ref o13, .ref o15, .long 0, .int 0])), (o1, .inr (0, [.ref q2, .int 0])), (q2, .inl ((cxw g).2.1 0, 1600, .inl (fun _ => 0))), (o3, .inr (0, [.ref q4, .int 0])), (q4, .inl ((cxw g).2.1 0, 1500, .inl (fun _ => 0))), (o5, .inr (1, [.ref q6, .int 0, .int 0, .int 0])), (q6, .inl ((cxw g).2.1 0, 1420, .inl (fun _ => 0))), (o7, .inr (4, [.int 0, .int 0, .int 0, .int 0, .int 0, .int 0, .int 0, .int 0])), (o8, .inr (2, [.long 0, .int 0])), (o9, .inr (3, [.ref q10, .int 156, .int (-1), .int 0])), (q10, .inl ((cxw g).2.1 1, 156, .inl (fun _ => 0))), (o11, .inr (3, [.ref q12, .int 156, .int (-1), .int 0])), (q12, .inl ((cxw g).2.1 1, 156, .inl (fun _ => 0))), (o13, .inr (3, [.ref q14, .int 156, .int (-1), .int 0])), (q14, .inl ((cxw g).2.1 1, 156, .inl (fun _ => 0))), (o15, .inr (3, [.ref q16, .int 156, .int (-1), .int 0])), (q16, .inl ((cxw g).2.1 1, 156, .inl (fun _ => 0)))]) hG uin6 tyX6 tyX6_ok nmX6 0 rfl rfl 9 (by decide) rfl (by decide +kernel) rfl rfl (Nat.le_of_ble_eq_true rfl) rfl lI_88 dX6_init_111 ?_
  refine bp_aload_n hG 0 rfl dX6_init_114 rfl ?_
  refine bp_iconst (v := 0) hG dX6_init_115 rfl ?_
  refine bp_put (v := .int 0) (ty := .int) (ws' := [(h, .inr (5, [.ref o1, .ref o3, .ref o5, .ref o7, .ref o8, .ref o9, .ref o11, .ref o13, .ref o15, .long 0, .int 0])), (o1, .inr (0, [.ref q2, .int 0])), (q2, .inl ((cxw g).2.1 0, 1600, .inl (fun _ => 0))), (o3, .inr (0, [.ref q4, .int 0])), (q4, .inl ((cxw g).2.1 0, 1500, .inl (fun _ => 0))), (o5, .inr (1, [.ref q6, .int 0, .int 0, .int 0])), (q6, .inl ((cxw g).2.1 0, 1420, .inl (fun _ => 0))), (o7, .inr (4, [.int 0, .int 0, .int 0, .int 0, .int 0, .int 0, .int 0, .int 0])), (o8, .inr (2, [.long 0, .int 0])), (o9, .inr (3, [.ref q10, .int 156, .int (-1), .int 0])), (q10, .inl ((cxw g).2.1 1, 156, .inl (fun _ => 0))), (o11, .inr (3, [.ref q12, .int 156, .int (-1), .int 0])), (q12, .inl ((cxw g).2.1 1, 156, .inl (fun _ => 0))), (o13, .inr (3, [.ref q14, .int 156, .int (-1), .int 0])), (q14, .inl ((cxw g).2.1 1, 156, .inl (fun _ => 0))), (o15, .inr (3, [.ref q16, .int 156, .int (-1), .int 0])), (q16, .inl ((cxw g).2.1 1, 156, .inl (fun _ => 0)))]) hG uin6 tyX6 tyX6_ok nmX6 0 rfl rfl 10 (by decide) rfl (by decide +kernel) rfl rfl (Nat.le_of_ble_eq_true rfl) rfl lI_89 dX6_init_116 ?_
  refine hF _ _ _ _ _ (by decide) (by decide) ?_ dX6_init_119
  exact ⟨o1, q2, o3, q4, o5, q6, o7, o8, o9, q10, o11, q12, o13, q14, o15, q16, rfl⟩
