def RJM : String := "java/lang/Math"
def RJL : String := "java/lang/Long"
def RJS : String := "java/lang/String"
def RJB : String := "java/lang/StringLatin1"
def RJP : String := "jdk/internal/util/Preconditions"
abbrev cJM_max : ByteArray := prog_15_method_65_code
def yJM_max : MethodName := ⟨RJM, "max", "(II)I"⟩
abbrev cJM_min : ByteArray := prog_15_method_69_code
def yJM_min : MethodName := ⟨RJM, "min", "(II)I"⟩
abbrev cJM_maxL : ByteArray := prog_15_method_66_code
def yJM_maxL : MethodName := ⟨RJM, "max", "(JJ)J"⟩
abbrev cJM_minL : ByteArray := prog_15_method_70_code
def yJM_minL : MethodName := ⟨RJM, "min", "(JJ)J"⟩
abbrev cJM_floorDiv : ByteArray := prog_15_method_47_code
def yJM_floorDiv : MethodName := ⟨RJM, "floorDiv", "(II)I"⟩
abbrev cJM_floorMod : ByteArray := prog_15_method_50_code
def yJM_floorMod : MethodName := ⟨RJM, "floorMod", "(II)I"⟩
abbrev cJL_divideUnsigned : ByteArray := prog_14_method_44_code
def yJL_divideUnsigned : MethodName := ⟨RJL, "divideUnsigned", "(JJ)J"⟩
abbrev cJL_remainderUnsigned : ByteArray := prog_14_method_45_code
def yJL_remainderUnsigned : MethodName := ⟨RJL, "remainderUnsigned", "(JJ)J"⟩
abbrev cJS_length : ByteArray := prog_17_method_54_code
def yJS_length : MethodName := ⟨RJS, "length", "()I"⟩
abbrev cJS_coder : ByteArray := prog_17_method_152_code
def yJS_coder : MethodName := ⟨RJS, "coder", "()B"⟩
abbrev cJS_isLatin1 : ByteArray := prog_17_method_154_code
def yJS_isLatin1 : MethodName := ⟨RJS, "isLatin1", "()Z"⟩
abbrev cJS_charAt : ByteArray := prog_17_method_56_code
def yJS_charAt : MethodName := ⟨RJS, "charAt", "(I)C"⟩
abbrev cJB_charAt : ByteArray := prog_18_method_2_code
def yJB_charAt : MethodName := ⟨RJB, "charAt", "([BI)C"⟩
abbrev cJS_checkIndex : ByteArray := prog_17_method_155_code
def yJS_checkIndex : MethodName := ⟨RJS, "checkIndex", "(II)V"⟩
abbrev cJP_checkIndex : ByteArray := prog_21_method_11_code
def yJP_checkIndex : MethodName := ⟨RJP, "checkIndex", "(IILjava/util/function/BiFunction;)I"⟩
theorem dJM_max_0 : decode cJM_max 0 = .ok (.iload_n 0, 1) := by decide +kernel
theorem dJM_max_1 : decode cJM_max 1 = .ok (.iload_n 1, 1) := by decide +kernel
theorem dJM_max_2 : decode cJM_max 2 = .ok (.if_icmp .lt 7, 3) := by decide +kernel
theorem dJM_max_5 : decode cJM_max 5 = .ok (.iload_n 0, 1) := by decide +kernel
theorem dJM_max_6 : decode cJM_max 6 = .ok (.goto 4, 3) := by decide +kernel
theorem dJM_max_9 : decode cJM_max 9 = .ok (.iload_n 1, 1) := by decide +kernel
theorem dJM_max_10 : decode cJM_max 10 = .ok (.ireturn, 1) := by decide +kernel
theorem dJM_min_0 : decode cJM_min 0 = .ok (.iload_n 0, 1) := by decide +kernel
theorem dJM_min_1 : decode cJM_min 1 = .ok (.iload_n 1, 1) := by decide +kernel
theorem dJM_min_2 : decode cJM_min 2 = .ok (.if_icmp .gt 7, 3) := by decide +kernel
theorem dJM_min_5 : decode cJM_min 5 = .ok (.iload_n 0, 1) := by decide +kernel
theorem dJM_min_6 : decode cJM_min 6 = .ok (.goto 4, 3) := by decide +kernel
theorem dJM_min_9 : decode cJM_min 9 = .ok (.iload_n 1, 1) := by decide +kernel
theorem dJM_min_10 : decode cJM_min 10 = .ok (.ireturn, 1) := by decide +kernel
theorem dJM_maxL_0 : decode cJM_maxL 0 = .ok (.lload_n 0, 1) := by decide +kernel
theorem dJM_maxL_1 : decode cJM_maxL 1 = .ok (.lload_n 2, 1) := by decide +kernel
theorem dJM_maxL_2 : decode cJM_maxL 2 = .ok (.lcmp, 1) := by decide +kernel
theorem dJM_maxL_3 : decode cJM_maxL 3 = .ok (.ifCond .lt 7, 3) := by decide +kernel
theorem dJM_maxL_6 : decode cJM_maxL 6 = .ok (.lload_n 0, 1) := by decide +kernel
theorem dJM_maxL_7 : decode cJM_maxL 7 = .ok (.goto 4, 3) := by decide +kernel
theorem dJM_maxL_10 : decode cJM_maxL 10 = .ok (.lload_n 2, 1) := by decide +kernel
theorem dJM_maxL_11 : decode cJM_maxL 11 = .ok (.lreturn, 1) := by decide +kernel
theorem dJM_minL_0 : decode cJM_minL 0 = .ok (.lload_n 0, 1) := by decide +kernel
theorem dJM_minL_1 : decode cJM_minL 1 = .ok (.lload_n 2, 1) := by decide +kernel
theorem dJM_minL_2 : decode cJM_minL 2 = .ok (.lcmp, 1) := by decide +kernel
theorem dJM_minL_3 : decode cJM_minL 3 = .ok (.ifCond .gt 7, 3) := by decide +kernel
theorem dJM_minL_6 : decode cJM_minL 6 = .ok (.lload_n 0, 1) := by decide +kernel
theorem dJM_minL_7 : decode cJM_minL 7 = .ok (.goto 4, 3) := by decide +kernel
theorem dJM_minL_10 : decode cJM_minL 10 = .ok (.lload_n 2, 1) := by decide +kernel
theorem dJM_minL_11 : decode cJM_minL 11 = .ok (.lreturn, 1) := by decide +kernel
theorem dJM_floorDiv_0 : decode cJM_floorDiv 0 = .ok (.iload_n 0, 1) := by decide +kernel
theorem dJM_floorDiv_1 : decode cJM_floorDiv 1 = .ok (.iload_n 1, 1) := by decide +kernel
theorem dJM_floorDiv_2 : decode cJM_floorDiv 2 = .ok (.idiv, 1) := by decide +kernel
theorem dJM_floorDiv_3 : decode cJM_floorDiv 3 = .ok (.istore_n 2, 1) := by decide +kernel
theorem dJM_floorDiv_4 : decode cJM_floorDiv 4 = .ok (.iload_n 0, 1) := by decide +kernel
theorem dJM_floorDiv_5 : decode cJM_floorDiv 5 = .ok (.iload_n 1, 1) := by decide +kernel
theorem dJM_floorDiv_6 : decode cJM_floorDiv 6 = .ok (.ixor, 1) := by decide +kernel
theorem dJM_floorDiv_7 : decode cJM_floorDiv 7 = .ok (.ifCond .ge 14, 3) := by decide +kernel
theorem dJM_floorDiv_10 : decode cJM_floorDiv 10 = .ok (.iload_n 2, 1) := by decide +kernel
theorem dJM_floorDiv_11 : decode cJM_floorDiv 11 = .ok (.iload_n 1, 1) := by decide +kernel
theorem dJM_floorDiv_12 : decode cJM_floorDiv 12 = .ok (.imul, 1) := by decide +kernel
theorem dJM_floorDiv_13 : decode cJM_floorDiv 13 = .ok (.iload_n 0, 1) := by decide +kernel
theorem dJM_floorDiv_14 : decode cJM_floorDiv 14 = .ok (.if_icmp .eq 7, 3) := by decide +kernel
theorem dJM_floorDiv_17 : decode cJM_floorDiv 17 = .ok (.iload_n 2, 1) := by decide +kernel
theorem dJM_floorDiv_18 : decode cJM_floorDiv 18 = .ok (.iconst 1, 1) := by decide +kernel
theorem dJM_floorDiv_19 : decode cJM_floorDiv 19 = .ok (.isub, 1) := by decide +kernel
theorem dJM_floorDiv_20 : decode cJM_floorDiv 20 = .ok (.ireturn, 1) := by decide +kernel
theorem dJM_floorDiv_21 : decode cJM_floorDiv 21 = .ok (.iload_n 2, 1) := by decide +kernel
theorem dJM_floorDiv_22 : decode cJM_floorDiv 22 = .ok (.ireturn, 1) := by decide +kernel
theorem dJM_floorMod_0 : decode cJM_floorMod 0 = .ok (.iload_n 0, 1) := by decide +kernel
theorem dJM_floorMod_1 : decode cJM_floorMod 1 = .ok (.iload_n 1, 1) := by decide +kernel
theorem dJM_floorMod_2 : decode cJM_floorMod 2 = .ok (.irem, 1) := by decide +kernel
theorem dJM_floorMod_3 : decode cJM_floorMod 3 = .ok (.istore_n 2, 1) := by decide +kernel
theorem dJM_floorMod_4 : decode cJM_floorMod 4 = .ok (.iload_n 0, 1) := by decide +kernel
theorem dJM_floorMod_5 : decode cJM_floorMod 5 = .ok (.iload_n 1, 1) := by decide +kernel
theorem dJM_floorMod_6 : decode cJM_floorMod 6 = .ok (.ixor, 1) := by decide +kernel
theorem dJM_floorMod_7 : decode cJM_floorMod 7 = .ok (.ifCond .ge 11, 3) := by decide +kernel
theorem dJM_floorMod_10 : decode cJM_floorMod 10 = .ok (.iload_n 2, 1) := by decide +kernel
theorem dJM_floorMod_11 : decode cJM_floorMod 11 = .ok (.ifCond .eq 7, 3) := by decide +kernel
theorem dJM_floorMod_14 : decode cJM_floorMod 14 = .ok (.iload_n 2, 1) := by decide +kernel
theorem dJM_floorMod_15 : decode cJM_floorMod 15 = .ok (.iload_n 1, 1) := by decide +kernel
theorem dJM_floorMod_16 : decode cJM_floorMod 16 = .ok (.iadd, 1) := by decide +kernel
theorem dJM_floorMod_17 : decode cJM_floorMod 17 = .ok (.ireturn, 1) := by decide +kernel
theorem dJM_floorMod_18 : decode cJM_floorMod 18 = .ok (.iload_n 2, 1) := by decide +kernel
theorem dJM_floorMod_19 : decode cJM_floorMod 19 = .ok (.ireturn, 1) := by decide +kernel
theorem dJL_divideUnsigned_0 : decode cJL_divideUnsigned 0 = .ok (.lload_n 2, 1) := by decide +kernel
theorem dJL_divideUnsigned_1 : decode cJL_divideUnsigned 1 = .ok (.lconst 0, 1) := by decide +kernel
theorem dJL_divideUnsigned_2 : decode cJL_divideUnsigned 2 = .ok (.lcmp, 1) := by decide +kernel
theorem dJL_divideUnsigned_3 : decode cJL_divideUnsigned 3 = .ok (.ifCond .lt 38, 3) := by decide +kernel
theorem dJL_divideUnsigned_6 : decode cJL_divideUnsigned 6 = .ok (.lload_n 0, 1) := by decide +kernel
theorem dJL_divideUnsigned_7 : decode cJL_divideUnsigned 7 = .ok (.iconst 1, 1) := by decide +kernel
theorem dJL_divideUnsigned_8 : decode cJL_divideUnsigned 8 = .ok (.lushr, 1) := by decide +kernel
theorem dJL_divideUnsigned_9 : decode cJL_divideUnsigned 9 = .ok (.lload_n 2, 1) := by decide +kernel
theorem dJL_divideUnsigned_10 : decode cJL_divideUnsigned 10 = .ok (.ldiv, 1) := by decide +kernel
theorem dJL_divideUnsigned_11 : decode cJL_divideUnsigned 11 = .ok (.iconst 1, 1) := by decide +kernel
theorem dJL_divideUnsigned_12 : decode cJL_divideUnsigned 12 = .ok (.lshl, 1) := by decide +kernel
theorem dJL_divideUnsigned_13 : decode cJL_divideUnsigned 13 = .ok (.lstore 4, 2) := by decide +kernel
theorem dJL_divideUnsigned_15 : decode cJL_divideUnsigned 15 = .ok (.lload_n 0, 1) := by decide +kernel
theorem dJL_divideUnsigned_16 : decode cJL_divideUnsigned 16 = .ok (.lload 4, 2) := by decide +kernel
theorem dJL_divideUnsigned_18 : decode cJL_divideUnsigned 18 = .ok (.lload_n 2, 1) := by decide +kernel
theorem dJL_divideUnsigned_19 : decode cJL_divideUnsigned 19 = .ok (.lmul, 1) := by decide +kernel
theorem dJL_divideUnsigned_20 : decode cJL_divideUnsigned 20 = .ok (.lsub, 1) := by decide +kernel
theorem dJL_divideUnsigned_21 : decode cJL_divideUnsigned 21 = .ok (.lstore 6, 2) := by decide +kernel
theorem dJL_divideUnsigned_23 : decode cJL_divideUnsigned 23 = .ok (.lload 4, 2) := by decide +kernel
theorem dJL_divideUnsigned_25 : decode cJL_divideUnsigned 25 = .ok (.lload 6, 2) := by decide +kernel
theorem dJL_divideUnsigned_27 : decode cJL_divideUnsigned 27 = .ok (.lload 6, 2) := by decide +kernel
theorem dJL_divideUnsigned_29 : decode cJL_divideUnsigned 29 = .ok (.lload_n 2, 1) := by decide +kernel
theorem dJL_divideUnsigned_30 : decode cJL_divideUnsigned 30 = .ok (.lsub, 1) := by decide +kernel
theorem dJL_divideUnsigned_31 : decode cJL_divideUnsigned 31 = .ok (.ldc2_w 306, 3) := by decide +kernel
theorem dJL_divideUnsigned_34 : decode cJL_divideUnsigned 34 = .ok (.lxor, 1) := by decide +kernel
theorem dJL_divideUnsigned_35 : decode cJL_divideUnsigned 35 = .ok (.lor, 1) := by decide +kernel
theorem dJL_divideUnsigned_36 : decode cJL_divideUnsigned 36 = .ok (.bipush 63, 2) := by decide +kernel
theorem dJL_divideUnsigned_38 : decode cJL_divideUnsigned 38 = .ok (.lushr, 1) := by decide +kernel
theorem dJL_divideUnsigned_39 : decode cJL_divideUnsigned 39 = .ok (.ladd, 1) := by decide +kernel
theorem dJL_divideUnsigned_40 : decode cJL_divideUnsigned 40 = .ok (.lreturn, 1) := by decide +kernel
theorem dJL_divideUnsigned_41 : decode cJL_divideUnsigned 41 = .ok (.lload_n 0, 1) := by decide +kernel
theorem dJL_divideUnsigned_42 : decode cJL_divideUnsigned 42 = .ok (.lload_n 0, 1) := by decide +kernel
theorem dJL_divideUnsigned_43 : decode cJL_divideUnsigned 43 = .ok (.lload_n 2, 1) := by decide +kernel
theorem dJL_divideUnsigned_44 : decode cJL_divideUnsigned 44 = .ok (.lsub, 1) := by decide +kernel
theorem dJL_divideUnsigned_45 : decode cJL_divideUnsigned 45 = .ok (.ldc2_w 306, 3) := by decide +kernel
theorem dJL_divideUnsigned_48 : decode cJL_divideUnsigned 48 = .ok (.lxor, 1) := by decide +kernel
theorem dJL_divideUnsigned_49 : decode cJL_divideUnsigned 49 = .ok (.land, 1) := by decide +kernel
theorem dJL_divideUnsigned_50 : decode cJL_divideUnsigned 50 = .ok (.bipush 63, 2) := by decide +kernel
theorem dJL_divideUnsigned_52 : decode cJL_divideUnsigned 52 = .ok (.lushr, 1) := by decide +kernel
theorem dJL_divideUnsigned_53 : decode cJL_divideUnsigned 53 = .ok (.lreturn, 1) := by decide +kernel
theorem dJL_remainderUnsigned_0 : decode cJL_remainderUnsigned 0 = .ok (.lload_n 2, 1) := by decide +kernel
theorem dJL_remainderUnsigned_1 : decode cJL_remainderUnsigned 1 = .ok (.lconst 0, 1) := by decide +kernel
theorem dJL_remainderUnsigned_2 : decode cJL_remainderUnsigned 2 = .ok (.lcmp, 1) := by decide +kernel
theorem dJL_remainderUnsigned_3 : decode cJL_remainderUnsigned 3 = .ok (.ifCond .lt 37, 3) := by decide +kernel
theorem dJL_remainderUnsigned_6 : decode cJL_remainderUnsigned 6 = .ok (.lload_n 0, 1) := by decide +kernel
theorem dJL_remainderUnsigned_7 : decode cJL_remainderUnsigned 7 = .ok (.iconst 1, 1) := by decide +kernel
theorem dJL_remainderUnsigned_8 : decode cJL_remainderUnsigned 8 = .ok (.lushr, 1) := by decide +kernel
theorem dJL_remainderUnsigned_9 : decode cJL_remainderUnsigned 9 = .ok (.lload_n 2, 1) := by decide +kernel
theorem dJL_remainderUnsigned_10 : decode cJL_remainderUnsigned 10 = .ok (.ldiv, 1) := by decide +kernel
theorem dJL_remainderUnsigned_11 : decode cJL_remainderUnsigned 11 = .ok (.iconst 1, 1) := by decide +kernel
theorem dJL_remainderUnsigned_12 : decode cJL_remainderUnsigned 12 = .ok (.lshl, 1) := by decide +kernel
theorem dJL_remainderUnsigned_13 : decode cJL_remainderUnsigned 13 = .ok (.lstore 4, 2) := by decide +kernel
theorem dJL_remainderUnsigned_15 : decode cJL_remainderUnsigned 15 = .ok (.lload_n 0, 1) := by decide +kernel
theorem dJL_remainderUnsigned_16 : decode cJL_remainderUnsigned 16 = .ok (.lload 4, 2) := by decide +kernel
theorem dJL_remainderUnsigned_18 : decode cJL_remainderUnsigned 18 = .ok (.lload_n 2, 1) := by decide +kernel
theorem dJL_remainderUnsigned_19 : decode cJL_remainderUnsigned 19 = .ok (.lmul, 1) := by decide +kernel
theorem dJL_remainderUnsigned_20 : decode cJL_remainderUnsigned 20 = .ok (.lsub, 1) := by decide +kernel
theorem dJL_remainderUnsigned_21 : decode cJL_remainderUnsigned 21 = .ok (.lstore 6, 2) := by decide +kernel
theorem dJL_remainderUnsigned_23 : decode cJL_remainderUnsigned 23 = .ok (.lload 6, 2) := by decide +kernel
theorem dJL_remainderUnsigned_25 : decode cJL_remainderUnsigned 25 = .ok (.lload 6, 2) := by decide +kernel
theorem dJL_remainderUnsigned_27 : decode cJL_remainderUnsigned 27 = .ok (.lload_n 2, 1) := by decide +kernel
theorem dJL_remainderUnsigned_28 : decode cJL_remainderUnsigned 28 = .ok (.lsub, 1) := by decide +kernel
theorem dJL_remainderUnsigned_29 : decode cJL_remainderUnsigned 29 = .ok (.ldc2_w 306, 3) := by decide +kernel
theorem dJL_remainderUnsigned_32 : decode cJL_remainderUnsigned 32 = .ok (.lxor, 1) := by decide +kernel
theorem dJL_remainderUnsigned_33 : decode cJL_remainderUnsigned 33 = .ok (.bipush 63, 2) := by decide +kernel
theorem dJL_remainderUnsigned_35 : decode cJL_remainderUnsigned 35 = .ok (.lshr, 1) := by decide +kernel
theorem dJL_remainderUnsigned_36 : decode cJL_remainderUnsigned 36 = .ok (.lload_n 2, 1) := by decide +kernel
theorem dJL_remainderUnsigned_37 : decode cJL_remainderUnsigned 37 = .ok (.land, 1) := by decide +kernel
theorem dJL_remainderUnsigned_38 : decode cJL_remainderUnsigned 38 = .ok (.lsub, 1) := by decide +kernel
theorem dJL_remainderUnsigned_39 : decode cJL_remainderUnsigned 39 = .ok (.lreturn, 1) := by decide +kernel
theorem dJL_remainderUnsigned_40 : decode cJL_remainderUnsigned 40 = .ok (.lload_n 0, 1) := by decide +kernel
theorem dJL_remainderUnsigned_41 : decode cJL_remainderUnsigned 41 = .ok (.lload_n 0, 1) := by decide +kernel
theorem dJL_remainderUnsigned_42 : decode cJL_remainderUnsigned 42 = .ok (.lload_n 0, 1) := by decide +kernel
theorem dJL_remainderUnsigned_43 : decode cJL_remainderUnsigned 43 = .ok (.lload_n 2, 1) := by decide +kernel
theorem dJL_remainderUnsigned_44 : decode cJL_remainderUnsigned 44 = .ok (.lsub, 1) := by decide +kernel
theorem dJL_remainderUnsigned_45 : decode cJL_remainderUnsigned 45 = .ok (.ldc2_w 306, 3) := by decide +kernel
theorem dJL_remainderUnsigned_48 : decode cJL_remainderUnsigned 48 = .ok (.lxor, 1) := by decide +kernel
theorem dJL_remainderUnsigned_49 : decode cJL_remainderUnsigned 49 = .ok (.land, 1) := by decide +kernel
theorem dJL_remainderUnsigned_50 : decode cJL_remainderUnsigned 50 = .ok (.bipush 63, 2) := by decide +kernel
theorem dJL_remainderUnsigned_52 : decode cJL_remainderUnsigned 52 = .ok (.lshr, 1) := by decide +kernel
theorem dJL_remainderUnsigned_53 : decode cJL_remainderUnsigned 53 = .ok (.lload_n 2, 1) := by decide +kernel
theorem dJL_remainderUnsigned_54 : decode cJL_remainderUnsigned 54 = .ok (.land, 1) := by decide +kernel
theorem dJL_remainderUnsigned_55 : decode cJL_remainderUnsigned 55 = .ok (.lsub, 1) := by decide +kernel
theorem dJL_remainderUnsigned_56 : decode cJL_remainderUnsigned 56 = .ok (.lreturn, 1) := by decide +kernel
theorem dJS_length_0 : decode cJS_length 0 = .ok (.aload_n 0, 1) := by decide +kernel
theorem dJS_length_1 : decode cJS_length 1 = .ok (.getfield 9, 3) := by decide +kernel
theorem dJS_length_4 : decode cJS_length 4 = .ok (.arraylength, 1) := by decide +kernel
theorem dJS_length_5 : decode cJS_length 5 = .ok (.aload_n 0, 1) := by decide +kernel
theorem dJS_length_6 : decode cJS_length 6 = .ok (.invokevirtual 335, 3) := by decide +kernel
theorem dJS_length_9 : decode cJS_length 9 = .ok (.ishr, 1) := by decide +kernel
theorem dJS_length_10 : decode cJS_length 10 = .ok (.ireturn, 1) := by decide +kernel
theorem dJS_coder_0 : decode cJS_coder 0 = .ok (.getstatic 38, 3) := by decide +kernel
theorem dJS_coder_3 : decode cJS_coder 3 = .ok (.ifCond .eq 10, 3) := by decide +kernel
theorem dJS_coder_6 : decode cJS_coder 6 = .ok (.aload_n 0, 1) := by decide +kernel
theorem dJS_coder_7 : decode cJS_coder 7 = .ok (.getfield 15, 3) := by decide +kernel
theorem dJS_coder_10 : decode cJS_coder 10 = .ok (.goto 4, 3) := by decide +kernel
theorem dJS_coder_13 : decode cJS_coder 13 = .ok (.iconst 1, 1) := by decide +kernel
theorem dJS_coder_14 : decode cJS_coder 14 = .ok (.ireturn, 1) := by decide +kernel
theorem dJS_isLatin1_0 : decode cJS_isLatin1 0 = .ok (.getstatic 38, 3) := by decide +kernel
theorem dJS_isLatin1_3 : decode cJS_isLatin1 3 = .ok (.ifCond .eq 14, 3) := by decide +kernel
theorem dJS_isLatin1_6 : decode cJS_isLatin1 6 = .ok (.aload_n 0, 1) := by decide +kernel
theorem dJS_isLatin1_7 : decode cJS_isLatin1 7 = .ok (.getfield 15, 3) := by decide +kernel
theorem dJS_isLatin1_10 : decode cJS_isLatin1 10 = .ok (.ifCond .ne 7, 3) := by decide +kernel
theorem dJS_isLatin1_13 : decode cJS_isLatin1 13 = .ok (.iconst 1, 1) := by decide +kernel
theorem dJS_isLatin1_14 : decode cJS_isLatin1 14 = .ok (.goto 4, 3) := by decide +kernel
theorem dJS_isLatin1_17 : decode cJS_isLatin1 17 = .ok (.iconst 0, 1) := by decide +kernel
theorem dJS_isLatin1_18 : decode cJS_isLatin1 18 = .ok (.ireturn, 1) := by decide +kernel
theorem dJS_charAt_0 : decode cJS_charAt 0 = .ok (.aload_n 0, 1) := by decide +kernel
theorem dJS_charAt_1 : decode cJS_charAt 1 = .ok (.invokevirtual 492, 3) := by decide +kernel
theorem dJS_charAt_4 : decode cJS_charAt 4 = .ok (.ifCond .eq 12, 3) := by decide +kernel
theorem dJS_charAt_7 : decode cJS_charAt 7 = .ok (.aload_n 0, 1) := by decide +kernel
theorem dJS_charAt_8 : decode cJS_charAt 8 = .ok (.getfield 9, 3) := by decide +kernel
theorem dJS_charAt_11 : decode cJS_charAt 11 = .ok (.iload_n 1, 1) := by decide +kernel
theorem dJS_charAt_12 : decode cJS_charAt 12 = .ok (.invokestatic 495, 3) := by decide +kernel
theorem dJS_charAt_15 : decode cJS_charAt 15 = .ok (.ireturn, 1) := by decide +kernel
theorem dJS_charAt_16 : decode cJS_charAt 16 = .ok (.aload_n 0, 1) := by decide +kernel
theorem dJS_charAt_17 : decode cJS_charAt 17 = .ok (.getfield 9, 3) := by decide +kernel
theorem dJS_charAt_20 : decode cJS_charAt 20 = .ok (.iload_n 1, 1) := by decide +kernel
theorem dJS_charAt_21 : decode cJS_charAt 21 = .ok (.invokestatic 498, 3) := by decide +kernel
theorem dJS_charAt_24 : decode cJS_charAt 24 = .ok (.ireturn, 1) := by decide +kernel
theorem dJB_charAt_0 : decode cJB_charAt 0 = .ok (.iload_n 1, 1) := by decide +kernel
theorem dJB_charAt_1 : decode cJB_charAt 1 = .ok (.aload_n 0, 1) := by decide +kernel
theorem dJB_charAt_2 : decode cJB_charAt 2 = .ok (.arraylength, 1) := by decide +kernel
theorem dJB_charAt_3 : decode cJB_charAt 3 = .ok (.invokestatic 9, 3) := by decide +kernel
theorem dJB_charAt_6 : decode cJB_charAt 6 = .ok (.aload_n 0, 1) := by decide +kernel
theorem dJB_charAt_7 : decode cJB_charAt 7 = .ok (.iload_n 1, 1) := by decide +kernel
theorem dJB_charAt_8 : decode cJB_charAt 8 = .ok (.baload, 1) := by decide +kernel
theorem dJB_charAt_9 : decode cJB_charAt 9 = .ok (.sipush 255, 3) := by decide +kernel
theorem dJB_charAt_12 : decode cJB_charAt 12 = .ok (.iand, 1) := by decide +kernel
theorem dJB_charAt_13 : decode cJB_charAt 13 = .ok (.i2c, 1) := by decide +kernel
theorem dJB_charAt_14 : decode cJB_charAt 14 = .ok (.ireturn, 1) := by decide +kernel
theorem dJS_checkIndex_0 : decode cJS_checkIndex 0 = .ok (.iload_n 0, 1) := by decide +kernel
theorem dJS_checkIndex_1 : decode cJS_checkIndex 1 = .ok (.iload_n 1, 1) := by decide +kernel
theorem dJS_checkIndex_2 : decode cJS_checkIndex 2 = .ok (.getstatic 1053, 3) := by decide +kernel
theorem dJS_checkIndex_5 : decode cJS_checkIndex 5 = .ok (.invokestatic 1059, 3) := by decide +kernel
theorem dJS_checkIndex_8 : decode cJS_checkIndex 8 = .ok (.pop, 1) := by decide +kernel
theorem dJS_checkIndex_9 : decode cJS_checkIndex 9 = .ok (.return_, 1) := by decide +kernel
theorem dJP_checkIndex_0 : decode cJP_checkIndex 0 = .ok (.iload_n 0, 1) := by decide +kernel
theorem dJP_checkIndex_1 : decode cJP_checkIndex 1 = .ok (.ifCond .lt 8, 3) := by decide +kernel
theorem dJP_checkIndex_4 : decode cJP_checkIndex 4 = .ok (.iload_n 0, 1) := by decide +kernel
theorem dJP_checkIndex_5 : decode cJP_checkIndex 5 = .ok (.iload_n 1, 1) := by decide +kernel
theorem dJP_checkIndex_6 : decode cJP_checkIndex 6 = .ok (.if_icmp .lt 10, 3) := by decide +kernel
theorem dJP_checkIndex_9 : decode cJP_checkIndex 9 = .ok (.aload_n 2, 1) := by decide +kernel
theorem dJP_checkIndex_10 : decode cJP_checkIndex 10 = .ok (.iload_n 0, 1) := by decide +kernel
theorem dJP_checkIndex_11 : decode cJP_checkIndex 11 = .ok (.iload_n 1, 1) := by decide +kernel
theorem dJP_checkIndex_12 : decode cJP_checkIndex 12 = .ok (.invokestatic 95, 3) := by decide +kernel
theorem dJP_checkIndex_15 : decode cJP_checkIndex 15 = .ok (.athrow, 1) := by decide +kernel
theorem dJP_checkIndex_16 : decode cJP_checkIndex 16 = .ok (.iload_n 0, 1) := by decide +kernel
theorem dJP_checkIndex_17 : decode cJP_checkIndex 17 = .ok (.ireturn, 1) := by decide +kernel
