theorem dX7_init_0 : decode cX7_init 0 = .ok (.aload_n 0, 1) := by decide +kernel
theorem dX7_init_1 : decode cX7_init 1 = .ok (.invokespecial 1, 3) := by decide +kernel
theorem dX7_init_4 : decode cX7_init 4 = .ok (.aload_n 0, 1) := by decide +kernel
theorem dX7_init_5 : decode cX7_init 5 = .ok (.sipush 1600, 3) := by decide +kernel
theorem dX7_init_8 : decode cX7_init 8 = .ok (.newarray .int, 2) := by decide +kernel
theorem dX7_init_10 : decode cX7_init 10 = .ok (.putfield 7, 3) := by decide +kernel
theorem dX7_init_13 : decode cX7_init 13 = .ok (.aload_n 0, 1) := by decide +kernel
theorem dX7_init_14 : decode cX7_init 14 = .ok (.sipush 1600, 3) := by decide +kernel
theorem dX7_init_17 : decode cX7_init 17 = .ok (.newarray .int, 2) := by decide +kernel
theorem dX7_init_19 : decode cX7_init 19 = .ok (.putfield 13, 3) := by decide +kernel
theorem dX7_init_22 : decode cX7_init 22 = .ok (.aload_n 0, 1) := by decide +kernel
theorem dX7_init_23 : decode cX7_init 23 = .ok (.sipush 1600, 3) := by decide +kernel
theorem dX7_init_26 : decode cX7_init 26 = .ok (.newarray .int, 2) := by decide +kernel
theorem dX7_init_28 : decode cX7_init 28 = .ok (.putfield 16, 3) := by decide +kernel
theorem dX7_init_31 : decode cX7_init 31 = .ok (.aload_n 0, 1) := by decide +kernel
theorem dX7_init_32 : decode cX7_init 32 = .ok (.sipush 320, 3) := by decide +kernel
theorem dX7_init_35 : decode cX7_init 35 = .ok (.newarray .int, 2) := by decide +kernel
theorem dX7_init_37 : decode cX7_init 37 = .ok (.putfield 19, 3) := by decide +kernel
theorem dX7_init_40 : decode cX7_init 40 = .ok (.aload_n 0, 1) := by decide +kernel
theorem dX7_init_41 : decode cX7_init 41 = .ok (.sipush 320, 3) := by decide +kernel
theorem dX7_init_44 : decode cX7_init 44 = .ok (.newarray .int, 2) := by decide +kernel
theorem dX7_init_46 : decode cX7_init 46 = .ok (.putfield 22, 3) := by decide +kernel
theorem dX7_init_49 : decode cX7_init 49 = .ok (.aload_n 0, 1) := by decide +kernel
theorem dX7_init_50 : decode cX7_init 50 = .ok (.sipush 320, 3) := by decide +kernel
theorem dX7_init_53 : decode cX7_init 53 = .ok (.newarray .int, 2) := by decide +kernel
theorem dX7_init_55 : decode cX7_init 55 = .ok (.putfield 25, 3) := by decide +kernel
theorem dX7_init_58 : decode cX7_init 58 = .ok (.aload_n 0, 1) := by decide +kernel
theorem dX7_init_59 : decode cX7_init 59 = .ok (.sipush 1600, 3) := by decide +kernel
theorem dX7_init_62 : decode cX7_init 62 = .ok (.newarray .int, 2) := by decide +kernel
theorem dX7_init_64 : decode cX7_init 64 = .ok (.putfield 28, 3) := by decide +kernel
theorem dX7_init_67 : decode cX7_init 67 = .ok (.aload_n 0, 1) := by decide +kernel
theorem dX7_init_68 : decode cX7_init 68 = .ok (.sipush 1600, 3) := by decide +kernel
theorem dX7_init_71 : decode cX7_init 71 = .ok (.newarray .int, 2) := by decide +kernel
theorem dX7_init_73 : decode cX7_init 73 = .ok (.putfield 31, 3) := by decide +kernel
theorem dX7_init_76 : decode cX7_init 76 = .ok (.return_, 1) := by decide +kernel
theorem dX7_thrown_0 : decode cX7_thrown 0 = .ok (.aload_n 0, 1) := by decide +kernel
theorem dX7_thrown_1 : decode cX7_thrown 1 = .ok (.getfield 34, 3) := by decide +kernel
theorem dX7_thrown_4 : decode cX7_thrown 4 = .ok (.ireturn, 1) := by decide +kernel
theorem dX7_bitsOf_0 : decode cX7_bitsOf 0 = .ok (.iload_n 0, 1) := by decide +kernel
theorem dX7_bitsOf_1 : decode cX7_bitsOf 1 = .ok (.ifCond .ne 8, 3) := by decide +kernel
theorem dX7_bitsOf_4 : decode cX7_bitsOf 4 = .ok (.bipush 64, 2) := by decide +kernel
theorem dX7_bitsOf_6 : decode cX7_bitsOf 6 = .ok (.goto 15, 3) := by decide +kernel
theorem dX7_bitsOf_9 : decode cX7_bitsOf 9 = .ok (.iload_n 0, 1) := by decide +kernel
theorem dX7_bitsOf_10 : decode cX7_bitsOf 10 = .ok (.iconst 1, 1) := by decide +kernel
theorem dX7_bitsOf_11 : decode cX7_bitsOf 11 = .ok (.if_icmp .ne 8, 3) := by decide +kernel
theorem dX7_bitsOf_14 : decode cX7_bitsOf 14 = .ok (.bipush 32, 2) := by decide +kernel
theorem dX7_bitsOf_16 : decode cX7_bitsOf 16 = .ok (.goto 5, 3) := by decide +kernel
theorem dX7_bitsOf_19 : decode cX7_bitsOf 19 = .ok (.bipush 16, 2) := by decide +kernel
theorem dX7_bitsOf_21 : decode cX7_bitsOf 21 = .ok (.ireturn, 1) := by decide +kernel
theorem dX7_precision_0 : decode cX7_precision 0 = .ok (.iload_n 0, 1) := by decide +kernel
theorem dX7_precision_1 : decode cX7_precision 1 = .ok (.ifCond .ne 8, 3) := by decide +kernel
theorem dX7_precision_4 : decode cX7_precision 4 = .ok (.bipush 53, 2) := by decide +kernel
theorem dX7_precision_6 : decode cX7_precision 6 = .ok (.goto 25, 3) := by decide +kernel
theorem dX7_precision_9 : decode cX7_precision 9 = .ok (.iload_n 0, 1) := by decide +kernel
theorem dX7_precision_10 : decode cX7_precision 10 = .ok (.iconst 1, 1) := by decide +kernel
theorem dX7_precision_11 : decode cX7_precision 11 = .ok (.if_icmp .ne 8, 3) := by decide +kernel
theorem dX7_precision_14 : decode cX7_precision 14 = .ok (.bipush 24, 2) := by decide +kernel
theorem dX7_precision_16 : decode cX7_precision 16 = .ok (.goto 15, 3) := by decide +kernel
theorem dX7_precision_19 : decode cX7_precision 19 = .ok (.iload_n 0, 1) := by decide +kernel
theorem dX7_precision_20 : decode cX7_precision 20 = .ok (.iconst 2, 1) := by decide +kernel
theorem dX7_precision_21 : decode cX7_precision 21 = .ok (.if_icmp .ne 8, 3) := by decide +kernel
theorem dX7_precision_24 : decode cX7_precision 24 = .ok (.bipush 11, 2) := by decide +kernel
theorem dX7_precision_26 : decode cX7_precision 26 = .ok (.goto 5, 3) := by decide +kernel
theorem dX7_precision_29 : decode cX7_precision 29 = .ok (.bipush 8, 2) := by decide +kernel
theorem dX7_precision_31 : decode cX7_precision 31 = .ok (.ireturn, 1) := by decide +kernel
theorem dX7_greatest_0 : decode cX7_greatest 0 = .ok (.iload_n 0, 1) := by decide +kernel
theorem dX7_greatest_1 : decode cX7_greatest 1 = .ok (.ifCond .ne 9, 3) := by decide +kernel
theorem dX7_greatest_4 : decode cX7_greatest 4 = .ok (.sipush 1023, 3) := by decide +kernel
theorem dX7_greatest_7 : decode cX7_greatest 7 = .ok (.goto 15, 3) := by decide +kernel
theorem dX7_greatest_10 : decode cX7_greatest 10 = .ok (.iload_n 0, 1) := by decide +kernel
theorem dX7_greatest_11 : decode cX7_greatest 11 = .ok (.iconst 2, 1) := by decide +kernel
theorem dX7_greatest_12 : decode cX7_greatest 12 = .ok (.if_icmp .ne 8, 3) := by decide +kernel
theorem dX7_greatest_15 : decode cX7_greatest 15 = .ok (.bipush 15, 2) := by decide +kernel
theorem dX7_greatest_17 : decode cX7_greatest 17 = .ok (.goto 5, 3) := by decide +kernel
theorem dX7_greatest_20 : decode cX7_greatest 20 = .ok (.bipush 127, 2) := by decide +kernel
theorem dX7_greatest_22 : decode cX7_greatest 22 = .ok (.ireturn, 1) := by decide +kernel
theorem dX7_least_0 : decode cX7_least 0 = .ok (.iconst 2, 1) := by decide +kernel
theorem dX7_least_1 : decode cX7_least 1 = .ok (.iload_n 0, 1) := by decide +kernel
theorem dX7_least_2 : decode cX7_least 2 = .ok (.invokestatic 38, 3) := by decide +kernel
theorem dX7_least_5 : decode cX7_least 5 = .ok (.isub, 1) := by decide +kernel
theorem dX7_least_6 : decode cX7_least 6 = .ok (.iload_n 0, 1) := by decide +kernel
theorem dX7_least_7 : decode cX7_least 7 = .ok (.invokestatic 42, 3) := by decide +kernel
theorem dX7_least_10 : decode cX7_least 10 = .ok (.isub, 1) := by decide +kernel
theorem dX7_least_11 : decode cX7_least 11 = .ok (.ireturn, 1) := by decide +kernel
theorem dX7_infinite_0 : decode cX7_infinite 0 = .ok (.ldc2_w 45, 3) := by decide +kernel
theorem dX7_infinite_3 : decode cX7_infinite 3 = .ok (.iload_n 0, 1) := by decide +kernel
theorem dX7_infinite_4 : decode cX7_infinite 4 = .ok (.invokestatic 38, 3) := by decide +kernel
theorem dX7_infinite_7 : decode cX7_infinite 7 = .ok (.i2l, 1) := by decide +kernel
theorem dX7_infinite_8 : decode cX7_infinite 8 = .ok (.lmul, 1) := by decide +kernel
theorem dX7_infinite_9 : decode cX7_infinite 9 = .ok (.lconst 1, 1) := by decide +kernel
theorem dX7_infinite_10 : decode cX7_infinite 10 = .ok (.ladd, 1) := by decide +kernel
theorem dX7_infinite_11 : decode cX7_infinite 11 = .ok (.iload_n 0, 1) := by decide +kernel
theorem dX7_infinite_12 : decode cX7_infinite 12 = .ok (.invokestatic 42, 3) := by decide +kernel
theorem dX7_infinite_15 : decode cX7_infinite 15 = .ok (.iconst 1, 1) := by decide +kernel
theorem dX7_infinite_16 : decode cX7_infinite 16 = .ok (.isub, 1) := by decide +kernel
theorem dX7_infinite_17 : decode cX7_infinite 17 = .ok (.lshl, 1) := by decide +kernel
theorem dX7_infinite_18 : decode cX7_infinite 18 = .ok (.lreturn, 1) := by decide +kernel
theorem dX7_signBit_0 : decode cX7_signBit 0 = .ok (.lconst 1, 1) := by decide +kernel
theorem dX7_signBit_1 : decode cX7_signBit 1 = .ok (.iload_n 0, 1) := by decide +kernel
theorem dX7_signBit_2 : decode cX7_signBit 2 = .ok (.invokestatic 47, 3) := by decide +kernel
theorem dX7_signBit_5 : decode cX7_signBit 5 = .ok (.iconst 1, 1) := by decide +kernel
theorem dX7_signBit_6 : decode cX7_signBit 6 = .ok (.isub, 1) := by decide +kernel
theorem dX7_signBit_7 : decode cX7_signBit 7 = .ok (.lshl, 1) := by decide +kernel
theorem dX7_signBit_8 : decode cX7_signBit 8 = .ok (.lreturn, 1) := by decide +kernel
theorem dX7_in_0 : decode cX7_in 0 = .ok (.lload_n 0, 1) := by decide +kernel
theorem dX7_in_1 : decode cX7_in 1 = .ok (.lload_n 2, 1) := by decide +kernel
theorem dX7_in_2 : decode cX7_in 2 = .ok (.lcmp, 1) := by decide +kernel
theorem dX7_in_3 : decode cX7_in 3 = .ok (.ifCond .lt 14, 3) := by decide +kernel
theorem dX7_in_6 : decode cX7_in 6 = .ok (.lload_n 0, 1) := by decide +kernel
theorem dX7_in_7 : decode cX7_in 7 = .ok (.lload 4, 2) := by decide +kernel
theorem dX7_in_9 : decode cX7_in 9 = .ok (.lcmp, 1) := by decide +kernel
theorem dX7_in_10 : decode cX7_in 10 = .ok (.ifCond .gt 7, 3) := by decide +kernel
theorem dX7_in_13 : decode cX7_in 13 = .ok (.iconst 1, 1) := by decide +kernel
theorem dX7_in_14 : decode cX7_in 14 = .ok (.goto 4, 3) := by decide +kernel
theorem dX7_in_17 : decode cX7_in 17 = .ok (.iconst 0, 1) := by decide +kernel
theorem dX7_in_18 : decode cX7_in 18 = .ok (.ireturn, 1) := by decide +kernel
theorem dX7_isPattern_0 : decode cX7_isPattern 0 = .ok (.iload_n 0, 1) := by decide +kernel
theorem dX7_isPattern_1 : decode cX7_isPattern 1 = .ok (.i2l, 1) := by decide +kernel
theorem dX7_isPattern_2 : decode cX7_isPattern 2 = .ok (.lconst 0, 1) := by decide +kernel
theorem dX7_isPattern_3 : decode cX7_isPattern 3 = .ok (.ldc2_w 50, 3) := by decide +kernel
theorem dX7_isPattern_6 : decode cX7_isPattern 6 = .ok (.invokestatic 52, 3) := by decide +kernel
theorem dX7_isPattern_9 : decode cX7_isPattern 9 = .ok (.ifCond .eq 22, 3) := by decide +kernel
theorem dX7_isPattern_12 : decode cX7_isPattern 12 = .ok (.iload_n 0, 1) := by decide +kernel
theorem dX7_isPattern_13 : decode cX7_isPattern 13 = .ok (.ifCond .eq 14, 3) := by decide +kernel
theorem dX7_isPattern_16 : decode cX7_isPattern 16 = .ok (.lload_n 1, 1) := by decide +kernel
theorem dX7_isPattern_17 : decode cX7_isPattern 17 = .ok (.iload_n 0, 1) := by decide +kernel
theorem dX7_isPattern_18 : decode cX7_isPattern 18 = .ok (.invokestatic 47, 3) := by decide +kernel
theorem dX7_isPattern_21 : decode cX7_isPattern 21 = .ok (.lushr, 1) := by decide +kernel
theorem dX7_isPattern_22 : decode cX7_isPattern 22 = .ok (.lconst 0, 1) := by decide +kernel
theorem dX7_isPattern_23 : decode cX7_isPattern 23 = .ok (.lcmp, 1) := by decide +kernel
theorem dX7_isPattern_24 : decode cX7_isPattern 24 = .ok (.ifCond .ne 7, 3) := by decide +kernel
theorem dX7_isPattern_27 : decode cX7_isPattern 27 = .ok (.iconst 1, 1) := by decide +kernel
theorem dX7_isPattern_28 : decode cX7_isPattern 28 = .ok (.goto 4, 3) := by decide +kernel
theorem dX7_isPattern_31 : decode cX7_isPattern 31 = .ok (.iconst 0, 1) := by decide +kernel
theorem dX7_isPattern_32 : decode cX7_isPattern 32 = .ok (.ireturn, 1) := by decide +kernel
theorem dX7_sizeOf_0 : decode cX7_sizeOf 0 = .ok (.lload_n 1, 1) := by decide +kernel
theorem dX7_sizeOf_1 : decode cX7_sizeOf 1 = .ok (.iload_n 0, 1) := by decide +kernel
theorem dX7_sizeOf_2 : decode cX7_sizeOf 2 = .ok (.invokestatic 56, 3) := by decide +kernel
theorem dX7_sizeOf_5 : decode cX7_sizeOf 5 = .ok (.lconst 1, 1) := by decide +kernel
theorem dX7_sizeOf_6 : decode cX7_sizeOf 6 = .ok (.lsub, 1) := by decide +kernel
theorem dX7_sizeOf_7 : decode cX7_sizeOf 7 = .ok (.land, 1) := by decide +kernel
theorem dX7_sizeOf_8 : decode cX7_sizeOf 8 = .ok (.lreturn, 1) := by decide +kernel
theorem dX7_isMinus_0 : decode cX7_isMinus 0 = .ok (.lload_n 1, 1) := by decide +kernel
theorem dX7_isMinus_1 : decode cX7_isMinus 1 = .ok (.iload_n 0, 1) := by decide +kernel
theorem dX7_isMinus_2 : decode cX7_isMinus 2 = .ok (.invokestatic 56, 3) := by decide +kernel
theorem dX7_isMinus_5 : decode cX7_isMinus 5 = .ok (.land, 1) := by decide +kernel
theorem dX7_isMinus_6 : decode cX7_isMinus 6 = .ok (.lconst 0, 1) := by decide +kernel
theorem dX7_isMinus_7 : decode cX7_isMinus 7 = .ok (.lcmp, 1) := by decide +kernel
theorem dX7_isMinus_8 : decode cX7_isMinus 8 = .ok (.ifCond .eq 7, 3) := by decide +kernel
theorem dX7_isMinus_11 : decode cX7_isMinus 11 = .ok (.iconst 1, 1) := by decide +kernel
theorem dX7_isMinus_12 : decode cX7_isMinus 12 = .ok (.goto 4, 3) := by decide +kernel
theorem dX7_isMinus_15 : decode cX7_isMinus 15 = .ok (.iconst 0, 1) := by decide +kernel
theorem dX7_isMinus_16 : decode cX7_isMinus 16 = .ok (.ireturn, 1) := by decide +kernel
theorem dX7_isNan_0 : decode cX7_isNan 0 = .ok (.iload_n 0, 1) := by decide +kernel
theorem dX7_isNan_1 : decode cX7_isNan 1 = .ok (.lload_n 1, 1) := by decide +kernel
theorem dX7_isNan_2 : decode cX7_isNan 2 = .ok (.invokestatic 60, 3) := by decide +kernel
theorem dX7_isNan_5 : decode cX7_isNan 5 = .ok (.iload_n 0, 1) := by decide +kernel
theorem dX7_isNan_6 : decode cX7_isNan 6 = .ok (.invokestatic 64, 3) := by decide +kernel
theorem dX7_isNan_9 : decode cX7_isNan 9 = .ok (.lcmp, 1) := by decide +kernel
theorem dX7_isNan_10 : decode cX7_isNan 10 = .ok (.ifCond .le 7, 3) := by decide +kernel
theorem dX7_isNan_13 : decode cX7_isNan 13 = .ok (.iconst 1, 1) := by decide +kernel
theorem dX7_isNan_14 : decode cX7_isNan 14 = .ok (.goto 4, 3) := by decide +kernel
theorem dX7_isNan_17 : decode cX7_isNan 17 = .ok (.iconst 0, 1) := by decide +kernel
theorem dX7_isNan_18 : decode cX7_isNan 18 = .ok (.ireturn, 1) := by decide +kernel
theorem dX7_isFinite_0 : decode cX7_isFinite 0 = .ok (.iload_n 0, 1) := by decide +kernel
theorem dX7_isFinite_1 : decode cX7_isFinite 1 = .ok (.lload_n 1, 1) := by decide +kernel
theorem dX7_isFinite_2 : decode cX7_isFinite 2 = .ok (.invokestatic 60, 3) := by decide +kernel
theorem dX7_isFinite_5 : decode cX7_isFinite 5 = .ok (.iload_n 0, 1) := by decide +kernel
theorem dX7_isFinite_6 : decode cX7_isFinite 6 = .ok (.invokestatic 64, 3) := by decide +kernel
theorem dX7_isFinite_9 : decode cX7_isFinite 9 = .ok (.lcmp, 1) := by decide +kernel
theorem dX7_isFinite_10 : decode cX7_isFinite 10 = .ok (.ifCond .ge 7, 3) := by decide +kernel
theorem dX7_isFinite_13 : decode cX7_isFinite 13 = .ok (.iconst 1, 1) := by decide +kernel
theorem dX7_isFinite_14 : decode cX7_isFinite 14 = .ok (.goto 4, 3) := by decide +kernel
theorem dX7_isFinite_17 : decode cX7_isFinite 17 = .ok (.iconst 0, 1) := by decide +kernel
theorem dX7_isFinite_18 : decode cX7_isFinite 18 = .ok (.ireturn, 1) := by decide +kernel
theorem dX7_split_0 : decode cX7_split 0 = .ok (.iload_n 1, 1) := by decide +kernel
theorem dX7_split_1 : decode cX7_split 1 = .ok (.invokestatic 42, 3) := by decide +kernel
theorem dX7_split_4 : decode cX7_split 4 = .ok (.iconst 1, 1) := by decide +kernel
theorem dX7_split_5 : decode cX7_split 5 = .ok (.isub, 1) := by decide +kernel
theorem dX7_split_6 : decode cX7_split 6 = .ok (.istore 4, 2) := by decide +kernel
theorem dX7_split_8 : decode cX7_split 8 = .ok (.lload_n 2, 1) := by decide +kernel
theorem dX7_split_9 : decode cX7_split 9 = .ok (.iload 4, 2) := by decide +kernel
theorem dX7_split_11 : decode cX7_split 11 = .ok (.lushr, 1) := by decide +kernel
theorem dX7_split_12 : decode cX7_split 12 = .ok (.lstore 5, 2) := by decide +kernel
theorem dX7_split_14 : decode cX7_split 14 = .ok (.lload_n 2, 1) := by decide +kernel
theorem dX7_split_15 : decode cX7_split 15 = .ok (.lconst 1, 1) := by decide +kernel
theorem dX7_split_16 : decode cX7_split 16 = .ok (.iload 4, 2) := by decide +kernel
theorem dX7_split_18 : decode cX7_split 18 = .ok (.lshl, 1) := by decide +kernel
theorem dX7_split_19 : decode cX7_split 19 = .ok (.lconst 1, 1) := by decide +kernel
theorem dX7_split_20 : decode cX7_split 20 = .ok (.lsub, 1) := by decide +kernel
theorem dX7_split_21 : decode cX7_split 21 = .ok (.land, 1) := by decide +kernel
theorem dX7_split_22 : decode cX7_split 22 = .ok (.lstore 7, 2) := by decide +kernel
theorem dX7_split_24 : decode cX7_split 24 = .ok (.aload_n 0, 1) := by decide +kernel
theorem dX7_split_25 : decode cX7_split 25 = .ok (.lload 5, 2) := by decide +kernel
theorem dX7_split_27 : decode cX7_split 27 = .ok (.lconst 0, 1) := by decide +kernel
theorem dX7_split_28 : decode cX7_split 28 = .ok (.lcmp, 1) := by decide +kernel
theorem dX7_split_29 : decode cX7_split 29 = .ok (.ifCond .ne 8, 3) := by decide +kernel
theorem dX7_split_32 : decode cX7_split 32 = .ok (.lload 7, 2) := by decide +kernel
theorem dX7_split_34 : decode cX7_split 34 = .ok (.goto 10, 3) := by decide +kernel
theorem dX7_split_37 : decode cX7_split 37 = .ok (.lload 7, 2) := by decide +kernel
theorem dX7_split_39 : decode cX7_split 39 = .ok (.lconst 1, 1) := by decide +kernel
theorem dX7_split_40 : decode cX7_split 40 = .ok (.iload 4, 2) := by decide +kernel
theorem dX7_split_42 : decode cX7_split 42 = .ok (.lshl, 1) := by decide +kernel
theorem dX7_split_43 : decode cX7_split 43 = .ok (.lor, 1) := by decide +kernel
theorem dX7_split_44 : decode cX7_split 44 = .ok (.putfield 67, 3) := by decide +kernel
theorem dX7_split_47 : decode cX7_split 47 = .ok (.aload_n 0, 1) := by decide +kernel
theorem dX7_split_48 : decode cX7_split 48 = .ok (.iload_n 1, 1) := by decide +kernel
theorem dX7_split_49 : decode cX7_split 49 = .ok (.invokestatic 71, 3) := by decide +kernel
theorem dX7_split_52 : decode cX7_split 52 = .ok (.lload 5, 2) := by decide +kernel
theorem dX7_split_54 : decode cX7_split 54 = .ok (.lconst 0, 1) := by decide +kernel
theorem dX7_split_55 : decode cX7_split 55 = .ok (.lcmp, 1) := by decide +kernel
theorem dX7_split_56 : decode cX7_split 56 = .ok (.ifCond .ne 7, 3) := by decide +kernel
theorem dX7_split_59 : decode cX7_split 59 = .ok (.iconst 0, 1) := by decide +kernel
theorem dX7_split_60 : decode cX7_split 60 = .ok (.goto 8, 3) := by decide +kernel
theorem dX7_split_63 : decode cX7_split 63 = .ok (.lload 5, 2) := by decide +kernel
theorem dX7_split_65 : decode cX7_split 65 = .ok (.l2i, 1) := by decide +kernel
theorem dX7_split_66 : decode cX7_split 66 = .ok (.iconst 1, 1) := by decide +kernel
theorem dX7_split_67 : decode cX7_split 67 = .ok (.isub, 1) := by decide +kernel
theorem dX7_split_68 : decode cX7_split 68 = .ok (.iadd, 1) := by decide +kernel
theorem dX7_split_69 : decode cX7_split 69 = .ok (.putfield 74, 3) := by decide +kernel
theorem dX7_split_72 : decode cX7_split 72 = .ok (.return_, 1) := by decide +kernel
theorem dX7_refuses_0 : decode cX7_refuses 0 = .ok (.aload_n 0, 1) := by decide +kernel
theorem dX7_refuses_1 : decode cX7_refuses 1 = .ok (.iload_n 1, 1) := by decide +kernel
theorem dX7_refuses_2 : decode cX7_refuses 2 = .ok (.ifCond .eq 7, 3) := by decide +kernel
theorem dX7_refuses_5 : decode cX7_refuses 5 = .ok (.iconst 0, 1) := by decide +kernel
theorem dX7_refuses_6 : decode cX7_refuses 6 = .ok (.goto 4, 3) := by decide +kernel
theorem dX7_refuses_9 : decode cX7_refuses 9 = .ok (.iconst 1, 1) := by decide +kernel
theorem dX7_refuses_10 : decode cX7_refuses 10 = .ok (.putfield 34, 3) := by decide +kernel
theorem dX7_refuses_13 : decode cX7_refuses 13 = .ok (.iload_n 1, 1) := by decide +kernel
theorem dX7_refuses_14 : decode cX7_refuses 14 = .ok (.ifCond .ne 7, 3) := by decide +kernel
theorem dX7_refuses_17 : decode cX7_refuses 17 = .ok (.iconst 1, 1) := by decide +kernel
theorem dX7_refuses_18 : decode cX7_refuses 18 = .ok (.goto 4, 3) := by decide +kernel
theorem dX7_refuses_21 : decode cX7_refuses 21 = .ok (.iconst 0, 1) := by decide +kernel
theorem dX7_refuses_22 : decode cX7_refuses 22 = .ok (.ireturn, 1) := by decide +kernel
theorem dX7_zero_0 : decode cX7_zero 0 = .ok (.iconst 0, 1) := by decide +kernel
theorem dX7_zero_1 : decode cX7_zero 1 = .ok (.istore_n 1, 1) := by decide +kernel
theorem dX7_zero_2 : decode cX7_zero 2 = .ok (.iload_n 1, 1) := by decide +kernel
theorem dX7_zero_3 : decode cX7_zero 3 = .ok (.sipush 320, 3) := by decide +kernel
theorem dX7_zero_6 : decode cX7_zero 6 = .ok (.if_icmp .ge 13, 3) := by decide +kernel
theorem dX7_zero_9 : decode cX7_zero 9 = .ok (.aload_n 0, 1) := by decide +kernel
theorem dX7_zero_10 : decode cX7_zero 10 = .ok (.iload_n 1, 1) := by decide +kernel
theorem dX7_zero_11 : decode cX7_zero 11 = .ok (.iconst 0, 1) := by decide +kernel
theorem dX7_zero_12 : decode cX7_zero 12 = .ok (.iastore, 1) := by decide +kernel
theorem dX7_zero_13 : decode cX7_zero 13 = .ok (.iinc 1 1, 3) := by decide +kernel
theorem dX7_zero_16 : decode cX7_zero 16 = .ok (.goto (-14), 3) := by decide +kernel
theorem dX7_zero_19 : decode cX7_zero 19 = .ok (.return_, 1) := by decide +kernel
theorem dX7_set_0 : decode cX7_set 0 = .ok (.aload_n 0, 1) := by decide +kernel
theorem dX7_set_1 : decode cX7_set 1 = .ok (.invokestatic 77, 3) := by decide +kernel
theorem dX7_set_4 : decode cX7_set 4 = .ok (.aload_n 0, 1) := by decide +kernel
theorem dX7_set_5 : decode cX7_set 5 = .ok (.iconst 0, 1) := by decide +kernel
theorem dX7_set_6 : decode cX7_set 6 = .ok (.lload_n 1, 1) := by decide +kernel
theorem dX7_set_7 : decode cX7_set 7 = .ok (.ldc2_w 81, 3) := by decide +kernel
theorem dX7_set_10 : decode cX7_set 10 = .ok (.land, 1) := by decide +kernel
theorem dX7_set_11 : decode cX7_set 11 = .ok (.l2i, 1) := by decide +kernel
theorem dX7_set_12 : decode cX7_set 12 = .ok (.iastore, 1) := by decide +kernel
theorem dX7_set_13 : decode cX7_set 13 = .ok (.aload_n 0, 1) := by decide +kernel
theorem dX7_set_14 : decode cX7_set 14 = .ok (.iconst 1, 1) := by decide +kernel
theorem dX7_set_15 : decode cX7_set 15 = .ok (.lload_n 1, 1) := by decide +kernel
theorem dX7_set_16 : decode cX7_set 16 = .ok (.bipush 30, 2) := by decide +kernel
theorem dX7_set_18 : decode cX7_set 18 = .ok (.lushr, 1) := by decide +kernel
theorem dX7_set_19 : decode cX7_set 19 = .ok (.ldc2_w 81, 3) := by decide +kernel
theorem dX7_set_22 : decode cX7_set 22 = .ok (.land, 1) := by decide +kernel
theorem dX7_set_23 : decode cX7_set 23 = .ok (.l2i, 1) := by decide +kernel
theorem dX7_set_24 : decode cX7_set 24 = .ok (.iastore, 1) := by decide +kernel
theorem dX7_set_25 : decode cX7_set 25 = .ok (.aload_n 0, 1) := by decide +kernel
theorem dX7_set_26 : decode cX7_set 26 = .ok (.iconst 2, 1) := by decide +kernel
theorem dX7_set_27 : decode cX7_set 27 = .ok (.lload_n 1, 1) := by decide +kernel
theorem dX7_set_28 : decode cX7_set 28 = .ok (.bipush 60, 2) := by decide +kernel
theorem dX7_set_30 : decode cX7_set 30 = .ok (.lushr, 1) := by decide +kernel
theorem dX7_set_31 : decode cX7_set 31 = .ok (.l2i, 1) := by decide +kernel
theorem dX7_set_32 : decode cX7_set 32 = .ok (.iastore, 1) := by decide +kernel
theorem dX7_set_33 : decode cX7_set 33 = .ok (.return_, 1) := by decide +kernel
theorem dX7_grow_0 : decode cX7_grow 0 = .ok (.iload_n 2, 1) := by decide +kernel
theorem dX7_grow_1 : decode cX7_grow 1 = .ok (.i2l, 1) := by decide +kernel
theorem dX7_grow_2 : decode cX7_grow 2 = .ok (.lstore_n 3, 1) := by decide +kernel
theorem dX7_grow_3 : decode cX7_grow 3 = .ok (.iconst 0, 1) := by decide +kernel
theorem dX7_grow_4 : decode cX7_grow 4 = .ok (.istore 5, 2) := by decide +kernel
theorem dX7_grow_6 : decode cX7_grow 6 = .ok (.iload 5, 2) := by decide +kernel
theorem dX7_grow_8 : decode cX7_grow 8 = .ok (.sipush 320, 3) := by decide +kernel
theorem dX7_grow_11 : decode cX7_grow 11 = .ok (.if_icmp .ge 38, 3) := by decide +kernel
theorem dX7_grow_14 : decode cX7_grow 14 = .ok (.aload_n 0, 1) := by decide +kernel
theorem dX7_grow_15 : decode cX7_grow 15 = .ok (.iload 5, 2) := by decide +kernel
theorem dX7_grow_17 : decode cX7_grow 17 = .ok (.iaload, 1) := by decide +kernel
theorem dX7_grow_18 : decode cX7_grow 18 = .ok (.i2l, 1) := by decide +kernel
theorem dX7_grow_19 : decode cX7_grow 19 = .ok (.iload_n 1, 1) := by decide +kernel
theorem dX7_grow_20 : decode cX7_grow 20 = .ok (.i2l, 1) := by decide +kernel
theorem dX7_grow_21 : decode cX7_grow 21 = .ok (.lmul, 1) := by decide +kernel
theorem dX7_grow_22 : decode cX7_grow 22 = .ok (.lload_n 3, 1) := by decide +kernel
theorem dX7_grow_23 : decode cX7_grow 23 = .ok (.ladd, 1) := by decide +kernel
theorem dX7_grow_24 : decode cX7_grow 24 = .ok (.lstore 6, 2) := by decide +kernel
theorem dX7_grow_26 : decode cX7_grow 26 = .ok (.aload_n 0, 1) := by decide +kernel
theorem dX7_grow_27 : decode cX7_grow 27 = .ok (.iload 5, 2) := by decide +kernel
theorem dX7_grow_29 : decode cX7_grow 29 = .ok (.lload 6, 2) := by decide +kernel
theorem dX7_grow_31 : decode cX7_grow 31 = .ok (.ldc2_w 81, 3) := by decide +kernel
theorem dX7_grow_34 : decode cX7_grow 34 = .ok (.land, 1) := by decide +kernel
theorem dX7_grow_35 : decode cX7_grow 35 = .ok (.l2i, 1) := by decide +kernel
theorem dX7_grow_36 : decode cX7_grow 36 = .ok (.iastore, 1) := by decide +kernel
theorem dX7_grow_37 : decode cX7_grow 37 = .ok (.lload 6, 2) := by decide +kernel
theorem dX7_grow_39 : decode cX7_grow 39 = .ok (.bipush 30, 2) := by decide +kernel
theorem dX7_grow_41 : decode cX7_grow 41 = .ok (.lshr, 1) := by decide +kernel
theorem dX7_grow_42 : decode cX7_grow 42 = .ok (.lstore_n 3, 1) := by decide +kernel
theorem dX7_grow_43 : decode cX7_grow 43 = .ok (.iinc 5 1, 3) := by decide +kernel
theorem dX7_grow_46 : decode cX7_grow 46 = .ok (.goto (-40), 3) := by decide +kernel
theorem dX7_grow_49 : decode cX7_grow 49 = .ok (.return_, 1) := by decide +kernel
theorem dX7_tens_0 : decode cX7_tens 0 = .ok (.iload_n 1, 1) := by decide +kernel
theorem dX7_tens_1 : decode cX7_tens 1 = .ok (.istore_n 2, 1) := by decide +kernel
theorem dX7_tens_2 : decode cX7_tens 2 = .ok (.iload_n 2, 1) := by decide +kernel
theorem dX7_tens_3 : decode cX7_tens 3 = .ok (.bipush 9, 2) := by decide +kernel
theorem dX7_tens_5 : decode cX7_tens 5 = .ok (.if_icmp .lt 16, 3) := by decide +kernel
theorem dX7_tens_8 : decode cX7_tens 8 = .ok (.aload_n 0, 1) := by decide +kernel
theorem dX7_tens_9 : decode cX7_tens 9 = .ok (.ldc 83, 2) := by decide +kernel
theorem dX7_tens_11 : decode cX7_tens 11 = .ok (.iconst 0, 1) := by decide +kernel
theorem dX7_tens_12 : decode cX7_tens 12 = .ok (.invokestatic 84, 3) := by decide +kernel
theorem dX7_tens_15 : decode cX7_tens 15 = .ok (.iinc 2 (-9), 3) := by decide +kernel
theorem dX7_tens_18 : decode cX7_tens 18 = .ok (.goto (-16), 3) := by decide +kernel
theorem dX7_tens_21 : decode cX7_tens 21 = .ok (.iload_n 2, 1) := by decide +kernel
theorem dX7_tens_22 : decode cX7_tens 22 = .ok (.ifCond .le 16, 3) := by decide +kernel
theorem dX7_tens_25 : decode cX7_tens 25 = .ok (.aload_n 0, 1) := by decide +kernel
theorem dX7_tens_26 : decode cX7_tens 26 = .ok (.bipush 10, 2) := by decide +kernel
theorem dX7_tens_28 : decode cX7_tens 28 = .ok (.iconst 0, 1) := by decide +kernel
theorem dX7_tens_29 : decode cX7_tens 29 = .ok (.invokestatic 84, 3) := by decide +kernel
theorem dX7_tens_32 : decode cX7_tens 32 = .ok (.iinc 2 (-1), 3) := by decide +kernel
theorem dX7_tens_35 : decode cX7_tens 35 = .ok (.goto (-14), 3) := by decide +kernel
theorem dX7_tens_38 : decode cX7_tens 38 = .ok (.return_, 1) := by decide +kernel
theorem dX7_length_0 : decode cX7_length 0 = .ok (.sipush 319, 3) := by decide +kernel
theorem dX7_length_3 : decode cX7_length 3 = .ok (.istore_n 1, 1) := by decide +kernel
theorem dX7_length_4 : decode cX7_length 4 = .ok (.iload_n 1, 1) := by decide +kernel
theorem dX7_length_5 : decode cX7_length 5 = .ok (.ifCond .lt 15, 3) := by decide +kernel
theorem dX7_length_8 : decode cX7_length 8 = .ok (.aload_n 0, 1) := by decide +kernel
theorem dX7_length_9 : decode cX7_length 9 = .ok (.iload_n 1, 1) := by decide +kernel
theorem dX7_length_10 : decode cX7_length 10 = .ok (.iaload, 1) := by decide +kernel
theorem dX7_length_11 : decode cX7_length 11 = .ok (.ifCond .ne 9, 3) := by decide +kernel
theorem dX7_length_14 : decode cX7_length 14 = .ok (.iinc 1 (-1), 3) := by decide +kernel
theorem dX7_length_17 : decode cX7_length 17 = .ok (.goto (-13), 3) := by decide +kernel
theorem dX7_length_20 : decode cX7_length 20 = .ok (.iload_n 1, 1) := by decide +kernel
theorem dX7_length_21 : decode cX7_length 21 = .ok (.ifCond .ge 5, 3) := by decide +kernel
theorem dX7_length_24 : decode cX7_length 24 = .ok (.iconst 0, 1) := by decide +kernel
theorem dX7_length_25 : decode cX7_length 25 = .ok (.ireturn, 1) := by decide +kernel
theorem dX7_length_26 : decode cX7_length 26 = .ok (.iconst 0, 1) := by decide +kernel
theorem dX7_length_27 : decode cX7_length 27 = .ok (.istore_n 2, 1) := by decide +kernel
theorem dX7_length_28 : decode cX7_length 28 = .ok (.iload_n 2, 1) := by decide +kernel
theorem dX7_length_29 : decode cX7_length 29 = .ok (.bipush 30, 2) := by decide +kernel
theorem dX7_length_31 : decode cX7_length 31 = .ok (.if_icmp .ge 17, 3) := by decide +kernel
theorem dX7_length_34 : decode cX7_length 34 = .ok (.aload_n 0, 1) := by decide +kernel
theorem dX7_length_35 : decode cX7_length 35 = .ok (.iload_n 1, 1) := by decide +kernel
theorem dX7_length_36 : decode cX7_length 36 = .ok (.iaload, 1) := by decide +kernel
theorem dX7_length_37 : decode cX7_length 37 = .ok (.iload_n 2, 1) := by decide +kernel
theorem dX7_length_38 : decode cX7_length 38 = .ok (.ishr, 1) := by decide +kernel
theorem dX7_length_39 : decode cX7_length 39 = .ok (.ifCond .eq 9, 3) := by decide +kernel
theorem dX7_length_42 : decode cX7_length 42 = .ok (.iinc 2 1, 3) := by decide +kernel
theorem dX7_length_45 : decode cX7_length 45 = .ok (.goto (-17), 3) := by decide +kernel
theorem dX7_length_48 : decode cX7_length 48 = .ok (.bipush 30, 2) := by decide +kernel
theorem dX7_length_50 : decode cX7_length 50 = .ok (.iload_n 1, 1) := by decide +kernel
theorem dX7_length_51 : decode cX7_length 51 = .ok (.imul, 1) := by decide +kernel
theorem dX7_length_52 : decode cX7_length 52 = .ok (.iload_n 2, 1) := by decide +kernel
theorem dX7_length_53 : decode cX7_length 53 = .ok (.iadd, 1) := by decide +kernel
theorem dX7_length_54 : decode cX7_length 54 = .ok (.ireturn, 1) := by decide +kernel
theorem dX7_left_0 : decode cX7_left 0 = .ok (.iload_n 1, 1) := by decide +kernel
theorem dX7_left_1 : decode cX7_left 1 = .ok (.bipush 30, 2) := by decide +kernel
theorem dX7_left_3 : decode cX7_left 3 = .ok (.idiv, 1) := by decide +kernel
theorem dX7_left_4 : decode cX7_left 4 = .ok (.istore_n 2, 1) := by decide +kernel
theorem dX7_left_5 : decode cX7_left 5 = .ok (.iload_n 1, 1) := by decide +kernel
theorem dX7_left_6 : decode cX7_left 6 = .ok (.bipush 30, 2) := by decide +kernel
theorem dX7_left_8 : decode cX7_left 8 = .ok (.irem, 1) := by decide +kernel
theorem dX7_left_9 : decode cX7_left 9 = .ok (.istore_n 3, 1) := by decide +kernel
theorem dX7_left_10 : decode cX7_left 10 = .ok (.sipush 319, 3) := by decide +kernel
theorem dX7_left_13 : decode cX7_left 13 = .ok (.istore 4, 2) := by decide +kernel
theorem dX7_left_15 : decode cX7_left 15 = .ok (.iload 4, 2) := by decide +kernel
theorem dX7_left_17 : decode cX7_left 17 = .ok (.ifCond .lt 70, 3) := by decide +kernel
theorem dX7_left_20 : decode cX7_left 20 = .ok (.iload 4, 2) := by decide +kernel
theorem dX7_left_22 : decode cX7_left 22 = .ok (.iload_n 2, 1) := by decide +kernel
theorem dX7_left_23 : decode cX7_left 23 = .ok (.if_icmp .lt 13, 3) := by decide +kernel
theorem dX7_left_26 : decode cX7_left 26 = .ok (.aload_n 0, 1) := by decide +kernel
theorem dX7_left_27 : decode cX7_left 27 = .ok (.iload 4, 2) := by decide +kernel
theorem dX7_left_29 : decode cX7_left 29 = .ok (.iload_n 2, 1) := by decide +kernel
theorem dX7_left_30 : decode cX7_left 30 = .ok (.isub, 1) := by decide +kernel
theorem dX7_left_31 : decode cX7_left 31 = .ok (.iaload, 1) := by decide +kernel
theorem dX7_left_32 : decode cX7_left 32 = .ok (.i2l, 1) := by decide +kernel
theorem dX7_left_33 : decode cX7_left 33 = .ok (.goto 4, 3) := by decide +kernel
theorem dX7_left_36 : decode cX7_left 36 = .ok (.lconst 0, 1) := by decide +kernel
theorem dX7_left_37 : decode cX7_left 37 = .ok (.lstore 5, 2) := by decide +kernel
theorem dX7_left_39 : decode cX7_left 39 = .ok (.iload 4, 2) := by decide +kernel
theorem dX7_left_41 : decode cX7_left 41 = .ok (.iload_n 2, 1) := by decide +kernel
theorem dX7_left_42 : decode cX7_left 42 = .ok (.if_icmp .le 15, 3) := by decide +kernel
theorem dX7_left_45 : decode cX7_left 45 = .ok (.aload_n 0, 1) := by decide +kernel
theorem dX7_left_46 : decode cX7_left 46 = .ok (.iload 4, 2) := by decide +kernel
theorem dX7_left_48 : decode cX7_left 48 = .ok (.iload_n 2, 1) := by decide +kernel
theorem dX7_left_49 : decode cX7_left 49 = .ok (.isub, 1) := by decide +kernel
theorem dX7_left_50 : decode cX7_left 50 = .ok (.iconst 1, 1) := by decide +kernel
theorem dX7_left_51 : decode cX7_left 51 = .ok (.isub, 1) := by decide +kernel
theorem dX7_left_52 : decode cX7_left 52 = .ok (.iaload, 1) := by decide +kernel
theorem dX7_left_53 : decode cX7_left 53 = .ok (.i2l, 1) := by decide +kernel
theorem dX7_left_54 : decode cX7_left 54 = .ok (.goto 4, 3) := by decide +kernel
theorem dX7_left_57 : decode cX7_left 57 = .ok (.lconst 0, 1) := by decide +kernel
theorem dX7_left_58 : decode cX7_left 58 = .ok (.lstore 7, 2) := by decide +kernel
theorem dX7_left_60 : decode cX7_left 60 = .ok (.aload_n 0, 1) := by decide +kernel
theorem dX7_left_61 : decode cX7_left 61 = .ok (.iload 4, 2) := by decide +kernel
theorem dX7_left_63 : decode cX7_left 63 = .ok (.lload 5, 2) := by decide +kernel
theorem dX7_left_65 : decode cX7_left 65 = .ok (.iload_n 3, 1) := by decide +kernel
theorem dX7_left_66 : decode cX7_left 66 = .ok (.lshl, 1) := by decide +kernel
theorem dX7_left_67 : decode cX7_left 67 = .ok (.lload 7, 2) := by decide +kernel
theorem dX7_left_69 : decode cX7_left 69 = .ok (.bipush 30, 2) := by decide +kernel
theorem dX7_left_71 : decode cX7_left 71 = .ok (.iload_n 3, 1) := by decide +kernel
theorem dX7_left_72 : decode cX7_left 72 = .ok (.isub, 1) := by decide +kernel
theorem dX7_left_73 : decode cX7_left 73 = .ok (.lshr, 1) := by decide +kernel
theorem dX7_left_74 : decode cX7_left 74 = .ok (.lor, 1) := by decide +kernel
theorem dX7_left_75 : decode cX7_left 75 = .ok (.ldc2_w 81, 3) := by decide +kernel
theorem dX7_left_78 : decode cX7_left 78 = .ok (.land, 1) := by decide +kernel
theorem dX7_left_79 : decode cX7_left 79 = .ok (.l2i, 1) := by decide +kernel
theorem dX7_left_80 : decode cX7_left 80 = .ok (.iastore, 1) := by decide +kernel
theorem dX7_left_81 : decode cX7_left 81 = .ok (.iinc 4 (-1), 3) := by decide +kernel
theorem dX7_left_84 : decode cX7_left 84 = .ok (.goto (-69), 3) := by decide +kernel
theorem dX7_left_87 : decode cX7_left 87 = .ok (.return_, 1) := by decide +kernel
theorem dX7_halve_0 : decode cX7_halve 0 = .ok (.iconst 0, 1) := by decide +kernel
theorem dX7_halve_1 : decode cX7_halve 1 = .ok (.istore_n 1, 1) := by decide +kernel
theorem dX7_halve_2 : decode cX7_halve 2 = .ok (.iload_n 1, 1) := by decide +kernel
theorem dX7_halve_3 : decode cX7_halve 3 = .ok (.sipush 320, 3) := by decide +kernel
theorem dX7_halve_6 : decode cX7_halve 6 = .ok (.if_icmp .ge 43, 3) := by decide +kernel
theorem dX7_halve_9 : decode cX7_halve 9 = .ok (.iload_n 1, 1) := by decide +kernel
theorem dX7_halve_10 : decode cX7_halve 10 = .ok (.iconst 1, 1) := by decide +kernel
theorem dX7_halve_11 : decode cX7_halve 11 = .ok (.iadd, 1) := by decide +kernel
theorem dX7_halve_12 : decode cX7_halve 12 = .ok (.sipush 320, 3) := by decide +kernel
theorem dX7_halve_15 : decode cX7_halve 15 = .ok (.if_icmp .ge 11, 3) := by decide +kernel
theorem dX7_halve_18 : decode cX7_halve 18 = .ok (.aload_n 0, 1) := by decide +kernel
theorem dX7_halve_19 : decode cX7_halve 19 = .ok (.iload_n 1, 1) := by decide +kernel
theorem dX7_halve_20 : decode cX7_halve 20 = .ok (.iconst 1, 1) := by decide +kernel
theorem dX7_halve_21 : decode cX7_halve 21 = .ok (.iadd, 1) := by decide +kernel
theorem dX7_halve_22 : decode cX7_halve 22 = .ok (.iaload, 1) := by decide +kernel
theorem dX7_halve_23 : decode cX7_halve 23 = .ok (.goto 4, 3) := by decide +kernel
theorem dX7_halve_26 : decode cX7_halve 26 = .ok (.iconst 0, 1) := by decide +kernel
theorem dX7_halve_27 : decode cX7_halve 27 = .ok (.istore_n 2, 1) := by decide +kernel
theorem dX7_halve_28 : decode cX7_halve 28 = .ok (.aload_n 0, 1) := by decide +kernel
theorem dX7_halve_29 : decode cX7_halve 29 = .ok (.iload_n 1, 1) := by decide +kernel
theorem dX7_halve_30 : decode cX7_halve 30 = .ok (.aload_n 0, 1) := by decide +kernel
theorem dX7_halve_31 : decode cX7_halve 31 = .ok (.iload_n 1, 1) := by decide +kernel
theorem dX7_halve_32 : decode cX7_halve 32 = .ok (.iaload, 1) := by decide +kernel
theorem dX7_halve_33 : decode cX7_halve 33 = .ok (.iconst 1, 1) := by decide +kernel
theorem dX7_halve_34 : decode cX7_halve 34 = .ok (.ishr, 1) := by decide +kernel
theorem dX7_halve_35 : decode cX7_halve 35 = .ok (.iload_n 2, 1) := by decide +kernel
theorem dX7_halve_36 : decode cX7_halve 36 = .ok (.iconst 1, 1) := by decide +kernel
theorem dX7_halve_37 : decode cX7_halve 37 = .ok (.iand, 1) := by decide +kernel
theorem dX7_halve_38 : decode cX7_halve 38 = .ok (.bipush 29, 2) := by decide +kernel
theorem dX7_halve_40 : decode cX7_halve 40 = .ok (.ishl, 1) := by decide +kernel
theorem dX7_halve_41 : decode cX7_halve 41 = .ok (.ior, 1) := by decide +kernel
theorem dX7_halve_42 : decode cX7_halve 42 = .ok (.iastore, 1) := by decide +kernel
theorem dX7_halve_43 : decode cX7_halve 43 = .ok (.iinc 1 1, 3) := by decide +kernel
theorem dX7_halve_46 : decode cX7_halve 46 = .ok (.goto (-44), 3) := by decide +kernel
theorem dX7_halve_49 : decode cX7_halve 49 = .ok (.return_, 1) := by decide +kernel
theorem dX7_compareRows_0 : decode cX7_compareRows 0 = .ok (.sipush 319, 3) := by decide +kernel
theorem dX7_compareRows_3 : decode cX7_compareRows 3 = .ok (.istore_n 2, 1) := by decide +kernel
theorem dX7_compareRows_4 : decode cX7_compareRows 4 = .ok (.iload_n 2, 1) := by decide +kernel
theorem dX7_compareRows_5 : decode cX7_compareRows 5 = .ok (.ifCond .le 18, 3) := by decide +kernel
theorem dX7_compareRows_8 : decode cX7_compareRows 8 = .ok (.aload_n 0, 1) := by decide +kernel
theorem dX7_compareRows_9 : decode cX7_compareRows 9 = .ok (.iload_n 2, 1) := by decide +kernel
theorem dX7_compareRows_10 : decode cX7_compareRows 10 = .ok (.iaload, 1) := by decide +kernel
theorem dX7_compareRows_11 : decode cX7_compareRows 11 = .ok (.aload_n 1, 1) := by decide +kernel
theorem dX7_compareRows_12 : decode cX7_compareRows 12 = .ok (.iload_n 2, 1) := by decide +kernel
theorem dX7_compareRows_13 : decode cX7_compareRows 13 = .ok (.iaload, 1) := by decide +kernel
theorem dX7_compareRows_14 : decode cX7_compareRows 14 = .ok (.if_icmp .ne 9, 3) := by decide +kernel
theorem dX7_compareRows_17 : decode cX7_compareRows 17 = .ok (.iinc 2 (-1), 3) := by decide +kernel
theorem dX7_compareRows_20 : decode cX7_compareRows 20 = .ok (.goto (-16), 3) := by decide +kernel
theorem dX7_compareRows_23 : decode cX7_compareRows 23 = .ok (.aload_n 0, 1) := by decide +kernel
theorem dX7_compareRows_24 : decode cX7_compareRows 24 = .ok (.iload_n 2, 1) := by decide +kernel
theorem dX7_compareRows_25 : decode cX7_compareRows 25 = .ok (.iaload, 1) := by decide +kernel
theorem dX7_compareRows_26 : decode cX7_compareRows 26 = .ok (.aload_n 1, 1) := by decide +kernel
theorem dX7_compareRows_27 : decode cX7_compareRows 27 = .ok (.iload_n 2, 1) := by decide +kernel
theorem dX7_compareRows_28 : decode cX7_compareRows 28 = .ok (.iaload, 1) := by decide +kernel
theorem dX7_compareRows_29 : decode cX7_compareRows 29 = .ok (.if_icmp .ge 7, 3) := by decide +kernel
theorem dX7_compareRows_32 : decode cX7_compareRows 32 = .ok (.iconst (-1), 1) := by decide +kernel
theorem dX7_compareRows_33 : decode cX7_compareRows 33 = .ok (.goto 17, 3) := by decide +kernel
theorem dX7_compareRows_36 : decode cX7_compareRows 36 = .ok (.aload_n 0, 1) := by decide +kernel
theorem dX7_compareRows_37 : decode cX7_compareRows 37 = .ok (.iload_n 2, 1) := by decide +kernel
theorem dX7_compareRows_38 : decode cX7_compareRows 38 = .ok (.iaload, 1) := by decide +kernel
theorem dX7_compareRows_39 : decode cX7_compareRows 39 = .ok (.aload_n 1, 1) := by decide +kernel
theorem dX7_compareRows_40 : decode cX7_compareRows 40 = .ok (.iload_n 2, 1) := by decide +kernel
theorem dX7_compareRows_41 : decode cX7_compareRows 41 = .ok (.iaload, 1) := by decide +kernel
theorem dX7_compareRows_42 : decode cX7_compareRows 42 = .ok (.if_icmp .le 7, 3) := by decide +kernel
theorem dX7_compareRows_45 : decode cX7_compareRows 45 = .ok (.iconst 1, 1) := by decide +kernel
theorem dX7_compareRows_46 : decode cX7_compareRows 46 = .ok (.goto 4, 3) := by decide +kernel
theorem dX7_compareRows_49 : decode cX7_compareRows 49 = .ok (.iconst 0, 1) := by decide +kernel
theorem dX7_compareRows_50 : decode cX7_compareRows 50 = .ok (.ireturn, 1) := by decide +kernel
theorem dX7_less_0 : decode cX7_less 0 = .ok (.iconst 0, 1) := by decide +kernel
theorem dX7_less_1 : decode cX7_less 1 = .ok (.istore_n 2, 1) := by decide +kernel
theorem dX7_less_2 : decode cX7_less 2 = .ok (.iconst 0, 1) := by decide +kernel
theorem dX7_less_3 : decode cX7_less 3 = .ok (.istore_n 3, 1) := by decide +kernel
theorem dX7_less_4 : decode cX7_less 4 = .ok (.iload_n 3, 1) := by decide +kernel
theorem dX7_less_5 : decode cX7_less 5 = .ok (.sipush 320, 3) := by decide +kernel
theorem dX7_less_8 : decode cX7_less 8 = .ok (.if_icmp .ge 39, 3) := by decide +kernel
theorem dX7_less_11 : decode cX7_less 11 = .ok (.aload_n 0, 1) := by decide +kernel
theorem dX7_less_12 : decode cX7_less 12 = .ok (.iload_n 3, 1) := by decide +kernel
theorem dX7_less_13 : decode cX7_less 13 = .ok (.iaload, 1) := by decide +kernel
theorem dX7_less_14 : decode cX7_less 14 = .ok (.aload_n 1, 1) := by decide +kernel
theorem dX7_less_15 : decode cX7_less 15 = .ok (.iload_n 3, 1) := by decide +kernel
theorem dX7_less_16 : decode cX7_less 16 = .ok (.iaload, 1) := by decide +kernel
theorem dX7_less_17 : decode cX7_less 17 = .ok (.isub, 1) := by decide +kernel
theorem dX7_less_18 : decode cX7_less 18 = .ok (.iload_n 2, 1) := by decide +kernel
theorem dX7_less_19 : decode cX7_less 19 = .ok (.isub, 1) := by decide +kernel
theorem dX7_less_20 : decode cX7_less 20 = .ok (.istore 4, 2) := by decide +kernel
theorem dX7_less_22 : decode cX7_less 22 = .ok (.iload 4, 2) := by decide +kernel
theorem dX7_less_24 : decode cX7_less 24 = .ok (.ifCond .ge 7, 3) := by decide +kernel
theorem dX7_less_27 : decode cX7_less 27 = .ok (.iconst 1, 1) := by decide +kernel
theorem dX7_less_28 : decode cX7_less 28 = .ok (.goto 4, 3) := by decide +kernel
theorem dX7_less_31 : decode cX7_less 31 = .ok (.iconst 0, 1) := by decide +kernel
theorem dX7_less_32 : decode cX7_less 32 = .ok (.istore_n 2, 1) := by decide +kernel
theorem dX7_less_33 : decode cX7_less 33 = .ok (.aload_n 0, 1) := by decide +kernel
theorem dX7_less_34 : decode cX7_less 34 = .ok (.iload_n 3, 1) := by decide +kernel
theorem dX7_less_35 : decode cX7_less 35 = .ok (.iload 4, 2) := by decide +kernel
theorem dX7_less_37 : decode cX7_less 37 = .ok (.ldc 88, 2) := by decide +kernel
theorem dX7_less_39 : decode cX7_less 39 = .ok (.iand, 1) := by decide +kernel
theorem dX7_less_40 : decode cX7_less 40 = .ok (.iastore, 1) := by decide +kernel
theorem dX7_less_41 : decode cX7_less 41 = .ok (.iinc 3 1, 3) := by decide +kernel
theorem dX7_less_44 : decode cX7_less 44 = .ok (.goto (-40), 3) := by decide +kernel
theorem dX7_less_47 : decode cX7_less 47 = .ok (.return_, 1) := by decide +kernel
theorem dX7_copyRow_0 : decode cX7_copyRow 0 = .ok (.iconst 0, 1) := by decide +kernel
theorem dX7_copyRow_1 : decode cX7_copyRow 1 = .ok (.istore_n 2, 1) := by decide +kernel
theorem dX7_copyRow_2 : decode cX7_copyRow 2 = .ok (.iload_n 2, 1) := by decide +kernel
theorem dX7_copyRow_3 : decode cX7_copyRow 3 = .ok (.sipush 320, 3) := by decide +kernel
theorem dX7_copyRow_6 : decode cX7_copyRow 6 = .ok (.if_icmp .ge 15, 3) := by decide +kernel
theorem dX7_copyRow_9 : decode cX7_copyRow 9 = .ok (.aload_n 1, 1) := by decide +kernel
theorem dX7_copyRow_10 : decode cX7_copyRow 10 = .ok (.iload_n 2, 1) := by decide +kernel
theorem dX7_copyRow_11 : decode cX7_copyRow 11 = .ok (.aload_n 0, 1) := by decide +kernel
theorem dX7_copyRow_12 : decode cX7_copyRow 12 = .ok (.iload_n 2, 1) := by decide +kernel
theorem dX7_copyRow_13 : decode cX7_copyRow 13 = .ok (.iaload, 1) := by decide +kernel
theorem dX7_copyRow_14 : decode cX7_copyRow 14 = .ok (.iastore, 1) := by decide +kernel
theorem dX7_copyRow_15 : decode cX7_copyRow 15 = .ok (.iinc 2 1, 3) := by decide +kernel
theorem dX7_copyRow_18 : decode cX7_copyRow 18 = .ok (.goto (-16), 3) := by decide +kernel
theorem dX7_copyRow_21 : decode cX7_copyRow 21 = .ok (.return_, 1) := by decide +kernel
theorem dX7_powerBelow_0 : decode cX7_powerBelow 0 = .ok (.aload_n 0, 1) := by decide +kernel
theorem dX7_powerBelow_1 : decode cX7_powerBelow 1 = .ok (.getfield 19, 3) := by decide +kernel
theorem dX7_powerBelow_4 : decode cX7_powerBelow 4 = .ok (.invokestatic 89, 3) := by decide +kernel
theorem dX7_powerBelow_7 : decode cX7_powerBelow 7 = .ok (.aload_n 0, 1) := by decide +kernel
theorem dX7_powerBelow_8 : decode cX7_powerBelow 8 = .ok (.getfield 22, 3) := by decide +kernel
theorem dX7_powerBelow_11 : decode cX7_powerBelow 11 = .ok (.invokestatic 89, 3) := by decide +kernel
theorem dX7_powerBelow_14 : decode cX7_powerBelow 14 = .ok (.isub, 1) := by decide +kernel
theorem dX7_powerBelow_15 : decode cX7_powerBelow 15 = .ok (.istore_n 1, 1) := by decide +kernel
theorem dX7_powerBelow_16 : decode cX7_powerBelow 16 = .ok (.iload_n 1, 1) := by decide +kernel
theorem dX7_powerBelow_17 : decode cX7_powerBelow 17 = .ok (.ifCond .lt 44, 3) := by decide +kernel
theorem dX7_powerBelow_20 : decode cX7_powerBelow 20 = .ok (.aload_n 0, 1) := by decide +kernel
theorem dX7_powerBelow_21 : decode cX7_powerBelow 21 = .ok (.getfield 22, 3) := by decide +kernel
theorem dX7_powerBelow_24 : decode cX7_powerBelow 24 = .ok (.aload_n 0, 1) := by decide +kernel
theorem dX7_powerBelow_25 : decode cX7_powerBelow 25 = .ok (.getfield 25, 3) := by decide +kernel
theorem dX7_powerBelow_28 : decode cX7_powerBelow 28 = .ok (.invokestatic 93, 3) := by decide +kernel
theorem dX7_powerBelow_31 : decode cX7_powerBelow 31 = .ok (.aload_n 0, 1) := by decide +kernel
theorem dX7_powerBelow_32 : decode cX7_powerBelow 32 = .ok (.getfield 25, 3) := by decide +kernel
theorem dX7_powerBelow_35 : decode cX7_powerBelow 35 = .ok (.iload_n 1, 1) := by decide +kernel
theorem dX7_powerBelow_36 : decode cX7_powerBelow 36 = .ok (.invokestatic 97, 3) := by decide +kernel
theorem dX7_powerBelow_39 : decode cX7_powerBelow 39 = .ok (.aload_n 0, 1) := by decide +kernel
theorem dX7_powerBelow_40 : decode cX7_powerBelow 40 = .ok (.getfield 19, 3) := by decide +kernel
theorem dX7_powerBelow_43 : decode cX7_powerBelow 43 = .ok (.aload_n 0, 1) := by decide +kernel
theorem dX7_powerBelow_44 : decode cX7_powerBelow 44 = .ok (.getfield 25, 3) := by decide +kernel
theorem dX7_powerBelow_47 : decode cX7_powerBelow 47 = .ok (.invokestatic 101, 3) := by decide +kernel
theorem dX7_powerBelow_50 : decode cX7_powerBelow 50 = .ok (.ifCond .ge 9, 3) := by decide +kernel
theorem dX7_powerBelow_53 : decode cX7_powerBelow 53 = .ok (.iload_n 1, 1) := by decide +kernel
theorem dX7_powerBelow_54 : decode cX7_powerBelow 54 = .ok (.iconst 1, 1) := by decide +kernel
theorem dX7_powerBelow_55 : decode cX7_powerBelow 55 = .ok (.isub, 1) := by decide +kernel
theorem dX7_powerBelow_56 : decode cX7_powerBelow 56 = .ok (.goto 4, 3) := by decide +kernel
theorem dX7_powerBelow_59 : decode cX7_powerBelow 59 = .ok (.iload_n 1, 1) := by decide +kernel
theorem dX7_powerBelow_60 : decode cX7_powerBelow 60 = .ok (.ireturn, 1) := by decide +kernel
theorem dX7_powerBelow_61 : decode cX7_powerBelow 61 = .ok (.aload_n 0, 1) := by decide +kernel
theorem dX7_powerBelow_62 : decode cX7_powerBelow 62 = .ok (.getfield 19, 3) := by decide +kernel
theorem dX7_powerBelow_65 : decode cX7_powerBelow 65 = .ok (.aload_n 0, 1) := by decide +kernel
theorem dX7_powerBelow_66 : decode cX7_powerBelow 66 = .ok (.getfield 25, 3) := by decide +kernel
theorem dX7_powerBelow_69 : decode cX7_powerBelow 69 = .ok (.invokestatic 93, 3) := by decide +kernel
theorem dX7_powerBelow_72 : decode cX7_powerBelow 72 = .ok (.aload_n 0, 1) := by decide +kernel
theorem dX7_powerBelow_73 : decode cX7_powerBelow 73 = .ok (.getfield 25, 3) := by decide +kernel
theorem dX7_powerBelow_76 : decode cX7_powerBelow 76 = .ok (.iload_n 1, 1) := by decide +kernel
theorem dX7_powerBelow_77 : decode cX7_powerBelow 77 = .ok (.ineg, 1) := by decide +kernel
theorem dX7_powerBelow_78 : decode cX7_powerBelow 78 = .ok (.invokestatic 97, 3) := by decide +kernel
theorem dX7_powerBelow_81 : decode cX7_powerBelow 81 = .ok (.aload_n 0, 1) := by decide +kernel
theorem dX7_powerBelow_82 : decode cX7_powerBelow 82 = .ok (.getfield 25, 3) := by decide +kernel
theorem dX7_powerBelow_85 : decode cX7_powerBelow 85 = .ok (.aload_n 0, 1) := by decide +kernel
theorem dX7_powerBelow_86 : decode cX7_powerBelow 86 = .ok (.getfield 22, 3) := by decide +kernel
theorem dX7_powerBelow_89 : decode cX7_powerBelow 89 = .ok (.invokestatic 101, 3) := by decide +kernel
theorem dX7_powerBelow_92 : decode cX7_powerBelow 92 = .ok (.ifCond .ge 9, 3) := by decide +kernel
theorem dX7_powerBelow_95 : decode cX7_powerBelow 95 = .ok (.iload_n 1, 1) := by decide +kernel
theorem dX7_powerBelow_96 : decode cX7_powerBelow 96 = .ok (.iconst 1, 1) := by decide +kernel
theorem dX7_powerBelow_97 : decode cX7_powerBelow 97 = .ok (.isub, 1) := by decide +kernel
theorem dX7_powerBelow_98 : decode cX7_powerBelow 98 = .ok (.goto 4, 3) := by decide +kernel
theorem dX7_powerBelow_101 : decode cX7_powerBelow 101 = .ok (.iload_n 1, 1) := by decide +kernel
theorem dX7_powerBelow_102 : decode cX7_powerBelow 102 = .ok (.ireturn, 1) := by decide +kernel
theorem dX7_overflow_0 : decode cX7_overflow 0 = .ok (.iload_n 3, 1) := by decide +kernel
theorem dX7_overflow_1 : decode cX7_overflow 1 = .ok (.iconst 2, 1) := by decide +kernel
theorem dX7_overflow_2 : decode cX7_overflow 2 = .ok (.if_icmp .lt 21, 3) := by decide +kernel
theorem dX7_overflow_5 : decode cX7_overflow 5 = .ok (.iload_n 3, 1) := by decide +kernel
theorem dX7_overflow_6 : decode cX7_overflow 6 = .ok (.iconst 3, 1) := by decide +kernel
theorem dX7_overflow_7 : decode cX7_overflow 7 = .ok (.if_icmp .ne 7, 3) := by decide +kernel
theorem dX7_overflow_10 : decode cX7_overflow 10 = .ok (.iload_n 2, 1) := by decide +kernel
theorem dX7_overflow_11 : decode cX7_overflow 11 = .ok (.ifCond .eq 12, 3) := by decide +kernel
theorem dX7_overflow_14 : decode cX7_overflow 14 = .ok (.iload_n 3, 1) := by decide +kernel
theorem dX7_overflow_15 : decode cX7_overflow 15 = .ok (.iconst 4, 1) := by decide +kernel
theorem dX7_overflow_16 : decode cX7_overflow 16 = .ok (.if_icmp .ne 11, 3) := by decide +kernel
theorem dX7_overflow_19 : decode cX7_overflow 19 = .ok (.iload_n 2, 1) := by decide +kernel
theorem dX7_overflow_20 : decode cX7_overflow 20 = .ok (.ifCond .eq 7, 3) := by decide +kernel
theorem dX7_overflow_23 : decode cX7_overflow 23 = .ok (.iconst 1, 1) := by decide +kernel
theorem dX7_overflow_24 : decode cX7_overflow 24 = .ok (.goto 4, 3) := by decide +kernel
theorem dX7_overflow_27 : decode cX7_overflow 27 = .ok (.iconst 0, 1) := by decide +kernel
theorem dX7_overflow_28 : decode cX7_overflow 28 = .ok (.istore 4, 2) := by decide +kernel
theorem dX7_overflow_30 : decode cX7_overflow 30 = .ok (.aload_n 0, 1) := by decide +kernel
theorem dX7_overflow_31 : decode cX7_overflow 31 = .ok (.iload 4, 2) := by decide +kernel
theorem dX7_overflow_33 : decode cX7_overflow 33 = .ok (.ifCond .eq 10, 3) := by decide +kernel
theorem dX7_overflow_36 : decode cX7_overflow 36 = .ok (.iload_n 1, 1) := by decide +kernel
theorem dX7_overflow_37 : decode cX7_overflow 37 = .ok (.invokestatic 64, 3) := by decide +kernel
theorem dX7_overflow_40 : decode cX7_overflow 40 = .ok (.goto 9, 3) := by decide +kernel
theorem dX7_overflow_43 : decode cX7_overflow 43 = .ok (.iload_n 1, 1) := by decide +kernel
theorem dX7_overflow_44 : decode cX7_overflow 44 = .ok (.invokestatic 64, 3) := by decide +kernel
theorem dX7_overflow_47 : decode cX7_overflow 47 = .ok (.lconst 1, 1) := by decide +kernel
theorem dX7_overflow_48 : decode cX7_overflow 48 = .ok (.lsub, 1) := by decide +kernel
theorem dX7_overflow_49 : decode cX7_overflow 49 = .ok (.iload_n 2, 1) := by decide +kernel
theorem dX7_overflow_50 : decode cX7_overflow 50 = .ok (.ifCond .eq 10, 3) := by decide +kernel
theorem dX7_overflow_53 : decode cX7_overflow 53 = .ok (.iload_n 1, 1) := by decide +kernel
theorem dX7_overflow_54 : decode cX7_overflow 54 = .ok (.invokestatic 56, 3) := by decide +kernel
theorem dX7_overflow_57 : decode cX7_overflow 57 = .ok (.goto 4, 3) := by decide +kernel
theorem dX7_overflow_60 : decode cX7_overflow 60 = .ok (.lconst 0, 1) := by decide +kernel
theorem dX7_overflow_61 : decode cX7_overflow 61 = .ok (.lor, 1) := by decide +kernel
theorem dX7_overflow_62 : decode cX7_overflow 62 = .ok (.putfield 105, 3) := by decide +kernel
theorem dX7_overflow_65 : decode cX7_overflow 65 = .ok (.aload_n 0, 1) := by decide +kernel
theorem dX7_overflow_66 : decode cX7_overflow 66 = .ok (.iconst 3, 1) := by decide +kernel
theorem dX7_overflow_67 : decode cX7_overflow 67 = .ok (.putfield 108, 3) := by decide +kernel
theorem dX7_overflow_70 : decode cX7_overflow 70 = .ok (.return_, 1) := by decide +kernel
theorem dX7_round_0 : decode cX7_round 0 = .ok (.aload_n 0, 1) := by decide +kernel
theorem dX7_round_1 : decode cX7_round 1 = .ok (.invokevirtual 111, 3) := by decide +kernel
theorem dX7_round_4 : decode cX7_round 4 = .ok (.istore 4, 2) := by decide +kernel
theorem dX7_round_6 : decode cX7_round 6 = .ok (.iload 4, 2) := by decide +kernel
theorem dX7_round_8 : decode cX7_round 8 = .ok (.iload_n 1, 1) := by decide +kernel
theorem dX7_round_9 : decode cX7_round 9 = .ok (.invokestatic 38, 3) := by decide +kernel
theorem dX7_round_12 : decode cX7_round 12 = .ok (.if_icmp .le 11, 3) := by decide +kernel
theorem dX7_round_15 : decode cX7_round 15 = .ok (.aload_n 0, 1) := by decide +kernel
theorem dX7_round_16 : decode cX7_round 16 = .ok (.iload_n 1, 1) := by decide +kernel
theorem dX7_round_17 : decode cX7_round 17 = .ok (.iload_n 2, 1) := by decide +kernel
theorem dX7_round_18 : decode cX7_round 18 = .ok (.iload_n 3, 1) := by decide +kernel
theorem dX7_round_19 : decode cX7_round 19 = .ok (.invokevirtual 115, 3) := by decide +kernel
theorem dX7_round_22 : decode cX7_round 22 = .ok (.return_, 1) := by decide +kernel
theorem dX7_round_23 : decode cX7_round 23 = .ok (.iload_n 1, 1) := by decide +kernel
theorem dX7_round_24 : decode cX7_round 24 = .ok (.invokestatic 42, 3) := by decide +kernel
theorem dX7_round_27 : decode cX7_round 27 = .ok (.istore 5, 2) := by decide +kernel
theorem dX7_round_29 : decode cX7_round 29 = .ok (.iload 4, 2) := by decide +kernel
theorem dX7_round_31 : decode cX7_round 31 = .ok (.iload 5, 2) := by decide +kernel
theorem dX7_round_33 : decode cX7_round 33 = .ok (.isub, 1) := by decide +kernel
theorem dX7_round_34 : decode cX7_round 34 = .ok (.iconst 1, 1) := by decide +kernel
theorem dX7_round_35 : decode cX7_round 35 = .ok (.iadd, 1) := by decide +kernel
theorem dX7_round_36 : decode cX7_round 36 = .ok (.iload_n 1, 1) := by decide +kernel
theorem dX7_round_37 : decode cX7_round 37 = .ok (.invokestatic 71, 3) := by decide +kernel
theorem dX7_round_40 : decode cX7_round 40 = .ok (.if_icmp .le 13, 3) := by decide +kernel
theorem dX7_round_43 : decode cX7_round 43 = .ok (.iload 4, 2) := by decide +kernel
theorem dX7_round_45 : decode cX7_round 45 = .ok (.iload 5, 2) := by decide +kernel
theorem dX7_round_47 : decode cX7_round 47 = .ok (.isub, 1) := by decide +kernel
theorem dX7_round_48 : decode cX7_round 48 = .ok (.iconst 1, 1) := by decide +kernel
theorem dX7_round_49 : decode cX7_round 49 = .ok (.iadd, 1) := by decide +kernel
theorem dX7_round_50 : decode cX7_round 50 = .ok (.goto 7, 3) := by decide +kernel
theorem dX7_round_53 : decode cX7_round 53 = .ok (.iload_n 1, 1) := by decide +kernel
theorem dX7_round_54 : decode cX7_round 54 = .ok (.invokestatic 71, 3) := by decide +kernel
theorem dX7_round_57 : decode cX7_round 57 = .ok (.istore 6, 2) := by decide +kernel
theorem dX7_round_59 : decode cX7_round 59 = .ok (.iload 6, 2) := by decide +kernel
theorem dX7_round_61 : decode cX7_round 61 = .ok (.ifCond .ge 16, 3) := by decide +kernel
theorem dX7_round_64 : decode cX7_round 64 = .ok (.aload_n 0, 1) := by decide +kernel
theorem dX7_round_65 : decode cX7_round 65 = .ok (.getfield 19, 3) := by decide +kernel
theorem dX7_round_68 : decode cX7_round 68 = .ok (.iload 6, 2) := by decide +kernel
theorem dX7_round_70 : decode cX7_round 70 = .ok (.ineg, 1) := by decide +kernel
theorem dX7_round_71 : decode cX7_round 71 = .ok (.invokestatic 97, 3) := by decide +kernel
theorem dX7_round_74 : decode cX7_round 74 = .ok (.goto 12, 3) := by decide +kernel
theorem dX7_round_77 : decode cX7_round 77 = .ok (.aload_n 0, 1) := by decide +kernel
theorem dX7_round_78 : decode cX7_round 78 = .ok (.getfield 22, 3) := by decide +kernel
theorem dX7_round_81 : decode cX7_round 81 = .ok (.iload 6, 2) := by decide +kernel
theorem dX7_round_83 : decode cX7_round 83 = .ok (.invokestatic 97, 3) := by decide +kernel
theorem dX7_round_86 : decode cX7_round 86 = .ok (.aload_n 0, 1) := by decide +kernel
theorem dX7_round_87 : decode cX7_round 87 = .ok (.getfield 22, 3) := by decide +kernel
theorem dX7_round_90 : decode cX7_round 90 = .ok (.iload 5, 2) := by decide +kernel
theorem dX7_round_92 : decode cX7_round 92 = .ok (.invokestatic 97, 3) := by decide +kernel
theorem dX7_round_95 : decode cX7_round 95 = .ok (.lconst 0, 1) := by decide +kernel
theorem dX7_round_96 : decode cX7_round 96 = .ok (.lstore 7, 2) := by decide +kernel
theorem dX7_round_98 : decode cX7_round 98 = .ok (.iload 5, 2) := by decide +kernel
theorem dX7_round_100 : decode cX7_round 100 = .ok (.istore 9, 2) := by decide +kernel
theorem dX7_round_102 : decode cX7_round 102 = .ok (.iload 9, 2) := by decide +kernel
theorem dX7_round_104 : decode cX7_round 104 = .ok (.ifCond .lt 58, 3) := by decide +kernel
theorem dX7_round_107 : decode cX7_round 107 = .ok (.lload 7, 2) := by decide +kernel
theorem dX7_round_109 : decode cX7_round 109 = .ok (.iconst 1, 1) := by decide +kernel
theorem dX7_round_110 : decode cX7_round 110 = .ok (.lshl, 1) := by decide +kernel
theorem dX7_round_111 : decode cX7_round 111 = .ok (.lstore 7, 2) := by decide +kernel
theorem dX7_round_113 : decode cX7_round 113 = .ok (.aload_n 0, 1) := by decide +kernel
theorem dX7_round_114 : decode cX7_round 114 = .ok (.getfield 19, 3) := by decide +kernel
theorem dX7_round_117 : decode cX7_round 117 = .ok (.aload_n 0, 1) := by decide +kernel
theorem dX7_round_118 : decode cX7_round 118 = .ok (.getfield 22, 3) := by decide +kernel
theorem dX7_round_121 : decode cX7_round 121 = .ok (.invokestatic 101, 3) := by decide +kernel
theorem dX7_round_124 : decode cX7_round 124 = .ok (.ifCond .lt 20, 3) := by decide +kernel
theorem dX7_round_127 : decode cX7_round 127 = .ok (.aload_n 0, 1) := by decide +kernel
theorem dX7_round_128 : decode cX7_round 128 = .ok (.getfield 19, 3) := by decide +kernel
theorem dX7_round_131 : decode cX7_round 131 = .ok (.aload_n 0, 1) := by decide +kernel
theorem dX7_round_132 : decode cX7_round 132 = .ok (.getfield 22, 3) := by decide +kernel
theorem dX7_round_135 : decode cX7_round 135 = .ok (.invokestatic 119, 3) := by decide +kernel
theorem dX7_round_138 : decode cX7_round 138 = .ok (.lload 7, 2) := by decide +kernel
theorem dX7_round_140 : decode cX7_round 140 = .ok (.lconst 1, 1) := by decide +kernel
theorem dX7_round_141 : decode cX7_round 141 = .ok (.lor, 1) := by decide +kernel
theorem dX7_round_142 : decode cX7_round 142 = .ok (.lstore 7, 2) := by decide +kernel
theorem dX7_round_144 : decode cX7_round 144 = .ok (.iload 9, 2) := by decide +kernel
theorem dX7_round_146 : decode cX7_round 146 = .ok (.ifCond .le 10, 3) := by decide +kernel
theorem dX7_round_149 : decode cX7_round 149 = .ok (.aload_n 0, 1) := by decide +kernel
theorem dX7_round_150 : decode cX7_round 150 = .ok (.getfield 22, 3) := by decide +kernel
theorem dX7_round_153 : decode cX7_round 153 = .ok (.invokestatic 122, 3) := by decide +kernel
theorem dX7_round_156 : decode cX7_round 156 = .ok (.iinc 9 (-1), 3) := by decide +kernel
theorem dX7_round_159 : decode cX7_round 159 = .ok (.goto (-57), 3) := by decide +kernel
theorem dX7_round_162 : decode cX7_round 162 = .ok (.aload_n 0, 1) := by decide +kernel
theorem dX7_round_163 : decode cX7_round 163 = .ok (.getfield 19, 3) := by decide +kernel
theorem dX7_round_166 : decode cX7_round 166 = .ok (.invokestatic 89, 3) := by decide +kernel
theorem dX7_round_169 : decode cX7_round 169 = .ok (.ifCond .le 7, 3) := by decide +kernel
theorem dX7_round_172 : decode cX7_round 172 = .ok (.iconst 1, 1) := by decide +kernel
theorem dX7_round_173 : decode cX7_round 173 = .ok (.goto 4, 3) := by decide +kernel
theorem dX7_round_176 : decode cX7_round 176 = .ok (.iconst 0, 1) := by decide +kernel
theorem dX7_round_177 : decode cX7_round 177 = .ok (.istore 9, 2) := by decide +kernel
theorem dX7_round_179 : decode cX7_round 179 = .ok (.aload_n 0, 1) := by decide +kernel
theorem dX7_round_180 : decode cX7_round 180 = .ok (.getfield 19, 3) := by decide +kernel
theorem dX7_round_183 : decode cX7_round 183 = .ok (.iconst 1, 1) := by decide +kernel
theorem dX7_round_184 : decode cX7_round 184 = .ok (.invokestatic 97, 3) := by decide +kernel
theorem dX7_round_187 : decode cX7_round 187 = .ok (.aload_n 0, 1) := by decide +kernel
theorem dX7_round_188 : decode cX7_round 188 = .ok (.getfield 19, 3) := by decide +kernel
theorem dX7_round_191 : decode cX7_round 191 = .ok (.aload_n 0, 1) := by decide +kernel
theorem dX7_round_192 : decode cX7_round 192 = .ok (.getfield 22, 3) := by decide +kernel
theorem dX7_round_195 : decode cX7_round 195 = .ok (.invokestatic 101, 3) := by decide +kernel
theorem dX7_round_198 : decode cX7_round 198 = .ok (.istore 10, 2) := by decide +kernel
theorem dX7_round_200 : decode cX7_round 200 = .ok (.iload 9, 2) := by decide +kernel
theorem dX7_round_202 : decode cX7_round 202 = .ok (.ifCond .eq 67, 3) := by decide +kernel
theorem dX7_round_205 : decode cX7_round 205 = .ok (.iload_n 3, 1) := by decide +kernel
theorem dX7_round_206 : decode cX7_round 206 = .ok (.ifCond .ne 25, 3) := by decide +kernel
theorem dX7_round_209 : decode cX7_round 209 = .ok (.iload 10, 2) := by decide +kernel
theorem dX7_round_211 : decode cX7_round 211 = .ok (.ifCond .gt 54, 3) := by decide +kernel
theorem dX7_round_214 : decode cX7_round 214 = .ok (.iload 10, 2) := by decide +kernel
theorem dX7_round_216 : decode cX7_round 216 = .ok (.ifCond .ne 53, 3) := by decide +kernel
theorem dX7_round_219 : decode cX7_round 219 = .ok (.lload 7, 2) := by decide +kernel
theorem dX7_round_221 : decode cX7_round 221 = .ok (.lconst 1, 1) := by decide +kernel
theorem dX7_round_222 : decode cX7_round 222 = .ok (.land, 1) := by decide +kernel
theorem dX7_round_223 : decode cX7_round 223 = .ok (.lconst 1, 1) := by decide +kernel
theorem dX7_round_224 : decode cX7_round 224 = .ok (.lcmp, 1) := by decide +kernel
theorem dX7_round_225 : decode cX7_round 225 = .ok (.ifCond .ne 44, 3) := by decide +kernel
theorem dX7_round_228 : decode cX7_round 228 = .ok (.goto 37, 3) := by decide +kernel
theorem dX7_round_231 : decode cX7_round 231 = .ok (.iload_n 3, 1) := by decide +kernel
theorem dX7_round_232 : decode cX7_round 232 = .ok (.iconst 1, 1) := by decide +kernel
theorem dX7_round_233 : decode cX7_round 233 = .ok (.if_icmp .ne 11, 3) := by decide +kernel
theorem dX7_round_236 : decode cX7_round 236 = .ok (.iload 10, 2) := by decide +kernel
theorem dX7_round_238 : decode cX7_round 238 = .ok (.ifCond .lt 31, 3) := by decide +kernel
theorem dX7_round_241 : decode cX7_round 241 = .ok (.goto 24, 3) := by decide +kernel
theorem dX7_round_244 : decode cX7_round 244 = .ok (.iload_n 3, 1) := by decide +kernel
theorem dX7_round_245 : decode cX7_round 245 = .ok (.iconst 3, 1) := by decide +kernel
theorem dX7_round_246 : decode cX7_round 246 = .ok (.if_icmp .ne 10, 3) := by decide +kernel
theorem dX7_round_249 : decode cX7_round 249 = .ok (.iload_n 2, 1) := by decide +kernel
theorem dX7_round_250 : decode cX7_round 250 = .ok (.ifCond .ne 19, 3) := by decide +kernel
theorem dX7_round_253 : decode cX7_round 253 = .ok (.goto 12, 3) := by decide +kernel
theorem dX7_round_256 : decode cX7_round 256 = .ok (.iload_n 3, 1) := by decide +kernel
theorem dX7_round_257 : decode cX7_round 257 = .ok (.iconst 4, 1) := by decide +kernel
theorem dX7_round_258 : decode cX7_round 258 = .ok (.if_icmp .ne 11, 3) := by decide +kernel
theorem dX7_round_261 : decode cX7_round 261 = .ok (.iload_n 2, 1) := by decide +kernel
theorem dX7_round_262 : decode cX7_round 262 = .ok (.ifCond .eq 7, 3) := by decide +kernel
theorem dX7_round_265 : decode cX7_round 265 = .ok (.iconst 1, 1) := by decide +kernel
theorem dX7_round_266 : decode cX7_round 266 = .ok (.goto 4, 3) := by decide +kernel
theorem dX7_round_269 : decode cX7_round 269 = .ok (.iconst 0, 1) := by decide +kernel
theorem dX7_round_270 : decode cX7_round 270 = .ok (.istore 11, 2) := by decide +kernel
theorem dX7_round_272 : decode cX7_round 272 = .ok (.iload 6, 2) := by decide +kernel
theorem dX7_round_274 : decode cX7_round 274 = .ok (.iload_n 1, 1) := by decide +kernel
theorem dX7_round_275 : decode cX7_round 275 = .ok (.invokestatic 71, 3) := by decide +kernel
theorem dX7_round_278 : decode cX7_round 278 = .ok (.isub, 1) := by decide +kernel
theorem dX7_round_279 : decode cX7_round 279 = .ok (.i2l, 1) := by decide +kernel
theorem dX7_round_280 : decode cX7_round 280 = .ok (.iload 5, 2) := by decide +kernel
theorem dX7_round_282 : decode cX7_round 282 = .ok (.iconst 1, 1) := by decide +kernel
theorem dX7_round_283 : decode cX7_round 283 = .ok (.isub, 1) := by decide +kernel
theorem dX7_round_284 : decode cX7_round 284 = .ok (.lshl, 1) := by decide +kernel
theorem dX7_round_285 : decode cX7_round 285 = .ok (.lload 7, 2) := by decide +kernel
theorem dX7_round_287 : decode cX7_round 287 = .ok (.ladd, 1) := by decide +kernel
theorem dX7_round_288 : decode cX7_round 288 = .ok (.iload 11, 2) := by decide +kernel
theorem dX7_round_290 : decode cX7_round 290 = .ok (.ifCond .eq 7, 3) := by decide +kernel
theorem dX7_round_293 : decode cX7_round 293 = .ok (.lconst 1, 1) := by decide +kernel
theorem dX7_round_294 : decode cX7_round 294 = .ok (.goto 4, 3) := by decide +kernel
theorem dX7_round_297 : decode cX7_round 297 = .ok (.lconst 0, 1) := by decide +kernel
theorem dX7_round_298 : decode cX7_round 298 = .ok (.ladd, 1) := by decide +kernel
theorem dX7_round_299 : decode cX7_round 299 = .ok (.lstore 12, 2) := by decide +kernel
theorem dX7_round_301 : decode cX7_round 301 = .ok (.lload 12, 2) := by decide +kernel
theorem dX7_round_303 : decode cX7_round 303 = .ok (.iload_n 1, 1) := by decide +kernel
theorem dX7_round_304 : decode cX7_round 304 = .ok (.invokestatic 64, 3) := by decide +kernel
theorem dX7_round_307 : decode cX7_round 307 = .ok (.lcmp, 1) := by decide +kernel
theorem dX7_round_308 : decode cX7_round 308 = .ok (.ifCond .lt 11, 3) := by decide +kernel
theorem dX7_round_311 : decode cX7_round 311 = .ok (.aload_n 0, 1) := by decide +kernel
theorem dX7_round_312 : decode cX7_round 312 = .ok (.iload_n 1, 1) := by decide +kernel
theorem dX7_round_313 : decode cX7_round 313 = .ok (.iload_n 2, 1) := by decide +kernel
theorem dX7_round_314 : decode cX7_round 314 = .ok (.iload_n 3, 1) := by decide +kernel
theorem dX7_round_315 : decode cX7_round 315 = .ok (.invokevirtual 115, 3) := by decide +kernel
theorem dX7_round_318 : decode cX7_round 318 = .ok (.return_, 1) := by decide +kernel
theorem dX7_round_319 : decode cX7_round 319 = .ok (.aload_n 0, 1) := by decide +kernel
theorem dX7_round_320 : decode cX7_round 320 = .ok (.lload 12, 2) := by decide +kernel
theorem dX7_round_322 : decode cX7_round 322 = .ok (.iload_n 2, 1) := by decide +kernel
theorem dX7_round_323 : decode cX7_round 323 = .ok (.ifCond .eq 10, 3) := by decide +kernel
theorem dX7_round_326 : decode cX7_round 326 = .ok (.iload_n 1, 1) := by decide +kernel
theorem dX7_round_327 : decode cX7_round 327 = .ok (.invokestatic 56, 3) := by decide +kernel
theorem dX7_round_330 : decode cX7_round 330 = .ok (.goto 4, 3) := by decide +kernel
theorem dX7_round_333 : decode cX7_round 333 = .ok (.lconst 0, 1) := by decide +kernel
theorem dX7_round_334 : decode cX7_round 334 = .ok (.lor, 1) := by decide +kernel
theorem dX7_round_335 : decode cX7_round 335 = .ok (.putfield 105, 3) := by decide +kernel
theorem dX7_round_338 : decode cX7_round 338 = .ok (.aload_n 0, 1) := by decide +kernel
theorem dX7_round_339 : decode cX7_round 339 = .ok (.iload 9, 2) := by decide +kernel
theorem dX7_round_341 : decode cX7_round 341 = .ok (.ifCond .eq 23, 3) := by decide +kernel
theorem dX7_round_344 : decode cX7_round 344 = .ok (.lload 12, 2) := by decide +kernel
theorem dX7_round_346 : decode cX7_round 346 = .ok (.lconst 1, 1) := by decide +kernel
theorem dX7_round_347 : decode cX7_round 347 = .ok (.iload 5, 2) := by decide +kernel
theorem dX7_round_349 : decode cX7_round 349 = .ok (.iconst 1, 1) := by decide +kernel
theorem dX7_round_350 : decode cX7_round 350 = .ok (.isub, 1) := by decide +kernel
theorem dX7_round_351 : decode cX7_round 351 = .ok (.lshl, 1) := by decide +kernel
theorem dX7_round_352 : decode cX7_round 352 = .ok (.lcmp, 1) := by decide +kernel
theorem dX7_round_353 : decode cX7_round 353 = .ok (.ifCond .ge 7, 3) := by decide +kernel
theorem dX7_round_356 : decode cX7_round 356 = .ok (.iconst 5, 1) := by decide +kernel
theorem dX7_round_357 : decode cX7_round 357 = .ok (.goto 8, 3) := by decide +kernel
theorem dX7_round_360 : decode cX7_round 360 = .ok (.iconst 1, 1) := by decide +kernel
theorem dX7_round_361 : decode cX7_round 361 = .ok (.goto 4, 3) := by decide +kernel
theorem dX7_round_364 : decode cX7_round 364 = .ok (.iconst 0, 1) := by decide +kernel
theorem dX7_round_365 : decode cX7_round 365 = .ok (.putfield 108, 3) := by decide +kernel
theorem dX7_round_368 : decode cX7_round 368 = .ok (.return_, 1) := by decide +kernel
theorem dX7_roundDecimal_0 : decode cX7_roundDecimal 0 = .ok (.iconst 0, 1) := by decide +kernel
theorem dX7_roundDecimal_1 : decode cX7_roundDecimal 1 = .ok (.istore 5, 2) := by decide +kernel
theorem dX7_roundDecimal_3 : decode cX7_roundDecimal 3 = .ok (.iload 5, 2) := by decide +kernel
theorem dX7_roundDecimal_5 : decode cX7_roundDecimal 5 = .ok (.aload_n 0, 1) := by decide +kernel
theorem dX7_roundDecimal_6 : decode cX7_roundDecimal 6 = .ok (.getfield 125, 3) := by decide +kernel
theorem dX7_roundDecimal_9 : decode cX7_roundDecimal 9 = .ok (.if_icmp .ge 19, 3) := by decide +kernel
theorem dX7_roundDecimal_12 : decode cX7_roundDecimal 12 = .ok (.aload_n 0, 1) := by decide +kernel
theorem dX7_roundDecimal_13 : decode cX7_roundDecimal 13 = .ok (.getfield 31, 3) := by decide +kernel
theorem dX7_roundDecimal_16 : decode cX7_roundDecimal 16 = .ok (.iload 5, 2) := by decide +kernel
theorem dX7_roundDecimal_18 : decode cX7_roundDecimal 18 = .ok (.iaload, 1) := by decide +kernel
theorem dX7_roundDecimal_19 : decode cX7_roundDecimal 19 = .ok (.ifCond .ne 9, 3) := by decide +kernel
theorem dX7_roundDecimal_22 : decode cX7_roundDecimal 22 = .ok (.iinc 5 1, 3) := by decide +kernel
theorem dX7_roundDecimal_25 : decode cX7_roundDecimal 25 = .ok (.goto (-22), 3) := by decide +kernel
theorem dX7_roundDecimal_28 : decode cX7_roundDecimal 28 = .ok (.iload 5, 2) := by decide +kernel
theorem dX7_roundDecimal_30 : decode cX7_roundDecimal 30 = .ok (.aload_n 0, 1) := by decide +kernel
theorem dX7_roundDecimal_31 : decode cX7_roundDecimal 31 = .ok (.getfield 125, 3) := by decide +kernel
theorem dX7_roundDecimal_34 : decode cX7_roundDecimal 34 = .ok (.if_icmp .ne 25, 3) := by decide +kernel
theorem dX7_roundDecimal_37 : decode cX7_roundDecimal 37 = .ok (.aload_n 0, 1) := by decide +kernel
theorem dX7_roundDecimal_38 : decode cX7_roundDecimal 38 = .ok (.iload_n 2, 1) := by decide +kernel
theorem dX7_roundDecimal_39 : decode cX7_roundDecimal 39 = .ok (.ifCond .eq 10, 3) := by decide +kernel
theorem dX7_roundDecimal_42 : decode cX7_roundDecimal 42 = .ok (.iload_n 1, 1) := by decide +kernel
theorem dX7_roundDecimal_43 : decode cX7_roundDecimal 43 = .ok (.invokestatic 56, 3) := by decide +kernel
theorem dX7_roundDecimal_46 : decode cX7_roundDecimal 46 = .ok (.goto 4, 3) := by decide +kernel
theorem dX7_roundDecimal_49 : decode cX7_roundDecimal 49 = .ok (.lconst 0, 1) := by decide +kernel
theorem dX7_roundDecimal_50 : decode cX7_roundDecimal 50 = .ok (.putfield 105, 3) := by decide +kernel
theorem dX7_roundDecimal_53 : decode cX7_roundDecimal 53 = .ok (.aload_n 0, 1) := by decide +kernel
theorem dX7_roundDecimal_54 : decode cX7_roundDecimal 54 = .ok (.iconst 0, 1) := by decide +kernel
theorem dX7_roundDecimal_55 : decode cX7_roundDecimal 55 = .ok (.putfield 108, 3) := by decide +kernel
theorem dX7_roundDecimal_58 : decode cX7_roundDecimal 58 = .ok (.return_, 1) := by decide +kernel
theorem dX7_roundDecimal_59 : decode cX7_roundDecimal 59 = .ok (.aload_n 0, 1) := by decide +kernel
theorem dX7_roundDecimal_60 : decode cX7_roundDecimal 60 = .ok (.getfield 125, 3) := by decide +kernel
theorem dX7_roundDecimal_63 : decode cX7_roundDecimal 63 = .ok (.iload 5, 2) := by decide +kernel
theorem dX7_roundDecimal_65 : decode cX7_roundDecimal 65 = .ok (.isub, 1) := by decide +kernel
theorem dX7_roundDecimal_66 : decode cX7_roundDecimal 66 = .ok (.iload_n 3, 1) := by decide +kernel
theorem dX7_roundDecimal_67 : decode cX7_roundDecimal 67 = .ok (.iadd, 1) := by decide +kernel
theorem dX7_roundDecimal_68 : decode cX7_roundDecimal 68 = .ok (.istore 6, 2) := by decide +kernel
theorem dX7_roundDecimal_70 : decode cX7_roundDecimal 70 = .ok (.aload_n 0, 1) := by decide +kernel
theorem dX7_roundDecimal_71 : decode cX7_roundDecimal 71 = .ok (.getfield 19, 3) := by decide +kernel
theorem dX7_roundDecimal_74 : decode cX7_roundDecimal 74 = .ok (.invokestatic 77, 3) := by decide +kernel
theorem dX7_roundDecimal_77 : decode cX7_roundDecimal 77 = .ok (.aload_n 0, 1) := by decide +kernel
theorem dX7_roundDecimal_78 : decode cX7_roundDecimal 78 = .ok (.getfield 22, 3) := by decide +kernel
theorem dX7_roundDecimal_81 : decode cX7_roundDecimal 81 = .ok (.lconst 1, 1) := by decide +kernel
theorem dX7_roundDecimal_82 : decode cX7_roundDecimal 82 = .ok (.invokestatic 128, 3) := by decide +kernel
theorem dX7_roundDecimal_85 : decode cX7_roundDecimal 85 = .ok (.iload 6, 2) := by decide +kernel
theorem dX7_roundDecimal_87 : decode cX7_roundDecimal 87 = .ok (.sipush 330, 3) := by decide +kernel
theorem dX7_roundDecimal_90 : decode cX7_roundDecimal 90 = .ok (.if_icmp .le 23, 3) := by decide +kernel
theorem dX7_roundDecimal_93 : decode cX7_roundDecimal 93 = .ok (.aload_n 0, 1) := by decide +kernel
theorem dX7_roundDecimal_94 : decode cX7_roundDecimal 94 = .ok (.getfield 19, 3) := by decide +kernel
theorem dX7_roundDecimal_97 : decode cX7_roundDecimal 97 = .ok (.iconst 0, 1) := by decide +kernel
theorem dX7_roundDecimal_98 : decode cX7_roundDecimal 98 = .ok (.iconst 1, 1) := by decide +kernel
theorem dX7_roundDecimal_99 : decode cX7_roundDecimal 99 = .ok (.iastore, 1) := by decide +kernel
theorem dX7_roundDecimal_100 : decode cX7_roundDecimal 100 = .ok (.aload_n 0, 1) := by decide +kernel
theorem dX7_roundDecimal_101 : decode cX7_roundDecimal 101 = .ok (.getfield 19, 3) := by decide +kernel
theorem dX7_roundDecimal_104 : decode cX7_roundDecimal 104 = .ok (.sipush 330, 3) := by decide +kernel
theorem dX7_roundDecimal_107 : decode cX7_roundDecimal 107 = .ok (.invokestatic 132, 3) := by decide +kernel
theorem dX7_roundDecimal_110 : decode cX7_roundDecimal 110 = .ok (.goto 90, 3) := by decide +kernel
theorem dX7_roundDecimal_113 : decode cX7_roundDecimal 113 = .ok (.iload 6, 2) := by decide +kernel
theorem dX7_roundDecimal_115 : decode cX7_roundDecimal 115 = .ok (.sipush (-360), 3) := by decide +kernel
theorem dX7_roundDecimal_118 : decode cX7_roundDecimal 118 = .ok (.if_icmp .ge 23, 3) := by decide +kernel
theorem dX7_roundDecimal_121 : decode cX7_roundDecimal 121 = .ok (.aload_n 0, 1) := by decide +kernel
theorem dX7_roundDecimal_122 : decode cX7_roundDecimal 122 = .ok (.getfield 19, 3) := by decide +kernel
theorem dX7_roundDecimal_125 : decode cX7_roundDecimal 125 = .ok (.iconst 0, 1) := by decide +kernel
theorem dX7_roundDecimal_126 : decode cX7_roundDecimal 126 = .ok (.iconst 1, 1) := by decide +kernel
theorem dX7_roundDecimal_127 : decode cX7_roundDecimal 127 = .ok (.iastore, 1) := by decide +kernel
theorem dX7_roundDecimal_128 : decode cX7_roundDecimal 128 = .ok (.aload_n 0, 1) := by decide +kernel
theorem dX7_roundDecimal_129 : decode cX7_roundDecimal 129 = .ok (.getfield 22, 3) := by decide +kernel
theorem dX7_roundDecimal_132 : decode cX7_roundDecimal 132 = .ok (.sipush 400, 3) := by decide +kernel
theorem dX7_roundDecimal_135 : decode cX7_roundDecimal 135 = .ok (.invokestatic 132, 3) := by decide +kernel
theorem dX7_roundDecimal_138 : decode cX7_roundDecimal 138 = .ok (.goto 62, 3) := by decide +kernel
theorem dX7_roundDecimal_141 : decode cX7_roundDecimal 141 = .ok (.iload 5, 2) := by decide +kernel
theorem dX7_roundDecimal_143 : decode cX7_roundDecimal 143 = .ok (.istore 7, 2) := by decide +kernel
theorem dX7_roundDecimal_145 : decode cX7_roundDecimal 145 = .ok (.iload 7, 2) := by decide +kernel
theorem dX7_roundDecimal_147 : decode cX7_roundDecimal 147 = .ok (.aload_n 0, 1) := by decide +kernel
theorem dX7_roundDecimal_148 : decode cX7_roundDecimal 148 = .ok (.getfield 125, 3) := by decide +kernel
theorem dX7_roundDecimal_151 : decode cX7_roundDecimal 151 = .ok (.if_icmp .ge 25, 3) := by decide +kernel
theorem dX7_roundDecimal_154 : decode cX7_roundDecimal 154 = .ok (.aload_n 0, 1) := by decide +kernel
theorem dX7_roundDecimal_155 : decode cX7_roundDecimal 155 = .ok (.getfield 19, 3) := by decide +kernel
theorem dX7_roundDecimal_158 : decode cX7_roundDecimal 158 = .ok (.bipush 10, 2) := by decide +kernel
theorem dX7_roundDecimal_160 : decode cX7_roundDecimal 160 = .ok (.aload_n 0, 1) := by decide +kernel
theorem dX7_roundDecimal_161 : decode cX7_roundDecimal 161 = .ok (.getfield 31, 3) := by decide +kernel
theorem dX7_roundDecimal_164 : decode cX7_roundDecimal 164 = .ok (.iload 7, 2) := by decide +kernel
theorem dX7_roundDecimal_166 : decode cX7_roundDecimal 166 = .ok (.iaload, 1) := by decide +kernel
theorem dX7_roundDecimal_167 : decode cX7_roundDecimal 167 = .ok (.invokestatic 84, 3) := by decide +kernel
theorem dX7_roundDecimal_170 : decode cX7_roundDecimal 170 = .ok (.iinc 7 1, 3) := by decide +kernel
theorem dX7_roundDecimal_173 : decode cX7_roundDecimal 173 = .ok (.goto (-28), 3) := by decide +kernel
theorem dX7_roundDecimal_176 : decode cX7_roundDecimal 176 = .ok (.iload_n 3, 1) := by decide +kernel
theorem dX7_roundDecimal_177 : decode cX7_roundDecimal 177 = .ok (.ifCond .le 14, 3) := by decide +kernel
theorem dX7_roundDecimal_180 : decode cX7_roundDecimal 180 = .ok (.aload_n 0, 1) := by decide +kernel
theorem dX7_roundDecimal_181 : decode cX7_roundDecimal 181 = .ok (.getfield 19, 3) := by decide +kernel
theorem dX7_roundDecimal_184 : decode cX7_roundDecimal 184 = .ok (.iload_n 3, 1) := by decide +kernel
theorem dX7_roundDecimal_185 : decode cX7_roundDecimal 185 = .ok (.invokestatic 132, 3) := by decide +kernel
theorem dX7_roundDecimal_188 : decode cX7_roundDecimal 188 = .ok (.goto 12, 3) := by decide +kernel
theorem dX7_roundDecimal_191 : decode cX7_roundDecimal 191 = .ok (.aload_n 0, 1) := by decide +kernel
theorem dX7_roundDecimal_192 : decode cX7_roundDecimal 192 = .ok (.getfield 22, 3) := by decide +kernel
theorem dX7_roundDecimal_195 : decode cX7_roundDecimal 195 = .ok (.iload_n 3, 1) := by decide +kernel
theorem dX7_roundDecimal_196 : decode cX7_roundDecimal 196 = .ok (.ineg, 1) := by decide +kernel
theorem dX7_roundDecimal_197 : decode cX7_roundDecimal 197 = .ok (.invokestatic 132, 3) := by decide +kernel
theorem dX7_roundDecimal_200 : decode cX7_roundDecimal 200 = .ok (.aload_n 0, 1) := by decide +kernel
theorem dX7_roundDecimal_201 : decode cX7_roundDecimal 201 = .ok (.iload_n 1, 1) := by decide +kernel
theorem dX7_roundDecimal_202 : decode cX7_roundDecimal 202 = .ok (.iload_n 2, 1) := by decide +kernel
theorem dX7_roundDecimal_203 : decode cX7_roundDecimal 203 = .ok (.iload 4, 2) := by decide +kernel
theorem dX7_roundDecimal_205 : decode cX7_roundDecimal 205 = .ok (.invokevirtual 135, 3) := by decide +kernel
theorem dX7_roundDecimal_208 : decode cX7_roundDecimal 208 = .ok (.return_, 1) := by decide +kernel
theorem dX7_roundBinary_0 : decode cX7_roundBinary 0 = .ok (.aload_n 0, 1) := by decide +kernel
theorem dX7_roundBinary_1 : decode cX7_roundBinary 1 = .ok (.getfield 19, 3) := by decide +kernel
theorem dX7_roundBinary_4 : decode cX7_roundBinary 4 = .ok (.invokestatic 89, 3) := by decide +kernel
theorem dX7_roundBinary_7 : decode cX7_roundBinary 7 = .ok (.istore 6, 2) := by decide +kernel
theorem dX7_roundBinary_9 : decode cX7_roundBinary 9 = .ok (.iload 6, 2) := by decide +kernel
theorem dX7_roundBinary_11 : decode cX7_roundBinary 11 = .ok (.ifCond .ne 25, 3) := by decide +kernel
theorem dX7_roundBinary_14 : decode cX7_roundBinary 14 = .ok (.aload_n 0, 1) := by decide +kernel
theorem dX7_roundBinary_15 : decode cX7_roundBinary 15 = .ok (.iload_n 2, 1) := by decide +kernel
theorem dX7_roundBinary_16 : decode cX7_roundBinary 16 = .ok (.ifCond .eq 10, 3) := by decide +kernel
theorem dX7_roundBinary_19 : decode cX7_roundBinary 19 = .ok (.iload_n 1, 1) := by decide +kernel
theorem dX7_roundBinary_20 : decode cX7_roundBinary 20 = .ok (.invokestatic 56, 3) := by decide +kernel
theorem dX7_roundBinary_23 : decode cX7_roundBinary 23 = .ok (.goto 4, 3) := by decide +kernel
theorem dX7_roundBinary_26 : decode cX7_roundBinary 26 = .ok (.lconst 0, 1) := by decide +kernel
theorem dX7_roundBinary_27 : decode cX7_roundBinary 27 = .ok (.putfield 105, 3) := by decide +kernel
theorem dX7_roundBinary_30 : decode cX7_roundBinary 30 = .ok (.aload_n 0, 1) := by decide +kernel
theorem dX7_roundBinary_31 : decode cX7_roundBinary 31 = .ok (.iconst 0, 1) := by decide +kernel
theorem dX7_roundBinary_32 : decode cX7_roundBinary 32 = .ok (.putfield 108, 3) := by decide +kernel
theorem dX7_roundBinary_35 : decode cX7_roundBinary 35 = .ok (.return_, 1) := by decide +kernel
theorem dX7_roundBinary_36 : decode cX7_roundBinary 36 = .ok (.iload 6, 2) := by decide +kernel
theorem dX7_roundBinary_38 : decode cX7_roundBinary 38 = .ok (.i2l, 1) := by decide +kernel
theorem dX7_roundBinary_39 : decode cX7_roundBinary 39 = .ok (.lload_n 3, 1) := by decide +kernel
theorem dX7_roundBinary_40 : decode cX7_roundBinary 40 = .ok (.ladd, 1) := by decide +kernel
theorem dX7_roundBinary_41 : decode cX7_roundBinary 41 = .ok (.lstore 7, 2) := by decide +kernel
theorem dX7_roundBinary_43 : decode cX7_roundBinary 43 = .ok (.aload_n 0, 1) := by decide +kernel
theorem dX7_roundBinary_44 : decode cX7_roundBinary 44 = .ok (.getfield 22, 3) := by decide +kernel
theorem dX7_roundBinary_47 : decode cX7_roundBinary 47 = .ok (.lconst 1, 1) := by decide +kernel
theorem dX7_roundBinary_48 : decode cX7_roundBinary 48 = .ok (.invokestatic 128, 3) := by decide +kernel
theorem dX7_roundBinary_51 : decode cX7_roundBinary 51 = .ok (.lload 7, 2) := by decide +kernel
theorem dX7_roundBinary_53 : decode cX7_roundBinary 53 = .ok (.ldc2_w 138, 3) := by decide +kernel
theorem dX7_roundBinary_56 : decode cX7_roundBinary 56 = .ok (.lcmp, 1) := by decide +kernel
theorem dX7_roundBinary_57 : decode cX7_roundBinary 57 = .ok (.ifCond .le 24, 3) := by decide +kernel
theorem dX7_roundBinary_60 : decode cX7_roundBinary 60 = .ok (.aload_n 0, 1) := by decide +kernel
theorem dX7_roundBinary_61 : decode cX7_roundBinary 61 = .ok (.getfield 19, 3) := by decide +kernel
theorem dX7_roundBinary_64 : decode cX7_roundBinary 64 = .ok (.lconst 1, 1) := by decide +kernel
theorem dX7_roundBinary_65 : decode cX7_roundBinary 65 = .ok (.invokestatic 128, 3) := by decide +kernel
theorem dX7_roundBinary_68 : decode cX7_roundBinary 68 = .ok (.aload_n 0, 1) := by decide +kernel
theorem dX7_roundBinary_69 : decode cX7_roundBinary 69 = .ok (.getfield 19, 3) := by decide +kernel
theorem dX7_roundBinary_72 : decode cX7_roundBinary 72 = .ok (.sipush 1100, 3) := by decide +kernel
theorem dX7_roundBinary_75 : decode cX7_roundBinary 75 = .ok (.invokestatic 97, 3) := by decide +kernel
theorem dX7_roundBinary_78 : decode cX7_roundBinary 78 = .ok (.goto 61, 3) := by decide +kernel
theorem dX7_roundBinary_81 : decode cX7_roundBinary 81 = .ok (.lload 7, 2) := by decide +kernel
theorem dX7_roundBinary_83 : decode cX7_roundBinary 83 = .ok (.ldc2_w 140, 3) := by decide +kernel
theorem dX7_roundBinary_86 : decode cX7_roundBinary 86 = .ok (.lcmp, 1) := by decide +kernel
theorem dX7_roundBinary_87 : decode cX7_roundBinary 87 = .ok (.ifCond .ge 24, 3) := by decide +kernel
theorem dX7_roundBinary_90 : decode cX7_roundBinary 90 = .ok (.aload_n 0, 1) := by decide +kernel
theorem dX7_roundBinary_91 : decode cX7_roundBinary 91 = .ok (.getfield 19, 3) := by decide +kernel
theorem dX7_roundBinary_94 : decode cX7_roundBinary 94 = .ok (.lconst 1, 1) := by decide +kernel
theorem dX7_roundBinary_95 : decode cX7_roundBinary 95 = .ok (.invokestatic 128, 3) := by decide +kernel
theorem dX7_roundBinary_98 : decode cX7_roundBinary 98 = .ok (.aload_n 0, 1) := by decide +kernel
theorem dX7_roundBinary_99 : decode cX7_roundBinary 99 = .ok (.getfield 22, 3) := by decide +kernel
theorem dX7_roundBinary_102 : decode cX7_roundBinary 102 = .ok (.sipush 1300, 3) := by decide +kernel
theorem dX7_roundBinary_105 : decode cX7_roundBinary 105 = .ok (.invokestatic 97, 3) := by decide +kernel
theorem dX7_roundBinary_108 : decode cX7_roundBinary 108 = .ok (.goto 31, 3) := by decide +kernel
theorem dX7_roundBinary_111 : decode cX7_roundBinary 111 = .ok (.lload_n 3, 1) := by decide +kernel
theorem dX7_roundBinary_112 : decode cX7_roundBinary 112 = .ok (.lconst 0, 1) := by decide +kernel
theorem dX7_roundBinary_113 : decode cX7_roundBinary 113 = .ok (.lcmp, 1) := by decide +kernel
theorem dX7_roundBinary_114 : decode cX7_roundBinary 114 = .ok (.ifCond .le 15, 3) := by decide +kernel
theorem dX7_roundBinary_117 : decode cX7_roundBinary 117 = .ok (.aload_n 0, 1) := by decide +kernel
theorem dX7_roundBinary_118 : decode cX7_roundBinary 118 = .ok (.getfield 19, 3) := by decide +kernel
theorem dX7_roundBinary_121 : decode cX7_roundBinary 121 = .ok (.lload_n 3, 1) := by decide +kernel
theorem dX7_roundBinary_122 : decode cX7_roundBinary 122 = .ok (.l2i, 1) := by decide +kernel
theorem dX7_roundBinary_123 : decode cX7_roundBinary 123 = .ok (.invokestatic 97, 3) := by decide +kernel
theorem dX7_roundBinary_126 : decode cX7_roundBinary 126 = .ok (.goto 13, 3) := by decide +kernel
theorem dX7_roundBinary_129 : decode cX7_roundBinary 129 = .ok (.aload_n 0, 1) := by decide +kernel
theorem dX7_roundBinary_130 : decode cX7_roundBinary 130 = .ok (.getfield 22, 3) := by decide +kernel
theorem dX7_roundBinary_133 : decode cX7_roundBinary 133 = .ok (.lload_n 3, 1) := by decide +kernel
theorem dX7_roundBinary_134 : decode cX7_roundBinary 134 = .ok (.lneg, 1) := by decide +kernel
theorem dX7_roundBinary_135 : decode cX7_roundBinary 135 = .ok (.l2i, 1) := by decide +kernel
theorem dX7_roundBinary_136 : decode cX7_roundBinary 136 = .ok (.invokestatic 97, 3) := by decide +kernel
theorem dX7_roundBinary_139 : decode cX7_roundBinary 139 = .ok (.aload_n 0, 1) := by decide +kernel
theorem dX7_roundBinary_140 : decode cX7_roundBinary 140 = .ok (.iload_n 1, 1) := by decide +kernel
theorem dX7_roundBinary_141 : decode cX7_roundBinary 141 = .ok (.iload_n 2, 1) := by decide +kernel
theorem dX7_roundBinary_142 : decode cX7_roundBinary 142 = .ok (.iload 5, 2) := by decide +kernel
theorem dX7_roundBinary_144 : decode cX7_roundBinary 144 = .ok (.invokevirtual 135, 3) := by decide +kernel
theorem dX7_roundBinary_147 : decode cX7_roundBinary 147 = .ok (.return_, 1) := by decide +kernel
theorem dX7_keep_0 : decode cX7_keep 0 = .ok (.aload_n 0, 1) := by decide +kernel
theorem dX7_keep_1 : decode cX7_keep 1 = .ok (.aload_n 0, 1) := by decide +kernel
theorem dX7_keep_2 : decode cX7_keep 2 = .ok (.getfield 105, 3) := by decide +kernel
theorem dX7_keep_5 : decode cX7_keep 5 = .ok (.putfield 142, 3) := by decide +kernel
theorem dX7_keep_8 : decode cX7_keep 8 = .ok (.aload_n 0, 1) := by decide +kernel
theorem dX7_keep_9 : decode cX7_keep 9 = .ok (.aload_n 0, 1) := by decide +kernel
theorem dX7_keep_10 : decode cX7_keep 10 = .ok (.getfield 108, 3) := by decide +kernel
theorem dX7_keep_13 : decode cX7_keep 13 = .ok (.putfield 145, 3) := by decide +kernel
theorem dX7_keep_16 : decode cX7_keep 16 = .ok (.return_, 1) := by decide +kernel
theorem dX7_type_0 : decode cX7_type 0 = .ok (.aload_n 0, 1) := by decide +kernel
theorem dX7_type_1 : decode cX7_type 1 = .ok (.iload_n 3, 1) := by decide +kernel
theorem dX7_type_2 : decode cX7_type 2 = .ok (.i2l, 1) := by decide +kernel
theorem dX7_type_3 : decode cX7_type 3 = .ok (.lconst 0, 1) := by decide +kernel
theorem dX7_type_4 : decode cX7_type 4 = .ok (.ldc2_w 148, 3) := by decide +kernel
theorem dX7_type_7 : decode cX7_type 7 = .ok (.invokestatic 52, 3) := by decide +kernel
theorem dX7_type_10 : decode cX7_type 10 = .ok (.invokevirtual 150, 3) := by decide +kernel
theorem dX7_type_13 : decode cX7_type 13 = .ok (.ifCond .eq 5, 3) := by decide +kernel
theorem dX7_type_16 : decode cX7_type 16 = .ok (.iconst 0, 1) := by decide +kernel
theorem dX7_type_17 : decode cX7_type 17 = .ok (.ireturn, 1) := by decide +kernel
theorem dX7_type_18 : decode cX7_type 18 = .ok (.aload_n 0, 1) := by decide +kernel
theorem dX7_type_19 : decode cX7_type 19 = .ok (.getfield 154, 3) := by decide +kernel
theorem dX7_type_22 : decode cX7_type 22 = .ok (.iload_n 3, 1) := by decide +kernel
theorem dX7_type_23 : decode cX7_type 23 = .ok (.iadd, 1) := by decide +kernel
theorem dX7_type_24 : decode cX7_type 24 = .ok (.sipush 1600, 3) := by decide +kernel
theorem dX7_type_27 : decode cX7_type 27 = .ok (.if_icmp .le 5, 3) := by decide +kernel
theorem dX7_type_30 : decode cX7_type 30 = .ok (.iconst (-1), 1) := by decide +kernel
theorem dX7_type_31 : decode cX7_type 31 = .ok (.ireturn, 1) := by decide +kernel
theorem dX7_type_32 : decode cX7_type 32 = .ok (.iconst 0, 1) := by decide +kernel
theorem dX7_type_33 : decode cX7_type 33 = .ok (.istore 4, 2) := by decide +kernel
theorem dX7_type_35 : decode cX7_type 35 = .ok (.iload 4, 2) := by decide +kernel
theorem dX7_type_37 : decode cX7_type 37 = .ok (.iload_n 3, 1) := by decide +kernel
theorem dX7_type_38 : decode cX7_type 38 = .ok (.if_icmp .ge 40, 3) := by decide +kernel
theorem dX7_type_41 : decode cX7_type 41 = .ok (.aload_n 0, 1) := by decide +kernel
theorem dX7_type_42 : decode cX7_type 42 = .ok (.getfield 7, 3) := by decide +kernel
theorem dX7_type_45 : decode cX7_type 45 = .ok (.aload_n 0, 1) := by decide +kernel
theorem dX7_type_46 : decode cX7_type 46 = .ok (.getfield 154, 3) := by decide +kernel
theorem dX7_type_49 : decode cX7_type 49 = .ok (.lload_n 1, 1) := by decide +kernel
theorem dX7_type_50 : decode cX7_type 50 = .ok (.bipush 8, 2) := by decide +kernel
theorem dX7_type_52 : decode cX7_type 52 = .ok (.iload 4, 2) := by decide +kernel
theorem dX7_type_54 : decode cX7_type 54 = .ok (.imul, 1) := by decide +kernel
theorem dX7_type_55 : decode cX7_type 55 = .ok (.lshr, 1) := by decide +kernel
theorem dX7_type_56 : decode cX7_type 56 = .ok (.ldc2_w 157, 3) := by decide +kernel
theorem dX7_type_59 : decode cX7_type 59 = .ok (.land, 1) := by decide +kernel
theorem dX7_type_60 : decode cX7_type 60 = .ok (.l2i, 1) := by decide +kernel
theorem dX7_type_61 : decode cX7_type 61 = .ok (.iastore, 1) := by decide +kernel
theorem dX7_type_62 : decode cX7_type 62 = .ok (.aload_n 0, 1) := by decide +kernel
theorem dX7_type_63 : decode cX7_type 63 = .ok (.dup, 1) := by decide +kernel
theorem dX7_type_64 : decode cX7_type 64 = .ok (.getfield 154, 3) := by decide +kernel
theorem dX7_type_67 : decode cX7_type 67 = .ok (.iconst 1, 1) := by decide +kernel
theorem dX7_type_68 : decode cX7_type 68 = .ok (.iadd, 1) := by decide +kernel
theorem dX7_type_69 : decode cX7_type 69 = .ok (.putfield 154, 3) := by decide +kernel
theorem dX7_type_72 : decode cX7_type 72 = .ok (.iinc 4 1, 3) := by decide +kernel
theorem dX7_type_75 : decode cX7_type 75 = .ok (.goto (-40), 3) := by decide +kernel
theorem dX7_type_78 : decode cX7_type 78 = .ok (.aload_n 0, 1) := by decide +kernel
theorem dX7_type_79 : decode cX7_type 79 = .ok (.getfield 154, 3) := by decide +kernel
theorem dX7_type_82 : decode cX7_type 82 = .ok (.ireturn, 1) := by decide +kernel
theorem dX7_pass_0 : decode cX7_pass 0 = .ok (.aload_n 0, 1) := by decide +kernel
theorem dX7_pass_1 : decode cX7_pass 1 = .ok (.iconst 0, 1) := by decide +kernel
theorem dX7_pass_2 : decode cX7_pass 2 = .ok (.putfield 34, 3) := by decide +kernel
theorem dX7_pass_5 : decode cX7_pass 5 = .ok (.aload_n 0, 1) := by decide +kernel
theorem dX7_pass_6 : decode cX7_pass 6 = .ok (.getfield 154, 3) := by decide +kernel
theorem dX7_pass_9 : decode cX7_pass 9 = .ok (.aload_n 0, 1) := by decide +kernel
theorem dX7_pass_10 : decode cX7_pass 10 = .ok (.getfield 159, 3) := by decide +kernel
theorem dX7_pass_13 : decode cX7_pass 13 = .ok (.iadd, 1) := by decide +kernel
theorem dX7_pass_14 : decode cX7_pass 14 = .ok (.sipush 1600, 3) := by decide +kernel
theorem dX7_pass_17 : decode cX7_pass 17 = .ok (.if_icmp .le 5, 3) := by decide +kernel
theorem dX7_pass_20 : decode cX7_pass 20 = .ok (.iconst (-1), 1) := by decide +kernel
theorem dX7_pass_21 : decode cX7_pass 21 = .ok (.ireturn, 1) := by decide +kernel
theorem dX7_pass_22 : decode cX7_pass 22 = .ok (.iconst 0, 1) := by decide +kernel
theorem dX7_pass_23 : decode cX7_pass 23 = .ok (.istore_n 1, 1) := by decide +kernel
theorem dX7_pass_24 : decode cX7_pass 24 = .ok (.iload_n 1, 1) := by decide +kernel
theorem dX7_pass_25 : decode cX7_pass 25 = .ok (.aload_n 0, 1) := by decide +kernel
theorem dX7_pass_26 : decode cX7_pass 26 = .ok (.getfield 159, 3) := by decide +kernel
theorem dX7_pass_29 : decode cX7_pass 29 = .ok (.if_icmp .ge 34, 3) := by decide +kernel
theorem dX7_pass_32 : decode cX7_pass 32 = .ok (.aload_n 0, 1) := by decide +kernel
theorem dX7_pass_33 : decode cX7_pass 33 = .ok (.getfield 7, 3) := by decide +kernel
theorem dX7_pass_36 : decode cX7_pass 36 = .ok (.aload_n 0, 1) := by decide +kernel
theorem dX7_pass_37 : decode cX7_pass 37 = .ok (.getfield 154, 3) := by decide +kernel
theorem dX7_pass_40 : decode cX7_pass 40 = .ok (.aload_n 0, 1) := by decide +kernel
theorem dX7_pass_41 : decode cX7_pass 41 = .ok (.getfield 13, 3) := by decide +kernel
theorem dX7_pass_44 : decode cX7_pass 44 = .ok (.iload_n 1, 1) := by decide +kernel
theorem dX7_pass_45 : decode cX7_pass 45 = .ok (.iaload, 1) := by decide +kernel
theorem dX7_pass_46 : decode cX7_pass 46 = .ok (.iastore, 1) := by decide +kernel
theorem dX7_pass_47 : decode cX7_pass 47 = .ok (.aload_n 0, 1) := by decide +kernel
theorem dX7_pass_48 : decode cX7_pass 48 = .ok (.dup, 1) := by decide +kernel
theorem dX7_pass_49 : decode cX7_pass 49 = .ok (.getfield 154, 3) := by decide +kernel
theorem dX7_pass_52 : decode cX7_pass 52 = .ok (.iconst 1, 1) := by decide +kernel
theorem dX7_pass_53 : decode cX7_pass 53 = .ok (.iadd, 1) := by decide +kernel
theorem dX7_pass_54 : decode cX7_pass 54 = .ok (.putfield 154, 3) := by decide +kernel
theorem dX7_pass_57 : decode cX7_pass 57 = .ok (.iinc 1 1, 3) := by decide +kernel
theorem dX7_pass_60 : decode cX7_pass 60 = .ok (.goto (-36), 3) := by decide +kernel
theorem dX7_pass_63 : decode cX7_pass 63 = .ok (.aload_n 0, 1) := by decide +kernel
theorem dX7_pass_64 : decode cX7_pass 64 = .ok (.getfield 154, 3) := by decide +kernel
theorem dX7_pass_67 : decode cX7_pass 67 = .ok (.ireturn, 1) := by decide +kernel
theorem dX7_clear_0 : decode cX7_clear 0 = .ok (.aload_n 0, 1) := by decide +kernel
theorem dX7_clear_1 : decode cX7_clear 1 = .ok (.iconst 0, 1) := by decide +kernel
theorem dX7_clear_2 : decode cX7_clear 2 = .ok (.putfield 34, 3) := by decide +kernel
theorem dX7_clear_5 : decode cX7_clear 5 = .ok (.aload_n 0, 1) := by decide +kernel
theorem dX7_clear_6 : decode cX7_clear 6 = .ok (.getfield 154, 3) := by decide +kernel
theorem dX7_clear_9 : decode cX7_clear 9 = .ok (.istore_n 1, 1) := by decide +kernel
theorem dX7_clear_10 : decode cX7_clear 10 = .ok (.aload_n 0, 1) := by decide +kernel
theorem dX7_clear_11 : decode cX7_clear 11 = .ok (.iconst 0, 1) := by decide +kernel
theorem dX7_clear_12 : decode cX7_clear 12 = .ok (.putfield 154, 3) := by decide +kernel
theorem dX7_clear_15 : decode cX7_clear 15 = .ok (.iload_n 1, 1) := by decide +kernel
theorem dX7_clear_16 : decode cX7_clear 16 = .ok (.ireturn, 1) := by decide +kernel
theorem dX7_peek_0 : decode cX7_peek 0 = .ok (.aload_n 0, 1) := by decide +kernel
theorem dX7_peek_1 : decode cX7_peek 1 = .ok (.getfield 162, 3) := by decide +kernel
theorem dX7_peek_4 : decode cX7_peek 4 = .ok (.aload_n 0, 1) := by decide +kernel
theorem dX7_peek_5 : decode cX7_peek 5 = .ok (.getfield 154, 3) := by decide +kernel
theorem dX7_peek_8 : decode cX7_peek 8 = .ok (.if_icmp .ge 15, 3) := by decide +kernel
theorem dX7_peek_11 : decode cX7_peek 11 = .ok (.aload_n 0, 1) := by decide +kernel
theorem dX7_peek_12 : decode cX7_peek 12 = .ok (.getfield 7, 3) := by decide +kernel
theorem dX7_peek_15 : decode cX7_peek 15 = .ok (.aload_n 0, 1) := by decide +kernel
theorem dX7_peek_16 : decode cX7_peek 16 = .ok (.getfield 162, 3) := by decide +kernel
theorem dX7_peek_19 : decode cX7_peek 19 = .ok (.iaload, 1) := by decide +kernel
theorem dX7_peek_20 : decode cX7_peek 20 = .ok (.goto 4, 3) := by decide +kernel
theorem dX7_peek_23 : decode cX7_peek 23 = .ok (.iconst (-1), 1) := by decide +kernel
theorem dX7_peek_24 : decode cX7_peek 24 = .ok (.ireturn, 1) := by decide +kernel
theorem dX7_small_0 : decode cX7_small 0 = .ok (.iload_n 0, 1) := by decide +kernel
theorem dX7_small_1 : decode cX7_small 1 = .ok (.bipush 65, 2) := by decide +kernel
theorem dX7_small_3 : decode cX7_small 3 = .ok (.if_icmp .lt 16, 3) := by decide +kernel
theorem dX7_small_6 : decode cX7_small 6 = .ok (.iload_n 0, 1) := by decide +kernel
theorem dX7_small_7 : decode cX7_small 7 = .ok (.bipush 90, 2) := by decide +kernel
theorem dX7_small_9 : decode cX7_small 9 = .ok (.if_icmp .gt 10, 3) := by decide +kernel
theorem dX7_small_12 : decode cX7_small 12 = .ok (.iload_n 0, 1) := by decide +kernel
theorem dX7_small_13 : decode cX7_small 13 = .ok (.bipush 32, 2) := by decide +kernel
theorem dX7_small_15 : decode cX7_small 15 = .ok (.iadd, 1) := by decide +kernel
theorem dX7_small_16 : decode cX7_small 16 = .ok (.goto 4, 3) := by decide +kernel
theorem dX7_small_19 : decode cX7_small 19 = .ok (.iload_n 0, 1) := by decide +kernel
theorem dX7_small_20 : decode cX7_small 20 = .ok (.ireturn, 1) := by decide +kernel
theorem dX7_figure_0 : decode cX7_figure 0 = .ok (.iload_n 0, 1) := by decide +kernel
theorem dX7_figure_1 : decode cX7_figure 1 = .ok (.invokestatic 165, 3) := by decide +kernel
theorem dX7_figure_4 : decode cX7_figure 4 = .ok (.istore_n 1, 1) := by decide +kernel
theorem dX7_figure_5 : decode cX7_figure 5 = .ok (.iload_n 0, 1) := by decide +kernel
theorem dX7_figure_6 : decode cX7_figure 6 = .ok (.bipush 48, 2) := by decide +kernel
theorem dX7_figure_8 : decode cX7_figure 8 = .ok (.if_icmp .lt 16, 3) := by decide +kernel
theorem dX7_figure_11 : decode cX7_figure 11 = .ok (.iload_n 0, 1) := by decide +kernel
theorem dX7_figure_12 : decode cX7_figure 12 = .ok (.bipush 57, 2) := by decide +kernel
theorem dX7_figure_14 : decode cX7_figure 14 = .ok (.if_icmp .gt 10, 3) := by decide +kernel
theorem dX7_figure_17 : decode cX7_figure 17 = .ok (.iload_n 0, 1) := by decide +kernel
theorem dX7_figure_18 : decode cX7_figure 18 = .ok (.bipush 48, 2) := by decide +kernel
theorem dX7_figure_20 : decode cX7_figure 20 = .ok (.isub, 1) := by decide +kernel
theorem dX7_figure_21 : decode cX7_figure 21 = .ok (.goto 27, 3) := by decide +kernel
theorem dX7_figure_24 : decode cX7_figure 24 = .ok (.iload_n 1, 1) := by decide +kernel
theorem dX7_figure_25 : decode cX7_figure 25 = .ok (.bipush 97, 2) := by decide +kernel
theorem dX7_figure_27 : decode cX7_figure 27 = .ok (.if_icmp .lt 19, 3) := by decide +kernel
theorem dX7_figure_30 : decode cX7_figure 30 = .ok (.iload_n 1, 1) := by decide +kernel
theorem dX7_figure_31 : decode cX7_figure 31 = .ok (.bipush 102, 2) := by decide +kernel
theorem dX7_figure_33 : decode cX7_figure 33 = .ok (.if_icmp .gt 13, 3) := by decide +kernel
theorem dX7_figure_36 : decode cX7_figure 36 = .ok (.iload_n 1, 1) := by decide +kernel
theorem dX7_figure_37 : decode cX7_figure 37 = .ok (.bipush 97, 2) := by decide +kernel
theorem dX7_figure_39 : decode cX7_figure 39 = .ok (.isub, 1) := by decide +kernel
theorem dX7_figure_40 : decode cX7_figure 40 = .ok (.bipush 10, 2) := by decide +kernel
theorem dX7_figure_42 : decode cX7_figure 42 = .ok (.iadd, 1) := by decide +kernel
theorem dX7_figure_43 : decode cX7_figure 43 = .ok (.goto 5, 3) := by decide +kernel
theorem dX7_figure_46 : decode cX7_figure 46 = .ok (.bipush 99, 2) := by decide +kernel
theorem dX7_figure_48 : decode cX7_figure 48 = .ok (.ireturn, 1) := by decide +kernel
theorem dX7_isWord_0 : decode cX7_isWord 0 = .ok (.iload_n 2, 1) := by decide +kernel
theorem dX7_isWord_1 : decode cX7_isWord 1 = .ok (.istore_n 3, 1) := by decide +kernel
theorem dX7_isWord_2 : decode cX7_isWord 2 = .ok (.iload_n 3, 1) := by decide +kernel
theorem dX7_isWord_3 : decode cX7_isWord 3 = .ok (.aload_n 1, 1) := by decide +kernel
theorem dX7_isWord_4 : decode cX7_isWord 4 = .ok (.invokevirtual 168, 3) := by decide +kernel
theorem dX7_isWord_7 : decode cX7_isWord 7 = .ok (.if_icmp .ge 44, 3) := by decide +kernel
theorem dX7_isWord_10 : decode cX7_isWord 10 = .ok (.aload_n 0, 1) := by decide +kernel
theorem dX7_isWord_11 : decode cX7_isWord 11 = .ok (.invokevirtual 172, 3) := by decide +kernel
theorem dX7_isWord_14 : decode cX7_isWord 14 = .ok (.invokestatic 165, 3) := by decide +kernel
theorem dX7_isWord_17 : decode cX7_isWord 17 = .ok (.aload_n 1, 1) := by decide +kernel
theorem dX7_isWord_18 : decode cX7_isWord 18 = .ok (.iload_n 3, 1) := by decide +kernel
theorem dX7_isWord_19 : decode cX7_isWord 19 = .ok (.invokevirtual 175, 3) := by decide +kernel
theorem dX7_isWord_22 : decode cX7_isWord 22 = .ok (.if_icmp .eq 13, 3) := by decide +kernel
theorem dX7_isWord_25 : decode cX7_isWord 25 = .ok (.aload_n 0, 1) := by decide +kernel
theorem dX7_isWord_26 : decode cX7_isWord 26 = .ok (.aload_n 0, 1) := by decide +kernel
theorem dX7_isWord_27 : decode cX7_isWord 27 = .ok (.getfield 162, 3) := by decide +kernel
theorem dX7_isWord_30 : decode cX7_isWord 30 = .ok (.putfield 179, 3) := by decide +kernel
theorem dX7_isWord_33 : decode cX7_isWord 33 = .ok (.iconst 0, 1) := by decide +kernel
theorem dX7_isWord_34 : decode cX7_isWord 34 = .ok (.ireturn, 1) := by decide +kernel
theorem dX7_isWord_35 : decode cX7_isWord 35 = .ok (.aload_n 0, 1) := by decide +kernel
theorem dX7_isWord_36 : decode cX7_isWord 36 = .ok (.dup, 1) := by decide +kernel
theorem dX7_isWord_37 : decode cX7_isWord 37 = .ok (.getfield 162, 3) := by decide +kernel
theorem dX7_isWord_40 : decode cX7_isWord 40 = .ok (.iconst 1, 1) := by decide +kernel
theorem dX7_isWord_41 : decode cX7_isWord 41 = .ok (.iadd, 1) := by decide +kernel
theorem dX7_isWord_42 : decode cX7_isWord 42 = .ok (.putfield 162, 3) := by decide +kernel
theorem dX7_isWord_45 : decode cX7_isWord 45 = .ok (.iinc 3 1, 3) := by decide +kernel
theorem dX7_isWord_48 : decode cX7_isWord 48 = .ok (.goto (-46), 3) := by decide +kernel
theorem dX7_isWord_51 : decode cX7_isWord 51 = .ok (.iconst 1, 1) := by decide +kernel
theorem dX7_isWord_52 : decode cX7_isWord 52 = .ok (.ireturn, 1) := by decide +kernel
theorem dX7_takeSign_0 : decode cX7_takeSign 0 = .ok (.aload_n 0, 1) := by decide +kernel
theorem dX7_takeSign_1 : decode cX7_takeSign 1 = .ok (.invokevirtual 172, 3) := by decide +kernel
theorem dX7_takeSign_4 : decode cX7_takeSign 4 = .ok (.istore_n 1, 1) := by decide +kernel
theorem dX7_takeSign_5 : decode cX7_takeSign 5 = .ok (.aload_n 0, 1) := by decide +kernel
theorem dX7_takeSign_6 : decode cX7_takeSign 6 = .ok (.dup, 1) := by decide +kernel
theorem dX7_takeSign_7 : decode cX7_takeSign 7 = .ok (.getfield 162, 3) := by decide +kernel
theorem dX7_takeSign_10 : decode cX7_takeSign 10 = .ok (.iload_n 1, 1) := by decide +kernel
theorem dX7_takeSign_11 : decode cX7_takeSign 11 = .ok (.bipush 43, 2) := by decide +kernel
theorem dX7_takeSign_13 : decode cX7_takeSign 13 = .ok (.if_icmp .eq 9, 3) := by decide +kernel
theorem dX7_takeSign_16 : decode cX7_takeSign 16 = .ok (.iload_n 1, 1) := by decide +kernel
theorem dX7_takeSign_17 : decode cX7_takeSign 17 = .ok (.bipush 45, 2) := by decide +kernel
theorem dX7_takeSign_19 : decode cX7_takeSign 19 = .ok (.if_icmp .ne 7, 3) := by decide +kernel
theorem dX7_takeSign_22 : decode cX7_takeSign 22 = .ok (.iconst 1, 1) := by decide +kernel
theorem dX7_takeSign_23 : decode cX7_takeSign 23 = .ok (.goto 4, 3) := by decide +kernel
theorem dX7_takeSign_26 : decode cX7_takeSign 26 = .ok (.iconst 0, 1) := by decide +kernel
theorem dX7_takeSign_27 : decode cX7_takeSign 27 = .ok (.iadd, 1) := by decide +kernel
theorem dX7_takeSign_28 : decode cX7_takeSign 28 = .ok (.putfield 162, 3) := by decide +kernel
theorem dX7_takeSign_31 : decode cX7_takeSign 31 = .ok (.iload_n 1, 1) := by decide +kernel
theorem dX7_takeSign_32 : decode cX7_takeSign 32 = .ok (.bipush 45, 2) := by decide +kernel
theorem dX7_takeSign_34 : decode cX7_takeSign 34 = .ok (.if_icmp .ne 7, 3) := by decide +kernel
theorem dX7_takeSign_37 : decode cX7_takeSign 37 = .ok (.iconst 1, 1) := by decide +kernel
theorem dX7_takeSign_38 : decode cX7_takeSign 38 = .ok (.goto 4, 3) := by decide +kernel
theorem dX7_takeSign_41 : decode cX7_takeSign 41 = .ok (.iconst 0, 1) := by decide +kernel
theorem dX7_takeSign_42 : decode cX7_takeSign 42 = .ok (.ireturn, 1) := by decide +kernel
theorem dX7_takeFigures_0 : decode cX7_takeFigures 0 = .ok (.iconst 0, 1) := by decide +kernel
theorem dX7_takeFigures_1 : decode cX7_takeFigures 1 = .ok (.istore_n 2, 1) := by decide +kernel
theorem dX7_takeFigures_2 : decode cX7_takeFigures 2 = .ok (.iconst 0, 1) := by decide +kernel
theorem dX7_takeFigures_3 : decode cX7_takeFigures 3 = .ok (.istore_n 3, 1) := by decide +kernel
theorem dX7_takeFigures_4 : decode cX7_takeFigures 4 = .ok (.aload_n 0, 1) := by decide +kernel
theorem dX7_takeFigures_5 : decode cX7_takeFigures 5 = .ok (.iconst 0, 1) := by decide +kernel
theorem dX7_takeFigures_6 : decode cX7_takeFigures 6 = .ok (.putfield 125, 3) := by decide +kernel
theorem dX7_takeFigures_9 : decode cX7_takeFigures 9 = .ok (.aload_n 0, 1) := by decide +kernel
theorem dX7_takeFigures_10 : decode cX7_takeFigures 10 = .ok (.invokevirtual 172, 3) := by decide +kernel
theorem dX7_takeFigures_13 : decode cX7_takeFigures 13 = .ok (.invokestatic 182, 3) := by decide +kernel
theorem dX7_takeFigures_16 : decode cX7_takeFigures 16 = .ok (.iload_n 1, 1) := by decide +kernel
theorem dX7_takeFigures_17 : decode cX7_takeFigures 17 = .ok (.if_icmp .lt 16, 3) := by decide +kernel
theorem dX7_takeFigures_20 : decode cX7_takeFigures 20 = .ok (.aload_n 0, 1) := by decide +kernel
theorem dX7_takeFigures_21 : decode cX7_takeFigures 21 = .ok (.invokevirtual 172, 3) := by decide +kernel
theorem dX7_takeFigures_24 : decode cX7_takeFigures 24 = .ok (.bipush 46, 2) := by decide +kernel
theorem dX7_takeFigures_26 : decode cX7_takeFigures 26 = .ok (.if_icmp .ne 72, 3) := by decide +kernel
theorem dX7_takeFigures_29 : decode cX7_takeFigures 29 = .ok (.iload_n 2, 1) := by decide +kernel
theorem dX7_takeFigures_30 : decode cX7_takeFigures 30 = .ok (.ifCond .ne 68, 3) := by decide +kernel
theorem dX7_takeFigures_33 : decode cX7_takeFigures 33 = .ok (.aload_n 0, 1) := by decide +kernel
theorem dX7_takeFigures_34 : decode cX7_takeFigures 34 = .ok (.invokevirtual 172, 3) := by decide +kernel
theorem dX7_takeFigures_37 : decode cX7_takeFigures 37 = .ok (.bipush 46, 2) := by decide +kernel
theorem dX7_takeFigures_39 : decode cX7_takeFigures 39 = .ok (.if_icmp .ne 8, 3) := by decide +kernel
theorem dX7_takeFigures_42 : decode cX7_takeFigures 42 = .ok (.iconst 1, 1) := by decide +kernel
theorem dX7_takeFigures_43 : decode cX7_takeFigures 43 = .ok (.istore_n 2, 1) := by decide +kernel
theorem dX7_takeFigures_44 : decode cX7_takeFigures 44 = .ok (.goto 41, 3) := by decide +kernel
theorem dX7_takeFigures_47 : decode cX7_takeFigures 47 = .ok (.aload_n 0, 1) := by decide +kernel
theorem dX7_takeFigures_48 : decode cX7_takeFigures 48 = .ok (.getfield 31, 3) := by decide +kernel
theorem dX7_takeFigures_51 : decode cX7_takeFigures 51 = .ok (.aload_n 0, 1) := by decide +kernel
theorem dX7_takeFigures_52 : decode cX7_takeFigures 52 = .ok (.getfield 125, 3) := by decide +kernel
theorem dX7_takeFigures_55 : decode cX7_takeFigures 55 = .ok (.aload_n 0, 1) := by decide +kernel
theorem dX7_takeFigures_56 : decode cX7_takeFigures 56 = .ok (.invokevirtual 172, 3) := by decide +kernel
theorem dX7_takeFigures_59 : decode cX7_takeFigures 59 = .ok (.invokestatic 182, 3) := by decide +kernel
theorem dX7_takeFigures_62 : decode cX7_takeFigures 62 = .ok (.iastore, 1) := by decide +kernel
theorem dX7_takeFigures_63 : decode cX7_takeFigures 63 = .ok (.aload_n 0, 1) := by decide +kernel
theorem dX7_takeFigures_64 : decode cX7_takeFigures 64 = .ok (.dup, 1) := by decide +kernel
theorem dX7_takeFigures_65 : decode cX7_takeFigures 65 = .ok (.getfield 125, 3) := by decide +kernel
theorem dX7_takeFigures_68 : decode cX7_takeFigures 68 = .ok (.iconst 1, 1) := by decide +kernel
theorem dX7_takeFigures_69 : decode cX7_takeFigures 69 = .ok (.iadd, 1) := by decide +kernel
theorem dX7_takeFigures_70 : decode cX7_takeFigures 70 = .ok (.putfield 125, 3) := by decide +kernel
theorem dX7_takeFigures_73 : decode cX7_takeFigures 73 = .ok (.iload_n 3, 1) := by decide +kernel
theorem dX7_takeFigures_74 : decode cX7_takeFigures 74 = .ok (.iload_n 2, 1) := by decide +kernel
theorem dX7_takeFigures_75 : decode cX7_takeFigures 75 = .ok (.ifCond .eq 7, 3) := by decide +kernel
theorem dX7_takeFigures_78 : decode cX7_takeFigures 78 = .ok (.iconst 1, 1) := by decide +kernel
theorem dX7_takeFigures_79 : decode cX7_takeFigures 79 = .ok (.goto 4, 3) := by decide +kernel
theorem dX7_takeFigures_82 : decode cX7_takeFigures 82 = .ok (.iconst 0, 1) := by decide +kernel
theorem dX7_takeFigures_83 : decode cX7_takeFigures 83 = .ok (.iadd, 1) := by decide +kernel
theorem dX7_takeFigures_84 : decode cX7_takeFigures 84 = .ok (.istore_n 3, 1) := by decide +kernel
theorem dX7_takeFigures_85 : decode cX7_takeFigures 85 = .ok (.aload_n 0, 1) := by decide +kernel
theorem dX7_takeFigures_86 : decode cX7_takeFigures 86 = .ok (.dup, 1) := by decide +kernel
theorem dX7_takeFigures_87 : decode cX7_takeFigures 87 = .ok (.getfield 162, 3) := by decide +kernel
theorem dX7_takeFigures_90 : decode cX7_takeFigures 90 = .ok (.iconst 1, 1) := by decide +kernel
theorem dX7_takeFigures_91 : decode cX7_takeFigures 91 = .ok (.iadd, 1) := by decide +kernel
theorem dX7_takeFigures_92 : decode cX7_takeFigures 92 = .ok (.putfield 162, 3) := by decide +kernel
theorem dX7_takeFigures_95 : decode cX7_takeFigures 95 = .ok (.goto (-86), 3) := by decide +kernel
theorem dX7_takeFigures_98 : decode cX7_takeFigures 98 = .ok (.aload_n 0, 1) := by decide +kernel
theorem dX7_takeFigures_99 : decode cX7_takeFigures 99 = .ok (.getfield 125, 3) := by decide +kernel
theorem dX7_takeFigures_102 : decode cX7_takeFigures 102 = .ok (.ifCond .ne 13, 3) := by decide +kernel
theorem dX7_takeFigures_105 : decode cX7_takeFigures 105 = .ok (.aload_n 0, 1) := by decide +kernel
theorem dX7_takeFigures_106 : decode cX7_takeFigures 106 = .ok (.aload_n 0, 1) := by decide +kernel
theorem dX7_takeFigures_107 : decode cX7_takeFigures 107 = .ok (.getfield 162, 3) := by decide +kernel
theorem dX7_takeFigures_110 : decode cX7_takeFigures 110 = .ok (.putfield 179, 3) := by decide +kernel
theorem dX7_takeFigures_113 : decode cX7_takeFigures 113 = .ok (.iconst (-1), 1) := by decide +kernel
theorem dX7_takeFigures_114 : decode cX7_takeFigures 114 = .ok (.ireturn, 1) := by decide +kernel
theorem dX7_takeFigures_115 : decode cX7_takeFigures 115 = .ok (.iload_n 3, 1) := by decide +kernel
theorem dX7_takeFigures_116 : decode cX7_takeFigures 116 = .ok (.ireturn, 1) := by decide +kernel
theorem dX7_takeExponent_0 : decode cX7_takeExponent 0 = .ok (.iconst 0, 1) := by decide +kernel
theorem dX7_takeExponent_1 : decode cX7_takeExponent 1 = .ok (.istore_n 2, 1) := by decide +kernel
theorem dX7_takeExponent_2 : decode cX7_takeExponent 2 = .ok (.aload_n 0, 1) := by decide +kernel
theorem dX7_takeExponent_3 : decode cX7_takeExponent 3 = .ok (.invokevirtual 172, 3) := by decide +kernel
theorem dX7_takeExponent_6 : decode cX7_takeExponent 6 = .ok (.invokestatic 165, 3) := by decide +kernel
theorem dX7_takeExponent_9 : decode cX7_takeExponent 9 = .ok (.iload_n 1, 1) := by decide +kernel
theorem dX7_takeExponent_10 : decode cX7_takeExponent 10 = .ok (.if_icmp .ne 113, 3) := by decide +kernel
theorem dX7_takeExponent_13 : decode cX7_takeExponent 13 = .ok (.aload_n 0, 1) := by decide +kernel
theorem dX7_takeExponent_14 : decode cX7_takeExponent 14 = .ok (.dup, 1) := by decide +kernel
theorem dX7_takeExponent_15 : decode cX7_takeExponent 15 = .ok (.getfield 162, 3) := by decide +kernel
theorem dX7_takeExponent_18 : decode cX7_takeExponent 18 = .ok (.iconst 1, 1) := by decide +kernel
theorem dX7_takeExponent_19 : decode cX7_takeExponent 19 = .ok (.iadd, 1) := by decide +kernel
theorem dX7_takeExponent_20 : decode cX7_takeExponent 20 = .ok (.putfield 162, 3) := by decide +kernel
theorem dX7_takeExponent_23 : decode cX7_takeExponent 23 = .ok (.aload_n 0, 1) := by decide +kernel
theorem dX7_takeExponent_24 : decode cX7_takeExponent 24 = .ok (.invokevirtual 185, 3) := by decide +kernel
theorem dX7_takeExponent_27 : decode cX7_takeExponent 27 = .ok (.istore_n 3, 1) := by decide +kernel
theorem dX7_takeExponent_28 : decode cX7_takeExponent 28 = .ok (.aload_n 0, 1) := by decide +kernel
theorem dX7_takeExponent_29 : decode cX7_takeExponent 29 = .ok (.getfield 162, 3) := by decide +kernel
theorem dX7_takeExponent_32 : decode cX7_takeExponent 32 = .ok (.istore 4, 2) := by decide +kernel
theorem dX7_takeExponent_34 : decode cX7_takeExponent 34 = .ok (.aload_n 0, 1) := by decide +kernel
theorem dX7_takeExponent_35 : decode cX7_takeExponent 35 = .ok (.invokevirtual 172, 3) := by decide +kernel
theorem dX7_takeExponent_38 : decode cX7_takeExponent 38 = .ok (.bipush 48, 2) := by decide +kernel
theorem dX7_takeExponent_40 : decode cX7_takeExponent 40 = .ok (.if_icmp .lt 48, 3) := by decide +kernel
theorem dX7_takeExponent_43 : decode cX7_takeExponent 43 = .ok (.aload_n 0, 1) := by decide +kernel
theorem dX7_takeExponent_44 : decode cX7_takeExponent 44 = .ok (.invokevirtual 172, 3) := by decide +kernel
theorem dX7_takeExponent_47 : decode cX7_takeExponent 47 = .ok (.bipush 57, 2) := by decide +kernel
theorem dX7_takeExponent_49 : decode cX7_takeExponent 49 = .ok (.if_icmp .gt 39, 3) := by decide +kernel
theorem dX7_takeExponent_52 : decode cX7_takeExponent 52 = .ok (.iload_n 2, 1) := by decide +kernel
theorem dX7_takeExponent_53 : decode cX7_takeExponent 53 = .ok (.ldc 189, 2) := by decide +kernel
theorem dX7_takeExponent_55 : decode cX7_takeExponent 55 = .ok (.if_icmp .ge 18, 3) := by decide +kernel
theorem dX7_takeExponent_58 : decode cX7_takeExponent 58 = .ok (.bipush 10, 2) := by decide +kernel
theorem dX7_takeExponent_60 : decode cX7_takeExponent 60 = .ok (.iload_n 2, 1) := by decide +kernel
theorem dX7_takeExponent_61 : decode cX7_takeExponent 61 = .ok (.imul, 1) := by decide +kernel
theorem dX7_takeExponent_62 : decode cX7_takeExponent 62 = .ok (.aload_n 0, 1) := by decide +kernel
theorem dX7_takeExponent_63 : decode cX7_takeExponent 63 = .ok (.invokevirtual 172, 3) := by decide +kernel
theorem dX7_takeExponent_66 : decode cX7_takeExponent 66 = .ok (.iadd, 1) := by decide +kernel
theorem dX7_takeExponent_67 : decode cX7_takeExponent 67 = .ok (.bipush 48, 2) := by decide +kernel
theorem dX7_takeExponent_69 : decode cX7_takeExponent 69 = .ok (.isub, 1) := by decide +kernel
theorem dX7_takeExponent_70 : decode cX7_takeExponent 70 = .ok (.goto 4, 3) := by decide +kernel
theorem dX7_takeExponent_73 : decode cX7_takeExponent 73 = .ok (.iload_n 2, 1) := by decide +kernel
theorem dX7_takeExponent_74 : decode cX7_takeExponent 74 = .ok (.istore_n 2, 1) := by decide +kernel
theorem dX7_takeExponent_75 : decode cX7_takeExponent 75 = .ok (.aload_n 0, 1) := by decide +kernel
theorem dX7_takeExponent_76 : decode cX7_takeExponent 76 = .ok (.dup, 1) := by decide +kernel
theorem dX7_takeExponent_77 : decode cX7_takeExponent 77 = .ok (.getfield 162, 3) := by decide +kernel
theorem dX7_takeExponent_80 : decode cX7_takeExponent 80 = .ok (.iconst 1, 1) := by decide +kernel
theorem dX7_takeExponent_81 : decode cX7_takeExponent 81 = .ok (.iadd, 1) := by decide +kernel
theorem dX7_takeExponent_82 : decode cX7_takeExponent 82 = .ok (.putfield 162, 3) := by decide +kernel
theorem dX7_takeExponent_85 : decode cX7_takeExponent 85 = .ok (.goto (-51), 3) := by decide +kernel
theorem dX7_takeExponent_88 : decode cX7_takeExponent 88 = .ok (.aload_n 0, 1) := by decide +kernel
theorem dX7_takeExponent_89 : decode cX7_takeExponent 89 = .ok (.aload_n 0, 1) := by decide +kernel
theorem dX7_takeExponent_90 : decode cX7_takeExponent 90 = .ok (.getfield 162, 3) := by decide +kernel
theorem dX7_takeExponent_93 : decode cX7_takeExponent 93 = .ok (.iload 4, 2) := by decide +kernel
theorem dX7_takeExponent_95 : decode cX7_takeExponent 95 = .ok (.if_icmp .ne 10, 3) := by decide +kernel
theorem dX7_takeExponent_98 : decode cX7_takeExponent 98 = .ok (.aload_n 0, 1) := by decide +kernel
theorem dX7_takeExponent_99 : decode cX7_takeExponent 99 = .ok (.getfield 162, 3) := by decide +kernel
theorem dX7_takeExponent_102 : decode cX7_takeExponent 102 = .ok (.goto 7, 3) := by decide +kernel
theorem dX7_takeExponent_105 : decode cX7_takeExponent 105 = .ok (.aload_n 0, 1) := by decide +kernel
theorem dX7_takeExponent_106 : decode cX7_takeExponent 106 = .ok (.getfield 179, 3) := by decide +kernel
theorem dX7_takeExponent_109 : decode cX7_takeExponent 109 = .ok (.putfield 179, 3) := by decide +kernel
theorem dX7_takeExponent_112 : decode cX7_takeExponent 112 = .ok (.iload_n 3, 1) := by decide +kernel
theorem dX7_takeExponent_113 : decode cX7_takeExponent 113 = .ok (.ifCond .eq 8, 3) := by decide +kernel
theorem dX7_takeExponent_116 : decode cX7_takeExponent 116 = .ok (.iload_n 2, 1) := by decide +kernel
theorem dX7_takeExponent_117 : decode cX7_takeExponent 117 = .ok (.ineg, 1) := by decide +kernel
theorem dX7_takeExponent_118 : decode cX7_takeExponent 118 = .ok (.goto 4, 3) := by decide +kernel
theorem dX7_takeExponent_121 : decode cX7_takeExponent 121 = .ok (.iload_n 2, 1) := by decide +kernel
theorem dX7_takeExponent_122 : decode cX7_takeExponent 122 = .ok (.istore_n 2, 1) := by decide +kernel
theorem dX7_takeExponent_123 : decode cX7_takeExponent 123 = .ok (.aload_n 0, 1) := by decide +kernel
theorem dX7_takeExponent_124 : decode cX7_takeExponent 124 = .ok (.aload_n 0, 1) := by decide +kernel
theorem dX7_takeExponent_125 : decode cX7_takeExponent 125 = .ok (.getfield 179, 3) := by decide +kernel
theorem dX7_takeExponent_128 : decode cX7_takeExponent 128 = .ok (.iconst (-1), 1) := by decide +kernel
theorem dX7_takeExponent_129 : decode cX7_takeExponent 129 = .ok (.if_icmp .ne 21, 3) := by decide +kernel
theorem dX7_takeExponent_132 : decode cX7_takeExponent 132 = .ok (.aload_n 0, 1) := by decide +kernel
theorem dX7_takeExponent_133 : decode cX7_takeExponent 133 = .ok (.getfield 162, 3) := by decide +kernel
theorem dX7_takeExponent_136 : decode cX7_takeExponent 136 = .ok (.aload_n 0, 1) := by decide +kernel
theorem dX7_takeExponent_137 : decode cX7_takeExponent 137 = .ok (.getfield 154, 3) := by decide +kernel
theorem dX7_takeExponent_140 : decode cX7_takeExponent 140 = .ok (.if_icmp .ge 10, 3) := by decide +kernel
theorem dX7_takeExponent_143 : decode cX7_takeExponent 143 = .ok (.aload_n 0, 1) := by decide +kernel
theorem dX7_takeExponent_144 : decode cX7_takeExponent 144 = .ok (.getfield 162, 3) := by decide +kernel
theorem dX7_takeExponent_147 : decode cX7_takeExponent 147 = .ok (.goto 7, 3) := by decide +kernel
theorem dX7_takeExponent_150 : decode cX7_takeExponent 150 = .ok (.aload_n 0, 1) := by decide +kernel
theorem dX7_takeExponent_151 : decode cX7_takeExponent 151 = .ok (.getfield 179, 3) := by decide +kernel
theorem dX7_takeExponent_154 : decode cX7_takeExponent 154 = .ok (.putfield 179, 3) := by decide +kernel
theorem dX7_takeExponent_157 : decode cX7_takeExponent 157 = .ok (.iload_n 2, 1) := by decide +kernel
theorem dX7_takeExponent_158 : decode cX7_takeExponent 158 = .ok (.ireturn, 1) := by decide +kernel
theorem dX7_readWord_0 : decode cX7_readWord 0 = .ok (.iload_n 2, 1) := by decide +kernel
theorem dX7_readWord_1 : decode cX7_readWord 1 = .ok (.ifCond .eq 10, 3) := by decide +kernel
theorem dX7_readWord_4 : decode cX7_readWord 4 = .ok (.iload_n 1, 1) := by decide +kernel
theorem dX7_readWord_5 : decode cX7_readWord 5 = .ok (.invokestatic 56, 3) := by decide +kernel
theorem dX7_readWord_8 : decode cX7_readWord 8 = .ok (.goto 4, 3) := by decide +kernel
theorem dX7_readWord_11 : decode cX7_readWord 11 = .ok (.lconst 0, 1) := by decide +kernel
theorem dX7_readWord_12 : decode cX7_readWord 12 = .ok (.lstore_n 3, 1) := by decide +kernel
theorem dX7_readWord_13 : decode cX7_readWord 13 = .ok (.aload_n 0, 1) := by decide +kernel
theorem dX7_readWord_14 : decode cX7_readWord 14 = .ok (.iconst 0, 1) := by decide +kernel
theorem dX7_readWord_15 : decode cX7_readWord 15 = .ok (.putfield 108, 3) := by decide +kernel
theorem dX7_readWord_18 : decode cX7_readWord 18 = .ok (.aload_n 0, 1) := by decide +kernel
theorem dX7_readWord_19 : decode cX7_readWord 19 = .ok (.invokevirtual 172, 3) := by decide +kernel
theorem dX7_readWord_22 : decode cX7_readWord 22 = .ok (.invokestatic 165, 3) := by decide +kernel
theorem dX7_readWord_25 : decode cX7_readWord 25 = .ok (.bipush 110, 2) := by decide +kernel
theorem dX7_readWord_27 : decode cX7_readWord 27 = .ok (.if_icmp .ne 34, 3) := by decide +kernel
theorem dX7_readWord_30 : decode cX7_readWord 30 = .ok (.aload_n 0, 1) := by decide +kernel
theorem dX7_readWord_31 : decode cX7_readWord 31 = .ok (.ldc 190, 2) := by decide +kernel
theorem dX7_readWord_33 : decode cX7_readWord 33 = .ok (.iconst 0, 1) := by decide +kernel
theorem dX7_readWord_34 : decode cX7_readWord 34 = .ok (.invokevirtual 192, 3) := by decide +kernel
theorem dX7_readWord_37 : decode cX7_readWord 37 = .ok (.istore 5, 2) := by decide +kernel
theorem dX7_readWord_39 : decode cX7_readWord 39 = .ok (.aload_n 0, 1) := by decide +kernel
theorem dX7_readWord_40 : decode cX7_readWord 40 = .ok (.lload_n 3, 1) := by decide +kernel
theorem dX7_readWord_41 : decode cX7_readWord 41 = .ok (.iload_n 1, 1) := by decide +kernel
theorem dX7_readWord_42 : decode cX7_readWord 42 = .ok (.invokestatic 64, 3) := by decide +kernel
theorem dX7_readWord_45 : decode cX7_readWord 45 = .ok (.lor, 1) := by decide +kernel
theorem dX7_readWord_46 : decode cX7_readWord 46 = .ok (.lconst 1, 1) := by decide +kernel
theorem dX7_readWord_47 : decode cX7_readWord 47 = .ok (.iload_n 1, 1) := by decide +kernel
theorem dX7_readWord_48 : decode cX7_readWord 48 = .ok (.invokestatic 42, 3) := by decide +kernel
theorem dX7_readWord_51 : decode cX7_readWord 51 = .ok (.iconst 2, 1) := by decide +kernel
theorem dX7_readWord_52 : decode cX7_readWord 52 = .ok (.isub, 1) := by decide +kernel
theorem dX7_readWord_53 : decode cX7_readWord 53 = .ok (.lshl, 1) := by decide +kernel
theorem dX7_readWord_54 : decode cX7_readWord 54 = .ok (.lor, 1) := by decide +kernel
theorem dX7_readWord_55 : decode cX7_readWord 55 = .ok (.putfield 105, 3) := by decide +kernel
theorem dX7_readWord_58 : decode cX7_readWord 58 = .ok (.goto 51, 3) := by decide +kernel
theorem dX7_readWord_61 : decode cX7_readWord 61 = .ok (.aload_n 0, 1) := by decide +kernel
theorem dX7_readWord_62 : decode cX7_readWord 62 = .ok (.ldc 196, 2) := by decide +kernel
theorem dX7_readWord_64 : decode cX7_readWord 64 = .ok (.iconst 0, 1) := by decide +kernel
theorem dX7_readWord_65 : decode cX7_readWord 65 = .ok (.invokevirtual 192, 3) := by decide +kernel
theorem dX7_readWord_68 : decode cX7_readWord 68 = .ok (.ifCond .eq 41, 3) := by decide +kernel
theorem dX7_readWord_71 : decode cX7_readWord 71 = .ok (.aload_n 0, 1) := by decide +kernel
theorem dX7_readWord_72 : decode cX7_readWord 72 = .ok (.lload_n 3, 1) := by decide +kernel
theorem dX7_readWord_73 : decode cX7_readWord 73 = .ok (.iload_n 1, 1) := by decide +kernel
theorem dX7_readWord_74 : decode cX7_readWord 74 = .ok (.invokestatic 64, 3) := by decide +kernel
theorem dX7_readWord_77 : decode cX7_readWord 77 = .ok (.lor, 1) := by decide +kernel
theorem dX7_readWord_78 : decode cX7_readWord 78 = .ok (.putfield 105, 3) := by decide +kernel
theorem dX7_readWord_81 : decode cX7_readWord 81 = .ok (.aload_n 0, 1) := by decide +kernel
theorem dX7_readWord_82 : decode cX7_readWord 82 = .ok (.getfield 162, 3) := by decide +kernel
theorem dX7_readWord_85 : decode cX7_readWord 85 = .ok (.aload_n 0, 1) := by decide +kernel
theorem dX7_readWord_86 : decode cX7_readWord 86 = .ok (.getfield 154, 3) := by decide +kernel
theorem dX7_readWord_89 : decode cX7_readWord 89 = .ok (.if_icmp .eq 13, 3) := by decide +kernel
theorem dX7_readWord_92 : decode cX7_readWord 92 = .ok (.aload_n 0, 1) := by decide +kernel
theorem dX7_readWord_93 : decode cX7_readWord 93 = .ok (.ldc 198, 2) := by decide +kernel
theorem dX7_readWord_95 : decode cX7_readWord 95 = .ok (.iconst 3, 1) := by decide +kernel
theorem dX7_readWord_96 : decode cX7_readWord 96 = .ok (.invokevirtual 192, 3) := by decide +kernel
theorem dX7_readWord_99 : decode cX7_readWord 99 = .ok (.ifCond .eq 7, 3) := by decide +kernel
theorem dX7_readWord_102 : decode cX7_readWord 102 = .ok (.iconst 1, 1) := by decide +kernel
theorem dX7_readWord_103 : decode cX7_readWord 103 = .ok (.goto 4, 3) := by decide +kernel
theorem dX7_readWord_106 : decode cX7_readWord 106 = .ok (.iconst 0, 1) := by decide +kernel
theorem dX7_readWord_107 : decode cX7_readWord 107 = .ok (.istore 5, 2) := by decide +kernel
theorem dX7_readWord_109 : decode cX7_readWord 109 = .ok (.aload_n 0, 1) := by decide +kernel
theorem dX7_readWord_110 : decode cX7_readWord 110 = .ok (.aload_n 0, 1) := by decide +kernel
theorem dX7_readWord_111 : decode cX7_readWord 111 = .ok (.getfield 179, 3) := by decide +kernel
theorem dX7_readWord_114 : decode cX7_readWord 114 = .ok (.iconst (-1), 1) := by decide +kernel
theorem dX7_readWord_115 : decode cX7_readWord 115 = .ok (.if_icmp .ne 21, 3) := by decide +kernel
theorem dX7_readWord_118 : decode cX7_readWord 118 = .ok (.aload_n 0, 1) := by decide +kernel
theorem dX7_readWord_119 : decode cX7_readWord 119 = .ok (.getfield 162, 3) := by decide +kernel
theorem dX7_readWord_122 : decode cX7_readWord 122 = .ok (.aload_n 0, 1) := by decide +kernel
theorem dX7_readWord_123 : decode cX7_readWord 123 = .ok (.getfield 154, 3) := by decide +kernel
theorem dX7_readWord_126 : decode cX7_readWord 126 = .ok (.if_icmp .ge 10, 3) := by decide +kernel
theorem dX7_readWord_129 : decode cX7_readWord 129 = .ok (.aload_n 0, 1) := by decide +kernel
theorem dX7_readWord_130 : decode cX7_readWord 130 = .ok (.getfield 162, 3) := by decide +kernel
theorem dX7_readWord_133 : decode cX7_readWord 133 = .ok (.goto 7, 3) := by decide +kernel
theorem dX7_readWord_136 : decode cX7_readWord 136 = .ok (.aload_n 0, 1) := by decide +kernel
theorem dX7_readWord_137 : decode cX7_readWord 137 = .ok (.getfield 179, 3) := by decide +kernel
theorem dX7_readWord_140 : decode cX7_readWord 140 = .ok (.putfield 179, 3) := by decide +kernel
theorem dX7_readWord_143 : decode cX7_readWord 143 = .ok (.return_, 1) := by decide +kernel
theorem dX7_read_0 : decode cX7_read 0 = .ok (.aload_n 0, 1) := by decide +kernel
theorem dX7_read_1 : decode cX7_read 1 = .ok (.iload_n 1, 1) := by decide +kernel
theorem dX7_read_2 : decode cX7_read 2 = .ok (.i2l, 1) := by decide +kernel
theorem dX7_read_3 : decode cX7_read 3 = .ok (.lconst 0, 1) := by decide +kernel
theorem dX7_read_4 : decode cX7_read 4 = .ok (.ldc2_w 50, 3) := by decide +kernel
theorem dX7_read_7 : decode cX7_read 7 = .ok (.invokestatic 52, 3) := by decide +kernel
theorem dX7_read_10 : decode cX7_read 10 = .ok (.ifCond .eq 19, 3) := by decide +kernel
theorem dX7_read_13 : decode cX7_read 13 = .ok (.iload_n 2, 1) := by decide +kernel
theorem dX7_read_14 : decode cX7_read 14 = .ok (.i2l, 1) := by decide +kernel
theorem dX7_read_15 : decode cX7_read 15 = .ok (.lconst 0, 1) := by decide +kernel
theorem dX7_read_16 : decode cX7_read 16 = .ok (.ldc2_w 200, 3) := by decide +kernel
theorem dX7_read_19 : decode cX7_read 19 = .ok (.invokestatic 52, 3) := by decide +kernel
theorem dX7_read_22 : decode cX7_read 22 = .ok (.ifCond .eq 7, 3) := by decide +kernel
theorem dX7_read_25 : decode cX7_read 25 = .ok (.iconst 1, 1) := by decide +kernel
theorem dX7_read_26 : decode cX7_read 26 = .ok (.goto 4, 3) := by decide +kernel
theorem dX7_read_29 : decode cX7_read 29 = .ok (.iconst 0, 1) := by decide +kernel
theorem dX7_read_30 : decode cX7_read 30 = .ok (.invokevirtual 150, 3) := by decide +kernel
theorem dX7_read_33 : decode cX7_read 33 = .ok (.ifCond .eq 5, 3) := by decide +kernel
theorem dX7_read_36 : decode cX7_read 36 = .ok (.iconst 0, 1) := by decide +kernel
theorem dX7_read_37 : decode cX7_read 37 = .ok (.ireturn, 1) := by decide +kernel
theorem dX7_read_38 : decode cX7_read 38 = .ok (.aload_n 0, 1) := by decide +kernel
theorem dX7_read_39 : decode cX7_read 39 = .ok (.iconst 0, 1) := by decide +kernel
theorem dX7_read_40 : decode cX7_read 40 = .ok (.putfield 162, 3) := by decide +kernel
theorem dX7_read_43 : decode cX7_read 43 = .ok (.aload_n 0, 1) := by decide +kernel
theorem dX7_read_44 : decode cX7_read 44 = .ok (.iconst (-1), 1) := by decide +kernel
theorem dX7_read_45 : decode cX7_read 45 = .ok (.putfield 179, 3) := by decide +kernel
theorem dX7_read_48 : decode cX7_read 48 = .ok (.aload_n 0, 1) := by decide +kernel
theorem dX7_read_49 : decode cX7_read 49 = .ok (.invokevirtual 185, 3) := by decide +kernel
theorem dX7_read_52 : decode cX7_read 52 = .ok (.istore_n 3, 1) := by decide +kernel
theorem dX7_read_53 : decode cX7_read 53 = .ok (.aload_n 0, 1) := by decide +kernel
theorem dX7_read_54 : decode cX7_read 54 = .ok (.invokevirtual 172, 3) := by decide +kernel
theorem dX7_read_57 : decode cX7_read 57 = .ok (.invokestatic 165, 3) := by decide +kernel
theorem dX7_read_60 : decode cX7_read 60 = .ok (.istore 4, 2) := by decide +kernel
theorem dX7_read_62 : decode cX7_read 62 = .ok (.iload 4, 2) := by decide +kernel
theorem dX7_read_64 : decode cX7_read 64 = .ok (.bipush 105, 2) := by decide +kernel
theorem dX7_read_66 : decode cX7_read 66 = .ok (.if_icmp .eq 10, 3) := by decide +kernel
theorem dX7_read_69 : decode cX7_read 69 = .ok (.iload 4, 2) := by decide +kernel
theorem dX7_read_71 : decode cX7_read 71 = .ok (.bipush 110, 2) := by decide +kernel
theorem dX7_read_73 : decode cX7_read 73 = .ok (.if_icmp .ne 12, 3) := by decide +kernel
theorem dX7_read_76 : decode cX7_read 76 = .ok (.aload_n 0, 1) := by decide +kernel
theorem dX7_read_77 : decode cX7_read 77 = .ok (.iload_n 1, 1) := by decide +kernel
theorem dX7_read_78 : decode cX7_read 78 = .ok (.iload_n 3, 1) := by decide +kernel
theorem dX7_read_79 : decode cX7_read 79 = .ok (.invokevirtual 202, 3) := by decide +kernel
theorem dX7_read_82 : decode cX7_read 82 = .ok (.goto 194, 3) := by decide +kernel
theorem dX7_read_85 : decode cX7_read 85 = .ok (.iload 4, 2) := by decide +kernel
theorem dX7_read_87 : decode cX7_read 87 = .ok (.bipush 48, 2) := by decide +kernel
theorem dX7_read_89 : decode cX7_read 89 = .ok (.if_icmp .ne 141, 3) := by decide +kernel
theorem dX7_read_92 : decode cX7_read 92 = .ok (.aload_n 0, 1) := by decide +kernel
theorem dX7_read_93 : decode cX7_read 93 = .ok (.getfield 162, 3) := by decide +kernel
theorem dX7_read_96 : decode cX7_read 96 = .ok (.iconst 1, 1) := by decide +kernel
theorem dX7_read_97 : decode cX7_read 97 = .ok (.iadd, 1) := by decide +kernel
theorem dX7_read_98 : decode cX7_read 98 = .ok (.aload_n 0, 1) := by decide +kernel
theorem dX7_read_99 : decode cX7_read 99 = .ok (.getfield 154, 3) := by decide +kernel
theorem dX7_read_102 : decode cX7_read 102 = .ok (.if_icmp .ge 128, 3) := by decide +kernel
theorem dX7_read_105 : decode cX7_read 105 = .ok (.aload_n 0, 1) := by decide +kernel
theorem dX7_read_106 : decode cX7_read 106 = .ok (.getfield 7, 3) := by decide +kernel
theorem dX7_read_109 : decode cX7_read 109 = .ok (.aload_n 0, 1) := by decide +kernel
theorem dX7_read_110 : decode cX7_read 110 = .ok (.getfield 162, 3) := by decide +kernel
theorem dX7_read_113 : decode cX7_read 113 = .ok (.iconst 1, 1) := by decide +kernel
theorem dX7_read_114 : decode cX7_read 114 = .ok (.iadd, 1) := by decide +kernel
theorem dX7_read_115 : decode cX7_read 115 = .ok (.iaload, 1) := by decide +kernel
theorem dX7_read_116 : decode cX7_read 116 = .ok (.invokestatic 165, 3) := by decide +kernel
theorem dX7_read_119 : decode cX7_read 119 = .ok (.bipush 120, 2) := by decide +kernel
theorem dX7_read_121 : decode cX7_read 121 = .ok (.if_icmp .ne 109, 3) := by decide +kernel
theorem dX7_read_124 : decode cX7_read 124 = .ok (.aload_n 0, 1) := by decide +kernel
theorem dX7_read_125 : decode cX7_read 125 = .ok (.dup, 1) := by decide +kernel
theorem dX7_read_126 : decode cX7_read 126 = .ok (.getfield 162, 3) := by decide +kernel
theorem dX7_read_129 : decode cX7_read 129 = .ok (.iconst 2, 1) := by decide +kernel
theorem dX7_read_130 : decode cX7_read 130 = .ok (.iadd, 1) := by decide +kernel
theorem dX7_read_131 : decode cX7_read 131 = .ok (.putfield 162, 3) := by decide +kernel
theorem dX7_read_134 : decode cX7_read 134 = .ok (.aload_n 0, 1) := by decide +kernel
theorem dX7_read_135 : decode cX7_read 135 = .ok (.bipush 16, 2) := by decide +kernel
theorem dX7_read_137 : decode cX7_read 137 = .ok (.invokevirtual 206, 3) := by decide +kernel
theorem dX7_read_140 : decode cX7_read 140 = .ok (.istore 5, 2) := by decide +kernel
theorem dX7_read_142 : decode cX7_read 142 = .ok (.iload 5, 2) := by decide +kernel
theorem dX7_read_144 : decode cX7_read 144 = .ok (.iconst (-1), 1) := by decide +kernel
theorem dX7_read_145 : decode cX7_read 145 = .ok (.if_icmp .ne 7, 3) := by decide +kernel
theorem dX7_read_148 : decode cX7_read 148 = .ok (.iconst 0, 1) := by decide +kernel
theorem dX7_read_149 : decode cX7_read 149 = .ok (.goto 9, 3) := by decide +kernel
theorem dX7_read_152 : decode cX7_read 152 = .ok (.aload_n 0, 1) := by decide +kernel
theorem dX7_read_153 : decode cX7_read 153 = .ok (.bipush 112, 2) := by decide +kernel
theorem dX7_read_155 : decode cX7_read 155 = .ok (.invokevirtual 209, 3) := by decide +kernel
theorem dX7_read_158 : decode cX7_read 158 = .ok (.istore 6, 2) := by decide +kernel
theorem dX7_read_160 : decode cX7_read 160 = .ok (.aload_n 0, 1) := by decide +kernel
theorem dX7_read_161 : decode cX7_read 161 = .ok (.getfield 179, 3) := by decide +kernel
theorem dX7_read_164 : decode cX7_read 164 = .ok (.iconst (-1), 1) := by decide +kernel
theorem dX7_read_165 : decode cX7_read 165 = .ok (.if_icmp .ne 62, 3) := by decide +kernel
theorem dX7_read_168 : decode cX7_read 168 = .ok (.aload_n 0, 1) := by decide +kernel
theorem dX7_read_169 : decode cX7_read 169 = .ok (.getfield 19, 3) := by decide +kernel
theorem dX7_read_172 : decode cX7_read 172 = .ok (.invokestatic 77, 3) := by decide +kernel
theorem dX7_read_175 : decode cX7_read 175 = .ok (.iconst 0, 1) := by decide +kernel
theorem dX7_read_176 : decode cX7_read 176 = .ok (.istore 7, 2) := by decide +kernel
theorem dX7_read_178 : decode cX7_read 178 = .ok (.iload 7, 2) := by decide +kernel
theorem dX7_read_180 : decode cX7_read 180 = .ok (.aload_n 0, 1) := by decide +kernel
theorem dX7_read_181 : decode cX7_read 181 = .ok (.getfield 125, 3) := by decide +kernel
theorem dX7_read_184 : decode cX7_read 184 = .ok (.if_icmp .ge 25, 3) := by decide +kernel
theorem dX7_read_187 : decode cX7_read 187 = .ok (.aload_n 0, 1) := by decide +kernel
theorem dX7_read_188 : decode cX7_read 188 = .ok (.getfield 19, 3) := by decide +kernel
theorem dX7_read_191 : decode cX7_read 191 = .ok (.bipush 16, 2) := by decide +kernel
theorem dX7_read_193 : decode cX7_read 193 = .ok (.aload_n 0, 1) := by decide +kernel
theorem dX7_read_194 : decode cX7_read 194 = .ok (.getfield 31, 3) := by decide +kernel
theorem dX7_read_197 : decode cX7_read 197 = .ok (.iload 7, 2) := by decide +kernel
theorem dX7_read_199 : decode cX7_read 199 = .ok (.iaload, 1) := by decide +kernel
theorem dX7_read_200 : decode cX7_read 200 = .ok (.invokestatic 84, 3) := by decide +kernel
theorem dX7_read_203 : decode cX7_read 203 = .ok (.iinc 7 1, 3) := by decide +kernel
theorem dX7_read_206 : decode cX7_read 206 = .ok (.goto (-28), 3) := by decide +kernel
theorem dX7_read_209 : decode cX7_read 209 = .ok (.aload_n 0, 1) := by decide +kernel
theorem dX7_read_210 : decode cX7_read 210 = .ok (.iload_n 1, 1) := by decide +kernel
theorem dX7_read_211 : decode cX7_read 211 = .ok (.iload_n 3, 1) := by decide +kernel
theorem dX7_read_212 : decode cX7_read 212 = .ok (.iload 6, 2) := by decide +kernel
theorem dX7_read_214 : decode cX7_read 214 = .ok (.i2l, 1) := by decide +kernel
theorem dX7_read_215 : decode cX7_read 215 = .ok (.ldc2_w 200, 3) := by decide +kernel
theorem dX7_read_218 : decode cX7_read 218 = .ok (.iload 5, 2) := by decide +kernel
theorem dX7_read_220 : decode cX7_read 220 = .ok (.i2l, 1) := by decide +kernel
theorem dX7_read_221 : decode cX7_read 221 = .ok (.lmul, 1) := by decide +kernel
theorem dX7_read_222 : decode cX7_read 222 = .ok (.lsub, 1) := by decide +kernel
theorem dX7_read_223 : decode cX7_read 223 = .ok (.iload_n 2, 1) := by decide +kernel
theorem dX7_read_224 : decode cX7_read 224 = .ok (.invokevirtual 212, 3) := by decide +kernel
theorem dX7_read_227 : decode cX7_read 227 = .ok (.goto 49, 3) := by decide +kernel
theorem dX7_read_230 : decode cX7_read 230 = .ok (.aload_n 0, 1) := by decide +kernel
theorem dX7_read_231 : decode cX7_read 231 = .ok (.bipush 10, 2) := by decide +kernel
theorem dX7_read_233 : decode cX7_read 233 = .ok (.invokevirtual 206, 3) := by decide +kernel
theorem dX7_read_236 : decode cX7_read 236 = .ok (.istore 5, 2) := by decide +kernel
theorem dX7_read_238 : decode cX7_read 238 = .ok (.iload 5, 2) := by decide +kernel
theorem dX7_read_240 : decode cX7_read 240 = .ok (.iconst (-1), 1) := by decide +kernel
theorem dX7_read_241 : decode cX7_read 241 = .ok (.if_icmp .ne 7, 3) := by decide +kernel
theorem dX7_read_244 : decode cX7_read 244 = .ok (.iconst 0, 1) := by decide +kernel
theorem dX7_read_245 : decode cX7_read 245 = .ok (.goto 9, 3) := by decide +kernel
theorem dX7_read_248 : decode cX7_read 248 = .ok (.aload_n 0, 1) := by decide +kernel
theorem dX7_read_249 : decode cX7_read 249 = .ok (.bipush 101, 2) := by decide +kernel
theorem dX7_read_251 : decode cX7_read 251 = .ok (.invokevirtual 209, 3) := by decide +kernel
theorem dX7_read_254 : decode cX7_read 254 = .ok (.istore 6, 2) := by decide +kernel
theorem dX7_read_256 : decode cX7_read 256 = .ok (.aload_n 0, 1) := by decide +kernel
theorem dX7_read_257 : decode cX7_read 257 = .ok (.getfield 179, 3) := by decide +kernel
theorem dX7_read_260 : decode cX7_read 260 = .ok (.iconst (-1), 1) := by decide +kernel
theorem dX7_read_261 : decode cX7_read 261 = .ok (.if_icmp .ne 15, 3) := by decide +kernel
theorem dX7_read_264 : decode cX7_read 264 = .ok (.aload_n 0, 1) := by decide +kernel
theorem dX7_read_265 : decode cX7_read 265 = .ok (.iload_n 1, 1) := by decide +kernel
theorem dX7_read_266 : decode cX7_read 266 = .ok (.iload_n 3, 1) := by decide +kernel
theorem dX7_read_267 : decode cX7_read 267 = .ok (.iload 6, 2) := by decide +kernel
theorem dX7_read_269 : decode cX7_read 269 = .ok (.iload 5, 2) := by decide +kernel
theorem dX7_read_271 : decode cX7_read 271 = .ok (.isub, 1) := by decide +kernel
theorem dX7_read_272 : decode cX7_read 272 = .ok (.iload_n 2, 1) := by decide +kernel
theorem dX7_read_273 : decode cX7_read 273 = .ok (.invokevirtual 216, 3) := by decide +kernel
theorem dX7_read_276 : decode cX7_read 276 = .ok (.aload_n 0, 1) := by decide +kernel
theorem dX7_read_277 : decode cX7_read 277 = .ok (.getfield 179, 3) := by decide +kernel
theorem dX7_read_280 : decode cX7_read 280 = .ok (.iconst (-1), 1) := by decide +kernel
theorem dX7_read_281 : decode cX7_read 281 = .ok (.if_icmp .eq 10, 3) := by decide +kernel
theorem dX7_read_284 : decode cX7_read 284 = .ok (.iconst (-1), 1) := by decide +kernel
theorem dX7_read_285 : decode cX7_read 285 = .ok (.aload_n 0, 1) := by decide +kernel
theorem dX7_read_286 : decode cX7_read 286 = .ok (.getfield 179, 3) := by decide +kernel
theorem dX7_read_289 : decode cX7_read 289 = .ok (.isub, 1) := by decide +kernel
theorem dX7_read_290 : decode cX7_read 290 = .ok (.ireturn, 1) := by decide +kernel
theorem dX7_read_291 : decode cX7_read 291 = .ok (.aload_n 0, 1) := by decide +kernel
theorem dX7_read_292 : decode cX7_read 292 = .ok (.invokevirtual 220, 3) := by decide +kernel
theorem dX7_read_295 : decode cX7_read 295 = .ok (.iconst 0, 1) := by decide +kernel
theorem dX7_read_296 : decode cX7_read 296 = .ok (.ireturn, 1) := by decide +kernel
theorem dX7_result_0 : decode cX7_result 0 = .ok (.aload_n 0, 1) := by decide +kernel
theorem dX7_result_1 : decode cX7_result 1 = .ok (.iconst 0, 1) := by decide +kernel
theorem dX7_result_2 : decode cX7_result 2 = .ok (.putfield 34, 3) := by decide +kernel
theorem dX7_result_5 : decode cX7_result 5 = .ok (.aload_n 0, 1) := by decide +kernel
theorem dX7_result_6 : decode cX7_result 6 = .ok (.getfield 142, 3) := by decide +kernel
theorem dX7_result_9 : decode cX7_result 9 = .ok (.lreturn, 1) := by decide +kernel
theorem dX7_flags_0 : decode cX7_flags 0 = .ok (.aload_n 0, 1) := by decide +kernel
theorem dX7_flags_1 : decode cX7_flags 1 = .ok (.iconst 0, 1) := by decide +kernel
theorem dX7_flags_2 : decode cX7_flags 2 = .ok (.putfield 34, 3) := by decide +kernel
theorem dX7_flags_5 : decode cX7_flags 5 = .ok (.aload_n 0, 1) := by decide +kernel
theorem dX7_flags_6 : decode cX7_flags 6 = .ok (.getfield 145, 3) := by decide +kernel
theorem dX7_flags_9 : decode cX7_flags 9 = .ok (.ireturn, 1) := by decide +kernel
theorem dX7_spell_0 : decode cX7_spell 0 = .ok (.aload_n 0, 1) := by decide +kernel
theorem dX7_spell_1 : decode cX7_spell 1 = .ok (.getfield 19, 3) := by decide +kernel
theorem dX7_spell_4 : decode cX7_spell 4 = .ok (.aload_n 0, 1) := by decide +kernel
theorem dX7_spell_5 : decode cX7_spell 5 = .ok (.getfield 67, 3) := by decide +kernel
theorem dX7_spell_8 : decode cX7_spell 8 = .ok (.invokestatic 128, 3) := by decide +kernel
theorem dX7_spell_11 : decode cX7_spell 11 = .ok (.iconst 0, 1) := by decide +kernel
theorem dX7_spell_12 : decode cX7_spell 12 = .ok (.istore_n 1, 1) := by decide +kernel
theorem dX7_spell_13 : decode cX7_spell 13 = .ok (.aload_n 0, 1) := by decide +kernel
theorem dX7_spell_14 : decode cX7_spell 14 = .ok (.getfield 74, 3) := by decide +kernel
theorem dX7_spell_17 : decode cX7_spell 17 = .ok (.ifCond .lt 17, 3) := by decide +kernel
theorem dX7_spell_20 : decode cX7_spell 20 = .ok (.aload_n 0, 1) := by decide +kernel
theorem dX7_spell_21 : decode cX7_spell 21 = .ok (.getfield 19, 3) := by decide +kernel
theorem dX7_spell_24 : decode cX7_spell 24 = .ok (.aload_n 0, 1) := by decide +kernel
theorem dX7_spell_25 : decode cX7_spell 25 = .ok (.getfield 74, 3) := by decide +kernel
theorem dX7_spell_28 : decode cX7_spell 28 = .ok (.invokestatic 97, 3) := by decide +kernel
theorem dX7_spell_31 : decode cX7_spell 31 = .ok (.goto 31, 3) := by decide +kernel
theorem dX7_spell_34 : decode cX7_spell 34 = .ok (.aload_n 0, 1) := by decide +kernel
theorem dX7_spell_35 : decode cX7_spell 35 = .ok (.getfield 74, 3) := by decide +kernel
theorem dX7_spell_38 : decode cX7_spell 38 = .ok (.ineg, 1) := by decide +kernel
theorem dX7_spell_39 : decode cX7_spell 39 = .ok (.istore_n 1, 1) := by decide +kernel
theorem dX7_spell_40 : decode cX7_spell 40 = .ok (.iconst 0, 1) := by decide +kernel
theorem dX7_spell_41 : decode cX7_spell 41 = .ok (.istore_n 2, 1) := by decide +kernel
theorem dX7_spell_42 : decode cX7_spell 42 = .ok (.iload_n 2, 1) := by decide +kernel
theorem dX7_spell_43 : decode cX7_spell 43 = .ok (.iload_n 1, 1) := by decide +kernel
theorem dX7_spell_44 : decode cX7_spell 44 = .ok (.if_icmp .ge 18, 3) := by decide +kernel
theorem dX7_spell_47 : decode cX7_spell 47 = .ok (.aload_n 0, 1) := by decide +kernel
theorem dX7_spell_48 : decode cX7_spell 48 = .ok (.getfield 19, 3) := by decide +kernel
theorem dX7_spell_51 : decode cX7_spell 51 = .ok (.iconst 5, 1) := by decide +kernel
theorem dX7_spell_52 : decode cX7_spell 52 = .ok (.iconst 0, 1) := by decide +kernel
theorem dX7_spell_53 : decode cX7_spell 53 = .ok (.invokestatic 84, 3) := by decide +kernel
theorem dX7_spell_56 : decode cX7_spell 56 = .ok (.iinc 2 1, 3) := by decide +kernel
theorem dX7_spell_59 : decode cX7_spell 59 = .ok (.goto (-17), 3) := by decide +kernel
theorem dX7_spell_62 : decode cX7_spell 62 = .ok (.iconst 0, 1) := by decide +kernel
theorem dX7_spell_63 : decode cX7_spell 63 = .ok (.istore_n 2, 1) := by decide +kernel
theorem dX7_spell_64 : decode cX7_spell 64 = .ok (.aload_n 0, 1) := by decide +kernel
theorem dX7_spell_65 : decode cX7_spell 65 = .ok (.getfield 19, 3) := by decide +kernel
theorem dX7_spell_68 : decode cX7_spell 68 = .ok (.invokestatic 89, 3) := by decide +kernel
theorem dX7_spell_71 : decode cX7_spell 71 = .ok (.ifCond .le 97, 3) := by decide +kernel
theorem dX7_spell_74 : decode cX7_spell 74 = .ok (.lconst 0, 1) := by decide +kernel
theorem dX7_spell_75 : decode cX7_spell 75 = .ok (.lstore_n 3, 1) := by decide +kernel
theorem dX7_spell_76 : decode cX7_spell 76 = .ok (.sipush 319, 3) := by decide +kernel
theorem dX7_spell_79 : decode cX7_spell 79 = .ok (.istore 5, 2) := by decide +kernel
theorem dX7_spell_81 : decode cX7_spell 81 = .ok (.iload 5, 2) := by decide +kernel
theorem dX7_spell_83 : decode cX7_spell 83 = .ok (.ifCond .lt 45, 3) := by decide +kernel
theorem dX7_spell_86 : decode cX7_spell 86 = .ok (.lload_n 3, 1) := by decide +kernel
theorem dX7_spell_87 : decode cX7_spell 87 = .ok (.bipush 30, 2) := by decide +kernel
theorem dX7_spell_89 : decode cX7_spell 89 = .ok (.lshl, 1) := by decide +kernel
theorem dX7_spell_90 : decode cX7_spell 90 = .ok (.aload_n 0, 1) := by decide +kernel
theorem dX7_spell_91 : decode cX7_spell 91 = .ok (.getfield 19, 3) := by decide +kernel
theorem dX7_spell_94 : decode cX7_spell 94 = .ok (.iload 5, 2) := by decide +kernel
theorem dX7_spell_96 : decode cX7_spell 96 = .ok (.iaload, 1) := by decide +kernel
theorem dX7_spell_97 : decode cX7_spell 97 = .ok (.i2l, 1) := by decide +kernel
theorem dX7_spell_98 : decode cX7_spell 98 = .ok (.lor, 1) := by decide +kernel
theorem dX7_spell_99 : decode cX7_spell 99 = .ok (.lstore 6, 2) := by decide +kernel
theorem dX7_spell_101 : decode cX7_spell 101 = .ok (.aload_n 0, 1) := by decide +kernel
theorem dX7_spell_102 : decode cX7_spell 102 = .ok (.getfield 19, 3) := by decide +kernel
theorem dX7_spell_105 : decode cX7_spell 105 = .ok (.iload 5, 2) := by decide +kernel
theorem dX7_spell_107 : decode cX7_spell 107 = .ok (.lload 6, 2) := by decide +kernel
theorem dX7_spell_109 : decode cX7_spell 109 = .ok (.ldc2_w 223, 3) := by decide +kernel
theorem dX7_spell_112 : decode cX7_spell 112 = .ok (.ldiv, 1) := by decide +kernel
theorem dX7_spell_113 : decode cX7_spell 113 = .ok (.l2i, 1) := by decide +kernel
theorem dX7_spell_114 : decode cX7_spell 114 = .ok (.iastore, 1) := by decide +kernel
theorem dX7_spell_115 : decode cX7_spell 115 = .ok (.lload 6, 2) := by decide +kernel
theorem dX7_spell_117 : decode cX7_spell 117 = .ok (.ldc2_w 223, 3) := by decide +kernel
theorem dX7_spell_120 : decode cX7_spell 120 = .ok (.lrem, 1) := by decide +kernel
theorem dX7_spell_121 : decode cX7_spell 121 = .ok (.lstore_n 3, 1) := by decide +kernel
theorem dX7_spell_122 : decode cX7_spell 122 = .ok (.iinc 5 (-1), 3) := by decide +kernel
theorem dX7_spell_125 : decode cX7_spell 125 = .ok (.goto (-44), 3) := by decide +kernel
theorem dX7_spell_128 : decode cX7_spell 128 = .ok (.iconst 0, 1) := by decide +kernel
theorem dX7_spell_129 : decode cX7_spell 129 = .ok (.istore 5, 2) := by decide +kernel
theorem dX7_spell_131 : decode cX7_spell 131 = .ok (.iload 5, 2) := by decide +kernel
theorem dX7_spell_133 : decode cX7_spell 133 = .ok (.bipush 9, 2) := by decide +kernel
theorem dX7_spell_135 : decode cX7_spell 135 = .ok (.if_icmp .ge 30, 3) := by decide +kernel
theorem dX7_spell_138 : decode cX7_spell 138 = .ok (.aload_n 0, 1) := by decide +kernel
theorem dX7_spell_139 : decode cX7_spell 139 = .ok (.getfield 28, 3) := by decide +kernel
theorem dX7_spell_142 : decode cX7_spell 142 = .ok (.iload_n 2, 1) := by decide +kernel
theorem dX7_spell_143 : decode cX7_spell 143 = .ok (.lload_n 3, 1) := by decide +kernel
theorem dX7_spell_144 : decode cX7_spell 144 = .ok (.ldc2_w 225, 3) := by decide +kernel
theorem dX7_spell_147 : decode cX7_spell 147 = .ok (.lrem, 1) := by decide +kernel
theorem dX7_spell_148 : decode cX7_spell 148 = .ok (.l2i, 1) := by decide +kernel
theorem dX7_spell_149 : decode cX7_spell 149 = .ok (.iastore, 1) := by decide +kernel
theorem dX7_spell_150 : decode cX7_spell 150 = .ok (.lload_n 3, 1) := by decide +kernel
theorem dX7_spell_151 : decode cX7_spell 151 = .ok (.ldc2_w 225, 3) := by decide +kernel
theorem dX7_spell_154 : decode cX7_spell 154 = .ok (.ldiv, 1) := by decide +kernel
theorem dX7_spell_155 : decode cX7_spell 155 = .ok (.lstore_n 3, 1) := by decide +kernel
theorem dX7_spell_156 : decode cX7_spell 156 = .ok (.iinc 2 1, 3) := by decide +kernel
theorem dX7_spell_159 : decode cX7_spell 159 = .ok (.iinc 5 1, 3) := by decide +kernel
theorem dX7_spell_162 : decode cX7_spell 162 = .ok (.goto (-31), 3) := by decide +kernel
theorem dX7_spell_165 : decode cX7_spell 165 = .ok (.goto (-101), 3) := by decide +kernel
theorem dX7_spell_168 : decode cX7_spell 168 = .ok (.aload_n 0, 1) := by decide +kernel
theorem dX7_spell_169 : decode cX7_spell 169 = .ok (.getfield 28, 3) := by decide +kernel
theorem dX7_spell_172 : decode cX7_spell 172 = .ok (.iload_n 2, 1) := by decide +kernel
theorem dX7_spell_173 : decode cX7_spell 173 = .ok (.iconst 1, 1) := by decide +kernel
theorem dX7_spell_174 : decode cX7_spell 174 = .ok (.isub, 1) := by decide +kernel
theorem dX7_spell_175 : decode cX7_spell 175 = .ok (.iaload, 1) := by decide +kernel
theorem dX7_spell_176 : decode cX7_spell 176 = .ok (.ifCond .ne 9, 3) := by decide +kernel
theorem dX7_spell_179 : decode cX7_spell 179 = .ok (.iinc 2 (-1), 3) := by decide +kernel
theorem dX7_spell_182 : decode cX7_spell 182 = .ok (.goto (-14), 3) := by decide +kernel
theorem dX7_spell_185 : decode cX7_spell 185 = .ok (.iconst 0, 1) := by decide +kernel
theorem dX7_spell_186 : decode cX7_spell 186 = .ok (.istore_n 3, 1) := by decide +kernel
theorem dX7_spell_187 : decode cX7_spell 187 = .ok (.iload_n 3, 1) := by decide +kernel
theorem dX7_spell_188 : decode cX7_spell 188 = .ok (.iload_n 2, 1) := by decide +kernel
theorem dX7_spell_189 : decode cX7_spell 189 = .ok (.iconst 1, 1) := by decide +kernel
theorem dX7_spell_190 : decode cX7_spell 190 = .ok (.isub, 1) := by decide +kernel
theorem dX7_spell_191 : decode cX7_spell 191 = .ok (.iload_n 3, 1) := by decide +kernel
theorem dX7_spell_192 : decode cX7_spell 192 = .ok (.isub, 1) := by decide +kernel
theorem dX7_spell_193 : decode cX7_spell 193 = .ok (.if_icmp .ge 45, 3) := by decide +kernel
theorem dX7_spell_196 : decode cX7_spell 196 = .ok (.aload_n 0, 1) := by decide +kernel
theorem dX7_spell_197 : decode cX7_spell 197 = .ok (.getfield 28, 3) := by decide +kernel
theorem dX7_spell_200 : decode cX7_spell 200 = .ok (.iload_n 3, 1) := by decide +kernel
theorem dX7_spell_201 : decode cX7_spell 201 = .ok (.iaload, 1) := by decide +kernel
theorem dX7_spell_202 : decode cX7_spell 202 = .ok (.istore 4, 2) := by decide +kernel
theorem dX7_spell_204 : decode cX7_spell 204 = .ok (.aload_n 0, 1) := by decide +kernel
theorem dX7_spell_205 : decode cX7_spell 205 = .ok (.getfield 28, 3) := by decide +kernel
theorem dX7_spell_208 : decode cX7_spell 208 = .ok (.iload_n 3, 1) := by decide +kernel
theorem dX7_spell_209 : decode cX7_spell 209 = .ok (.aload_n 0, 1) := by decide +kernel
theorem dX7_spell_210 : decode cX7_spell 210 = .ok (.getfield 28, 3) := by decide +kernel
theorem dX7_spell_213 : decode cX7_spell 213 = .ok (.iload_n 2, 1) := by decide +kernel
theorem dX7_spell_214 : decode cX7_spell 214 = .ok (.iconst 1, 1) := by decide +kernel
theorem dX7_spell_215 : decode cX7_spell 215 = .ok (.isub, 1) := by decide +kernel
theorem dX7_spell_216 : decode cX7_spell 216 = .ok (.iload_n 3, 1) := by decide +kernel
theorem dX7_spell_217 : decode cX7_spell 217 = .ok (.isub, 1) := by decide +kernel
theorem dX7_spell_218 : decode cX7_spell 218 = .ok (.iaload, 1) := by decide +kernel
theorem dX7_spell_219 : decode cX7_spell 219 = .ok (.iastore, 1) := by decide +kernel
theorem dX7_spell_220 : decode cX7_spell 220 = .ok (.aload_n 0, 1) := by decide +kernel
theorem dX7_spell_221 : decode cX7_spell 221 = .ok (.getfield 28, 3) := by decide +kernel
theorem dX7_spell_224 : decode cX7_spell 224 = .ok (.iload_n 2, 1) := by decide +kernel
theorem dX7_spell_225 : decode cX7_spell 225 = .ok (.iconst 1, 1) := by decide +kernel
theorem dX7_spell_226 : decode cX7_spell 226 = .ok (.isub, 1) := by decide +kernel
theorem dX7_spell_227 : decode cX7_spell 227 = .ok (.iload_n 3, 1) := by decide +kernel
theorem dX7_spell_228 : decode cX7_spell 228 = .ok (.isub, 1) := by decide +kernel
theorem dX7_spell_229 : decode cX7_spell 229 = .ok (.iload 4, 2) := by decide +kernel
theorem dX7_spell_231 : decode cX7_spell 231 = .ok (.iastore, 1) := by decide +kernel
theorem dX7_spell_232 : decode cX7_spell 232 = .ok (.iinc 3 1, 3) := by decide +kernel
theorem dX7_spell_235 : decode cX7_spell 235 = .ok (.goto (-48), 3) := by decide +kernel
theorem dX7_spell_238 : decode cX7_spell 238 = .ok (.aload_n 0, 1) := by decide +kernel
theorem dX7_spell_239 : decode cX7_spell 239 = .ok (.iload_n 2, 1) := by decide +kernel
theorem dX7_spell_240 : decode cX7_spell 240 = .ok (.iload_n 1, 1) := by decide +kernel
theorem dX7_spell_241 : decode cX7_spell 241 = .ok (.isub, 1) := by decide +kernel
theorem dX7_spell_242 : decode cX7_spell 242 = .ok (.putfield 227, 3) := by decide +kernel
theorem dX7_spell_245 : decode cX7_spell 245 = .ok (.aload_n 0, 1) := by decide +kernel
theorem dX7_spell_246 : decode cX7_spell 246 = .ok (.getfield 28, 3) := by decide +kernel
theorem dX7_spell_249 : decode cX7_spell 249 = .ok (.iload_n 2, 1) := by decide +kernel
theorem dX7_spell_250 : decode cX7_spell 250 = .ok (.iconst 1, 1) := by decide +kernel
theorem dX7_spell_251 : decode cX7_spell 251 = .ok (.isub, 1) := by decide +kernel
theorem dX7_spell_252 : decode cX7_spell 252 = .ok (.iaload, 1) := by decide +kernel
theorem dX7_spell_253 : decode cX7_spell 253 = .ok (.ifCond .ne 9, 3) := by decide +kernel
theorem dX7_spell_256 : decode cX7_spell 256 = .ok (.iinc 2 (-1), 3) := by decide +kernel
theorem dX7_spell_259 : decode cX7_spell 259 = .ok (.goto (-14), 3) := by decide +kernel
theorem dX7_spell_262 : decode cX7_spell 262 = .ok (.aload_n 0, 1) := by decide +kernel
theorem dX7_spell_263 : decode cX7_spell 263 = .ok (.iload_n 2, 1) := by decide +kernel
theorem dX7_spell_264 : decode cX7_spell 264 = .ok (.putfield 230, 3) := by decide +kernel
theorem dX7_spell_267 : decode cX7_spell 267 = .ok (.return_, 1) := by decide +kernel
theorem dX7_takeDigits_0 : decode cX7_takeDigits 0 = .ok (.aload_n 0, 1) := by decide +kernel
theorem dX7_takeDigits_1 : decode cX7_takeDigits 1 = .ok (.iload_n 1, 1) := by decide +kernel
theorem dX7_takeDigits_2 : decode cX7_takeDigits 2 = .ok (.putfield 233, 3) := by decide +kernel
theorem dX7_takeDigits_5 : decode cX7_takeDigits 5 = .ok (.aload_n 0, 1) := by decide +kernel
theorem dX7_takeDigits_6 : decode cX7_takeDigits 6 = .ok (.aload_n 0, 1) := by decide +kernel
theorem dX7_takeDigits_7 : decode cX7_takeDigits 7 = .ok (.getfield 227, 3) := by decide +kernel
theorem dX7_takeDigits_10 : decode cX7_takeDigits 10 = .ok (.putfield 236, 3) := by decide +kernel
theorem dX7_takeDigits_13 : decode cX7_takeDigits 13 = .ok (.iconst 0, 1) := by decide +kernel
theorem dX7_takeDigits_14 : decode cX7_takeDigits 14 = .ok (.istore_n 3, 1) := by decide +kernel
theorem dX7_takeDigits_15 : decode cX7_takeDigits 15 = .ok (.iload_n 3, 1) := by decide +kernel
theorem dX7_takeDigits_16 : decode cX7_takeDigits 16 = .ok (.iload_n 1, 1) := by decide +kernel
theorem dX7_takeDigits_17 : decode cX7_takeDigits 17 = .ok (.if_icmp .ge 33, 3) := by decide +kernel
theorem dX7_takeDigits_20 : decode cX7_takeDigits 20 = .ok (.aload_n 0, 1) := by decide +kernel
theorem dX7_takeDigits_21 : decode cX7_takeDigits 21 = .ok (.getfield 16, 3) := by decide +kernel
theorem dX7_takeDigits_24 : decode cX7_takeDigits 24 = .ok (.iload_n 3, 1) := by decide +kernel
theorem dX7_takeDigits_25 : decode cX7_takeDigits 25 = .ok (.iload_n 3, 1) := by decide +kernel
theorem dX7_takeDigits_26 : decode cX7_takeDigits 26 = .ok (.aload_n 0, 1) := by decide +kernel
theorem dX7_takeDigits_27 : decode cX7_takeDigits 27 = .ok (.getfield 230, 3) := by decide +kernel
theorem dX7_takeDigits_30 : decode cX7_takeDigits 30 = .ok (.if_icmp .ge 12, 3) := by decide +kernel
theorem dX7_takeDigits_33 : decode cX7_takeDigits 33 = .ok (.aload_n 0, 1) := by decide +kernel
theorem dX7_takeDigits_34 : decode cX7_takeDigits 34 = .ok (.getfield 28, 3) := by decide +kernel
theorem dX7_takeDigits_37 : decode cX7_takeDigits 37 = .ok (.iload_n 3, 1) := by decide +kernel
theorem dX7_takeDigits_38 : decode cX7_takeDigits 38 = .ok (.iaload, 1) := by decide +kernel
theorem dX7_takeDigits_39 : decode cX7_takeDigits 39 = .ok (.goto 4, 3) := by decide +kernel
theorem dX7_takeDigits_42 : decode cX7_takeDigits 42 = .ok (.iconst 0, 1) := by decide +kernel
theorem dX7_takeDigits_43 : decode cX7_takeDigits 43 = .ok (.iastore, 1) := by decide +kernel
theorem dX7_takeDigits_44 : decode cX7_takeDigits 44 = .ok (.iinc 3 1, 3) := by decide +kernel
theorem dX7_takeDigits_47 : decode cX7_takeDigits 47 = .ok (.goto (-32), 3) := by decide +kernel
theorem dX7_takeDigits_50 : decode cX7_takeDigits 50 = .ok (.iload_n 2, 1) := by decide +kernel
theorem dX7_takeDigits_51 : decode cX7_takeDigits 51 = .ok (.ifCond .ne 4, 3) := by decide +kernel
theorem dX7_takeDigits_54 : decode cX7_takeDigits 54 = .ok (.return_, 1) := by decide +kernel
theorem dX7_takeDigits_55 : decode cX7_takeDigits 55 = .ok (.iload_n 1, 1) := by decide +kernel
theorem dX7_takeDigits_56 : decode cX7_takeDigits 56 = .ok (.iconst 1, 1) := by decide +kernel
theorem dX7_takeDigits_57 : decode cX7_takeDigits 57 = .ok (.isub, 1) := by decide +kernel
theorem dX7_takeDigits_58 : decode cX7_takeDigits 58 = .ok (.istore_n 3, 1) := by decide +kernel
theorem dX7_takeDigits_59 : decode cX7_takeDigits 59 = .ok (.iload_n 3, 1) := by decide +kernel
theorem dX7_takeDigits_60 : decode cX7_takeDigits 60 = .ok (.ifCond .lt 27, 3) := by decide +kernel
theorem dX7_takeDigits_63 : decode cX7_takeDigits 63 = .ok (.aload_n 0, 1) := by decide +kernel
theorem dX7_takeDigits_64 : decode cX7_takeDigits 64 = .ok (.getfield 16, 3) := by decide +kernel
theorem dX7_takeDigits_67 : decode cX7_takeDigits 67 = .ok (.iload_n 3, 1) := by decide +kernel
theorem dX7_takeDigits_68 : decode cX7_takeDigits 68 = .ok (.iaload, 1) := by decide +kernel
theorem dX7_takeDigits_69 : decode cX7_takeDigits 69 = .ok (.bipush 9, 2) := by decide +kernel
theorem dX7_takeDigits_71 : decode cX7_takeDigits 71 = .ok (.if_icmp .ne 16, 3) := by decide +kernel
theorem dX7_takeDigits_74 : decode cX7_takeDigits 74 = .ok (.aload_n 0, 1) := by decide +kernel
theorem dX7_takeDigits_75 : decode cX7_takeDigits 75 = .ok (.getfield 16, 3) := by decide +kernel
theorem dX7_takeDigits_78 : decode cX7_takeDigits 78 = .ok (.iload_n 3, 1) := by decide +kernel
theorem dX7_takeDigits_79 : decode cX7_takeDigits 79 = .ok (.iconst 0, 1) := by decide +kernel
theorem dX7_takeDigits_80 : decode cX7_takeDigits 80 = .ok (.iastore, 1) := by decide +kernel
theorem dX7_takeDigits_81 : decode cX7_takeDigits 81 = .ok (.iinc 3 (-1), 3) := by decide +kernel
theorem dX7_takeDigits_84 : decode cX7_takeDigits 84 = .ok (.goto (-25), 3) := by decide +kernel
theorem dX7_takeDigits_87 : decode cX7_takeDigits 87 = .ok (.iload_n 3, 1) := by decide +kernel
theorem dX7_takeDigits_88 : decode cX7_takeDigits 88 = .ok (.ifCond .lt 16, 3) := by decide +kernel
theorem dX7_takeDigits_91 : decode cX7_takeDigits 91 = .ok (.aload_n 0, 1) := by decide +kernel
theorem dX7_takeDigits_92 : decode cX7_takeDigits 92 = .ok (.getfield 16, 3) := by decide +kernel
theorem dX7_takeDigits_95 : decode cX7_takeDigits 95 = .ok (.iload_n 3, 1) := by decide +kernel
theorem dX7_takeDigits_96 : decode cX7_takeDigits 96 = .ok (.dup2, 1) := by decide +kernel
theorem dX7_takeDigits_97 : decode cX7_takeDigits 97 = .ok (.iaload, 1) := by decide +kernel
theorem dX7_takeDigits_98 : decode cX7_takeDigits 98 = .ok (.iconst 1, 1) := by decide +kernel
theorem dX7_takeDigits_99 : decode cX7_takeDigits 99 = .ok (.iadd, 1) := by decide +kernel
theorem dX7_takeDigits_100 : decode cX7_takeDigits 100 = .ok (.iastore, 1) := by decide +kernel
theorem dX7_takeDigits_101 : decode cX7_takeDigits 101 = .ok (.goto 20, 3) := by decide +kernel
theorem dX7_takeDigits_104 : decode cX7_takeDigits 104 = .ok (.aload_n 0, 1) := by decide +kernel
theorem dX7_takeDigits_105 : decode cX7_takeDigits 105 = .ok (.getfield 16, 3) := by decide +kernel
theorem dX7_takeDigits_108 : decode cX7_takeDigits 108 = .ok (.iconst 0, 1) := by decide +kernel
theorem dX7_takeDigits_109 : decode cX7_takeDigits 109 = .ok (.iconst 1, 1) := by decide +kernel
theorem dX7_takeDigits_110 : decode cX7_takeDigits 110 = .ok (.iastore, 1) := by decide +kernel
theorem dX7_takeDigits_111 : decode cX7_takeDigits 111 = .ok (.aload_n 0, 1) := by decide +kernel
theorem dX7_takeDigits_112 : decode cX7_takeDigits 112 = .ok (.dup, 1) := by decide +kernel
theorem dX7_takeDigits_113 : decode cX7_takeDigits 113 = .ok (.getfield 236, 3) := by decide +kernel
theorem dX7_takeDigits_116 : decode cX7_takeDigits 116 = .ok (.iconst 1, 1) := by decide +kernel
theorem dX7_takeDigits_117 : decode cX7_takeDigits 117 = .ok (.iadd, 1) := by decide +kernel
theorem dX7_takeDigits_118 : decode cX7_takeDigits 118 = .ok (.putfield 236, 3) := by decide +kernel
theorem dX7_takeDigits_121 : decode cX7_takeDigits 121 = .ok (.return_, 1) := by decide +kernel
theorem dX7_behindHalf_0 : decode cX7_behindHalf 0 = .ok (.iload_n 1, 1) := by decide +kernel
theorem dX7_behindHalf_1 : decode cX7_behindHalf 1 = .ok (.aload_n 0, 1) := by decide +kernel
theorem dX7_behindHalf_2 : decode cX7_behindHalf 2 = .ok (.getfield 230, 3) := by decide +kernel
theorem dX7_behindHalf_5 : decode cX7_behindHalf 5 = .ok (.if_icmp .lt 6, 3) := by decide +kernel
theorem dX7_behindHalf_8 : decode cX7_behindHalf 8 = .ok (.bipush (-2), 2) := by decide +kernel
theorem dX7_behindHalf_10 : decode cX7_behindHalf 10 = .ok (.ireturn, 1) := by decide +kernel
theorem dX7_behindHalf_11 : decode cX7_behindHalf 11 = .ok (.aload_n 0, 1) := by decide +kernel
theorem dX7_behindHalf_12 : decode cX7_behindHalf 12 = .ok (.getfield 28, 3) := by decide +kernel
theorem dX7_behindHalf_15 : decode cX7_behindHalf 15 = .ok (.iload_n 1, 1) := by decide +kernel
theorem dX7_behindHalf_16 : decode cX7_behindHalf 16 = .ok (.iaload, 1) := by decide +kernel
theorem dX7_behindHalf_17 : decode cX7_behindHalf 17 = .ok (.istore_n 2, 1) := by decide +kernel
theorem dX7_behindHalf_18 : decode cX7_behindHalf 18 = .ok (.iload_n 2, 1) := by decide +kernel
theorem dX7_behindHalf_19 : decode cX7_behindHalf 19 = .ok (.iconst 5, 1) := by decide +kernel
theorem dX7_behindHalf_20 : decode cX7_behindHalf 20 = .ok (.if_icmp .eq 16, 3) := by decide +kernel
theorem dX7_behindHalf_23 : decode cX7_behindHalf 23 = .ok (.iload_n 2, 1) := by decide +kernel
theorem dX7_behindHalf_24 : decode cX7_behindHalf 24 = .ok (.iconst 5, 1) := by decide +kernel
theorem dX7_behindHalf_25 : decode cX7_behindHalf 25 = .ok (.if_icmp .ge 7, 3) := by decide +kernel
theorem dX7_behindHalf_28 : decode cX7_behindHalf 28 = .ok (.iconst (-1), 1) := by decide +kernel
theorem dX7_behindHalf_29 : decode cX7_behindHalf 29 = .ok (.goto 22, 3) := by decide +kernel
theorem dX7_behindHalf_32 : decode cX7_behindHalf 32 = .ok (.iconst 1, 1) := by decide +kernel
theorem dX7_behindHalf_33 : decode cX7_behindHalf 33 = .ok (.goto 18, 3) := by decide +kernel
theorem dX7_behindHalf_36 : decode cX7_behindHalf 36 = .ok (.iload_n 1, 1) := by decide +kernel
theorem dX7_behindHalf_37 : decode cX7_behindHalf 37 = .ok (.iconst 1, 1) := by decide +kernel
theorem dX7_behindHalf_38 : decode cX7_behindHalf 38 = .ok (.iadd, 1) := by decide +kernel
theorem dX7_behindHalf_39 : decode cX7_behindHalf 39 = .ok (.aload_n 0, 1) := by decide +kernel
theorem dX7_behindHalf_40 : decode cX7_behindHalf 40 = .ok (.getfield 230, 3) := by decide +kernel
theorem dX7_behindHalf_43 : decode cX7_behindHalf 43 = .ok (.if_icmp .ge 7, 3) := by decide +kernel
theorem dX7_behindHalf_46 : decode cX7_behindHalf 46 = .ok (.iconst 1, 1) := by decide +kernel
theorem dX7_behindHalf_47 : decode cX7_behindHalf 47 = .ok (.goto 4, 3) := by decide +kernel
theorem dX7_behindHalf_50 : decode cX7_behindHalf 50 = .ok (.iconst 0, 1) := by decide +kernel
theorem dX7_behindHalf_51 : decode cX7_behindHalf 51 = .ok (.ireturn, 1) := by decide +kernel
theorem dX7_goesUp_0 : decode cX7_goesUp 0 = .ok (.iload_n 0, 1) := by decide +kernel
theorem dX7_goesUp_1 : decode cX7_goesUp 1 = .ok (.bipush (-2), 2) := by decide +kernel
theorem dX7_goesUp_3 : decode cX7_goesUp 3 = .ok (.if_icmp .ne 5, 3) := by decide +kernel
theorem dX7_goesUp_6 : decode cX7_goesUp 6 = .ok (.iconst 0, 1) := by decide +kernel
theorem dX7_goesUp_7 : decode cX7_goesUp 7 = .ok (.ireturn, 1) := by decide +kernel
theorem dX7_goesUp_8 : decode cX7_goesUp 8 = .ok (.iload_n 3, 1) := by decide +kernel
theorem dX7_goesUp_9 : decode cX7_goesUp 9 = .ok (.ifCond .ne 23, 3) := by decide +kernel
theorem dX7_goesUp_12 : decode cX7_goesUp 12 = .ok (.iload_n 0, 1) := by decide +kernel
theorem dX7_goesUp_13 : decode cX7_goesUp 13 = .ok (.ifCond .gt 11, 3) := by decide +kernel
theorem dX7_goesUp_16 : decode cX7_goesUp 16 = .ok (.iload_n 0, 1) := by decide +kernel
theorem dX7_goesUp_17 : decode cX7_goesUp 17 = .ok (.ifCond .ne 11, 3) := by decide +kernel
theorem dX7_goesUp_20 : decode cX7_goesUp 20 = .ok (.iload_n 1, 1) := by decide +kernel
theorem dX7_goesUp_21 : decode cX7_goesUp 21 = .ok (.ifCond .eq 7, 3) := by decide +kernel
theorem dX7_goesUp_24 : decode cX7_goesUp 24 = .ok (.iconst 1, 1) := by decide +kernel
theorem dX7_goesUp_25 : decode cX7_goesUp 25 = .ok (.goto 55, 3) := by decide +kernel
theorem dX7_goesUp_28 : decode cX7_goesUp 28 = .ok (.iconst 0, 1) := by decide +kernel
theorem dX7_goesUp_29 : decode cX7_goesUp 29 = .ok (.goto 51, 3) := by decide +kernel
theorem dX7_goesUp_32 : decode cX7_goesUp 32 = .ok (.iload_n 3, 1) := by decide +kernel
theorem dX7_goesUp_33 : decode cX7_goesUp 33 = .ok (.iconst 1, 1) := by decide +kernel
theorem dX7_goesUp_34 : decode cX7_goesUp 34 = .ok (.if_icmp .ne 15, 3) := by decide +kernel
theorem dX7_goesUp_37 : decode cX7_goesUp 37 = .ok (.iload_n 0, 1) := by decide +kernel
theorem dX7_goesUp_38 : decode cX7_goesUp 38 = .ok (.ifCond .lt 7, 3) := by decide +kernel
theorem dX7_goesUp_41 : decode cX7_goesUp 41 = .ok (.iconst 1, 1) := by decide +kernel
theorem dX7_goesUp_42 : decode cX7_goesUp 42 = .ok (.goto 38, 3) := by decide +kernel
theorem dX7_goesUp_45 : decode cX7_goesUp 45 = .ok (.iconst 0, 1) := by decide +kernel
theorem dX7_goesUp_46 : decode cX7_goesUp 46 = .ok (.goto 34, 3) := by decide +kernel
theorem dX7_goesUp_49 : decode cX7_goesUp 49 = .ok (.iload_n 3, 1) := by decide +kernel
theorem dX7_goesUp_50 : decode cX7_goesUp 50 = .ok (.iconst 3, 1) := by decide +kernel
theorem dX7_goesUp_51 : decode cX7_goesUp 51 = .ok (.if_icmp .ne 15, 3) := by decide +kernel
theorem dX7_goesUp_54 : decode cX7_goesUp 54 = .ok (.iload_n 2, 1) := by decide +kernel
theorem dX7_goesUp_55 : decode cX7_goesUp 55 = .ok (.ifCond .ne 7, 3) := by decide +kernel
theorem dX7_goesUp_58 : decode cX7_goesUp 58 = .ok (.iconst 1, 1) := by decide +kernel
theorem dX7_goesUp_59 : decode cX7_goesUp 59 = .ok (.goto 21, 3) := by decide +kernel
theorem dX7_goesUp_62 : decode cX7_goesUp 62 = .ok (.iconst 0, 1) := by decide +kernel
theorem dX7_goesUp_63 : decode cX7_goesUp 63 = .ok (.goto 17, 3) := by decide +kernel
theorem dX7_goesUp_66 : decode cX7_goesUp 66 = .ok (.iload_n 3, 1) := by decide +kernel
theorem dX7_goesUp_67 : decode cX7_goesUp 67 = .ok (.iconst 4, 1) := by decide +kernel
theorem dX7_goesUp_68 : decode cX7_goesUp 68 = .ok (.if_icmp .ne 11, 3) := by decide +kernel
theorem dX7_goesUp_71 : decode cX7_goesUp 71 = .ok (.iload_n 2, 1) := by decide +kernel
theorem dX7_goesUp_72 : decode cX7_goesUp 72 = .ok (.ifCond .eq 7, 3) := by decide +kernel
theorem dX7_goesUp_75 : decode cX7_goesUp 75 = .ok (.iconst 1, 1) := by decide +kernel
theorem dX7_goesUp_76 : decode cX7_goesUp 76 = .ok (.goto 4, 3) := by decide +kernel
theorem dX7_goesUp_79 : decode cX7_goesUp 79 = .ok (.iconst 0, 1) := by decide +kernel
theorem dX7_goesUp_80 : decode cX7_goesUp 80 = .ok (.ireturn, 1) := by decide +kernel
theorem dX7_put_0 : decode cX7_put 0 = .ok (.aload_n 0, 1) := by decide +kernel
theorem dX7_put_1 : decode cX7_put 1 = .ok (.getfield 13, 3) := by decide +kernel
theorem dX7_put_4 : decode cX7_put 4 = .ok (.aload_n 0, 1) := by decide +kernel
theorem dX7_put_5 : decode cX7_put 5 = .ok (.getfield 159, 3) := by decide +kernel
theorem dX7_put_8 : decode cX7_put 8 = .ok (.iload_n 1, 1) := by decide +kernel
theorem dX7_put_9 : decode cX7_put 9 = .ok (.iastore, 1) := by decide +kernel
theorem dX7_put_10 : decode cX7_put 10 = .ok (.aload_n 0, 1) := by decide +kernel
theorem dX7_put_11 : decode cX7_put 11 = .ok (.dup, 1) := by decide +kernel
theorem dX7_put_12 : decode cX7_put 12 = .ok (.getfield 159, 3) := by decide +kernel
theorem dX7_put_15 : decode cX7_put 15 = .ok (.iconst 1, 1) := by decide +kernel
theorem dX7_put_16 : decode cX7_put 16 = .ok (.iadd, 1) := by decide +kernel
theorem dX7_put_17 : decode cX7_put 17 = .ok (.putfield 159, 3) := by decide +kernel
theorem dX7_put_20 : decode cX7_put 20 = .ok (.return_, 1) := by decide +kernel
theorem dX7_putWord_0 : decode cX7_putWord 0 = .ok (.iconst 0, 1) := by decide +kernel
theorem dX7_putWord_1 : decode cX7_putWord 1 = .ok (.istore_n 2, 1) := by decide +kernel
theorem dX7_putWord_2 : decode cX7_putWord 2 = .ok (.iload_n 2, 1) := by decide +kernel
theorem dX7_putWord_3 : decode cX7_putWord 3 = .ok (.aload_n 1, 1) := by decide +kernel
theorem dX7_putWord_4 : decode cX7_putWord 4 = .ok (.invokevirtual 168, 3) := by decide +kernel
theorem dX7_putWord_7 : decode cX7_putWord 7 = .ok (.if_icmp .ge 18, 3) := by decide +kernel
theorem dX7_putWord_10 : decode cX7_putWord 10 = .ok (.aload_n 0, 1) := by decide +kernel
theorem dX7_putWord_11 : decode cX7_putWord 11 = .ok (.aload_n 1, 1) := by decide +kernel
theorem dX7_putWord_12 : decode cX7_putWord 12 = .ok (.iload_n 2, 1) := by decide +kernel
theorem dX7_putWord_13 : decode cX7_putWord 13 = .ok (.invokevirtual 175, 3) := by decide +kernel
theorem dX7_putWord_16 : decode cX7_putWord 16 = .ok (.invokevirtual 239, 3) := by decide +kernel
theorem dX7_putWord_19 : decode cX7_putWord 19 = .ok (.iinc 2 1, 3) := by decide +kernel
theorem dX7_putWord_22 : decode cX7_putWord 22 = .ok (.goto (-20), 3) := by decide +kernel
theorem dX7_putWord_25 : decode cX7_putWord 25 = .ok (.return_, 1) := by decide +kernel
theorem dX7_putNumber_0 : decode cX7_putNumber 0 = .ok (.iload_n 1, 1) := by decide +kernel
theorem dX7_putNumber_1 : decode cX7_putNumber 1 = .ok (.ifCond .ge 8, 3) := by decide +kernel
theorem dX7_putNumber_4 : decode cX7_putNumber 4 = .ok (.iload_n 1, 1) := by decide +kernel
theorem dX7_putNumber_5 : decode cX7_putNumber 5 = .ok (.ineg, 1) := by decide +kernel
theorem dX7_putNumber_6 : decode cX7_putNumber 6 = .ok (.goto 4, 3) := by decide +kernel
theorem dX7_putNumber_9 : decode cX7_putNumber 9 = .ok (.iload_n 1, 1) := by decide +kernel
theorem dX7_putNumber_10 : decode cX7_putNumber 10 = .ok (.istore_n 2, 1) := by decide +kernel
theorem dX7_putNumber_11 : decode cX7_putNumber 11 = .ok (.iload_n 1, 1) := by decide +kernel
theorem dX7_putNumber_12 : decode cX7_putNumber 12 = .ok (.ifCond .ge 9, 3) := by decide +kernel
theorem dX7_putNumber_15 : decode cX7_putNumber 15 = .ok (.aload_n 0, 1) := by decide +kernel
theorem dX7_putNumber_16 : decode cX7_putNumber 16 = .ok (.bipush 45, 2) := by decide +kernel
theorem dX7_putNumber_18 : decode cX7_putNumber 18 = .ok (.invokevirtual 239, 3) := by decide +kernel
theorem dX7_putNumber_21 : decode cX7_putNumber 21 = .ok (.iconst 1, 1) := by decide +kernel
theorem dX7_putNumber_22 : decode cX7_putNumber 22 = .ok (.istore_n 3, 1) := by decide +kernel
theorem dX7_putNumber_23 : decode cX7_putNumber 23 = .ok (.iload_n 2, 1) := by decide +kernel
theorem dX7_putNumber_24 : decode cX7_putNumber 24 = .ok (.iload_n 3, 1) := by decide +kernel
theorem dX7_putNumber_25 : decode cX7_putNumber 25 = .ok (.idiv, 1) := by decide +kernel
theorem dX7_putNumber_26 : decode cX7_putNumber 26 = .ok (.bipush 10, 2) := by decide +kernel
theorem dX7_putNumber_28 : decode cX7_putNumber 28 = .ok (.if_icmp .lt 11, 3) := by decide +kernel
theorem dX7_putNumber_31 : decode cX7_putNumber 31 = .ok (.bipush 10, 2) := by decide +kernel
theorem dX7_putNumber_33 : decode cX7_putNumber 33 = .ok (.iload_n 3, 1) := by decide +kernel
theorem dX7_putNumber_34 : decode cX7_putNumber 34 = .ok (.imul, 1) := by decide +kernel
theorem dX7_putNumber_35 : decode cX7_putNumber 35 = .ok (.istore_n 3, 1) := by decide +kernel
theorem dX7_putNumber_36 : decode cX7_putNumber 36 = .ok (.goto (-13), 3) := by decide +kernel
theorem dX7_putNumber_39 : decode cX7_putNumber 39 = .ok (.iload_n 3, 1) := by decide +kernel
theorem dX7_putNumber_40 : decode cX7_putNumber 40 = .ok (.ifCond .le 24, 3) := by decide +kernel
theorem dX7_putNumber_43 : decode cX7_putNumber 43 = .ok (.aload_n 0, 1) := by decide +kernel
theorem dX7_putNumber_44 : decode cX7_putNumber 44 = .ok (.bipush 48, 2) := by decide +kernel
theorem dX7_putNumber_46 : decode cX7_putNumber 46 = .ok (.iload_n 2, 1) := by decide +kernel
theorem dX7_putNumber_47 : decode cX7_putNumber 47 = .ok (.iload_n 3, 1) := by decide +kernel
theorem dX7_putNumber_48 : decode cX7_putNumber 48 = .ok (.idiv, 1) := by decide +kernel
theorem dX7_putNumber_49 : decode cX7_putNumber 49 = .ok (.bipush 10, 2) := by decide +kernel
theorem dX7_putNumber_51 : decode cX7_putNumber 51 = .ok (.irem, 1) := by decide +kernel
theorem dX7_putNumber_52 : decode cX7_putNumber 52 = .ok (.iadd, 1) := by decide +kernel
theorem dX7_putNumber_53 : decode cX7_putNumber 53 = .ok (.invokevirtual 239, 3) := by decide +kernel
theorem dX7_putNumber_56 : decode cX7_putNumber 56 = .ok (.iload_n 3, 1) := by decide +kernel
theorem dX7_putNumber_57 : decode cX7_putNumber 57 = .ok (.bipush 10, 2) := by decide +kernel
theorem dX7_putNumber_59 : decode cX7_putNumber 59 = .ok (.idiv, 1) := by decide +kernel
theorem dX7_putNumber_60 : decode cX7_putNumber 60 = .ok (.istore_n 3, 1) := by decide +kernel
theorem dX7_putNumber_61 : decode cX7_putNumber 61 = .ok (.goto (-22), 3) := by decide +kernel
theorem dX7_putNumber_64 : decode cX7_putNumber 64 = .ok (.return_, 1) := by decide +kernel
theorem dX7_write_0 : decode cX7_write 0 = .ok (.aload_n 0, 1) := by decide +kernel
theorem dX7_write_1 : decode cX7_write 1 = .ok (.iconst 0, 1) := by decide +kernel
theorem dX7_write_2 : decode cX7_write 2 = .ok (.putfield 159, 3) := by decide +kernel
theorem dX7_write_5 : decode cX7_write 5 = .ok (.aload_n 0, 1) := by decide +kernel
theorem dX7_write_6 : decode cX7_write 6 = .ok (.getfield 243, 3) := by decide +kernel
theorem dX7_write_9 : decode cX7_write 9 = .ok (.iconst 1, 1) := by decide +kernel
theorem dX7_write_10 : decode cX7_write 10 = .ok (.if_icmp .ne 9, 3) := by decide +kernel
theorem dX7_write_13 : decode cX7_write 13 = .ok (.aload_n 0, 1) := by decide +kernel
theorem dX7_write_14 : decode cX7_write 14 = .ok (.bipush 45, 2) := by decide +kernel
theorem dX7_write_16 : decode cX7_write 16 = .ok (.invokevirtual 239, 3) := by decide +kernel
theorem dX7_write_19 : decode cX7_write 19 = .ok (.iload_n 1, 1) := by decide +kernel
theorem dX7_write_20 : decode cX7_write 20 = .ok (.iconst 1, 1) := by decide +kernel
theorem dX7_write_21 : decode cX7_write 21 = .ok (.if_icmp .eq 27, 3) := by decide +kernel
theorem dX7_write_24 : decode cX7_write 24 = .ok (.iload_n 1, 1) := by decide +kernel
theorem dX7_write_25 : decode cX7_write 25 = .ok (.iconst 2, 1) := by decide +kernel
theorem dX7_write_26 : decode cX7_write 26 = .ok (.if_icmp .ne 26, 3) := by decide +kernel
theorem dX7_write_29 : decode cX7_write 29 = .ok (.aload_n 0, 1) := by decide +kernel
theorem dX7_write_30 : decode cX7_write 30 = .ok (.getfield 236, 3) := by decide +kernel
theorem dX7_write_33 : decode cX7_write 33 = .ok (.iconst 1, 1) := by decide +kernel
theorem dX7_write_34 : decode cX7_write 34 = .ok (.isub, 1) := by decide +kernel
theorem dX7_write_35 : decode cX7_write 35 = .ok (.i2l, 1) := by decide +kernel
theorem dX7_write_36 : decode cX7_write 36 = .ok (.ldc2_w 246, 3) := by decide +kernel
theorem dX7_write_39 : decode cX7_write 39 = .ok (.ldc2_w 248, 3) := by decide +kernel
theorem dX7_write_42 : decode cX7_write 42 = .ok (.invokestatic 52, 3) := by decide +kernel
theorem dX7_write_45 : decode cX7_write 45 = .ok (.ifCond .eq 7, 3) := by decide +kernel
theorem dX7_write_48 : decode cX7_write 48 = .ok (.iconst 1, 1) := by decide +kernel
theorem dX7_write_49 : decode cX7_write 49 = .ok (.goto 4, 3) := by decide +kernel
theorem dX7_write_52 : decode cX7_write 52 = .ok (.iconst 0, 1) := by decide +kernel
theorem dX7_write_53 : decode cX7_write 53 = .ok (.istore_n 2, 1) := by decide +kernel
theorem dX7_write_54 : decode cX7_write 54 = .ok (.iload_n 2, 1) := by decide +kernel
theorem dX7_write_55 : decode cX7_write 55 = .ok (.ifCond .ne 77, 3) := by decide +kernel
theorem dX7_write_58 : decode cX7_write 58 = .ok (.aload_n 0, 1) := by decide +kernel
theorem dX7_write_59 : decode cX7_write 59 = .ok (.bipush 48, 2) := by decide +kernel
theorem dX7_write_61 : decode cX7_write 61 = .ok (.aload_n 0, 1) := by decide +kernel
theorem dX7_write_62 : decode cX7_write 62 = .ok (.getfield 16, 3) := by decide +kernel
theorem dX7_write_65 : decode cX7_write 65 = .ok (.iconst 0, 1) := by decide +kernel
theorem dX7_write_66 : decode cX7_write 66 = .ok (.iaload, 1) := by decide +kernel
theorem dX7_write_67 : decode cX7_write 67 = .ok (.iadd, 1) := by decide +kernel
theorem dX7_write_68 : decode cX7_write 68 = .ok (.invokevirtual 239, 3) := by decide +kernel
theorem dX7_write_71 : decode cX7_write 71 = .ok (.iconst 1, 1) := by decide +kernel
theorem dX7_write_72 : decode cX7_write 72 = .ok (.istore_n 3, 1) := by decide +kernel
theorem dX7_write_73 : decode cX7_write 73 = .ok (.iload_n 3, 1) := by decide +kernel
theorem dX7_write_74 : decode cX7_write 74 = .ok (.aload_n 0, 1) := by decide +kernel
theorem dX7_write_75 : decode cX7_write 75 = .ok (.getfield 233, 3) := by decide +kernel
theorem dX7_write_78 : decode cX7_write 78 = .ok (.if_icmp .ge 33, 3) := by decide +kernel
theorem dX7_write_81 : decode cX7_write 81 = .ok (.iload_n 3, 1) := by decide +kernel
theorem dX7_write_82 : decode cX7_write 82 = .ok (.iconst 1, 1) := by decide +kernel
theorem dX7_write_83 : decode cX7_write 83 = .ok (.if_icmp .ne 9, 3) := by decide +kernel
theorem dX7_write_86 : decode cX7_write 86 = .ok (.aload_n 0, 1) := by decide +kernel
theorem dX7_write_87 : decode cX7_write 87 = .ok (.bipush 46, 2) := by decide +kernel
theorem dX7_write_89 : decode cX7_write 89 = .ok (.invokevirtual 239, 3) := by decide +kernel
theorem dX7_write_92 : decode cX7_write 92 = .ok (.aload_n 0, 1) := by decide +kernel
theorem dX7_write_93 : decode cX7_write 93 = .ok (.bipush 48, 2) := by decide +kernel
theorem dX7_write_95 : decode cX7_write 95 = .ok (.aload_n 0, 1) := by decide +kernel
theorem dX7_write_96 : decode cX7_write 96 = .ok (.getfield 16, 3) := by decide +kernel
theorem dX7_write_99 : decode cX7_write 99 = .ok (.iload_n 3, 1) := by decide +kernel
theorem dX7_write_100 : decode cX7_write 100 = .ok (.iaload, 1) := by decide +kernel
theorem dX7_write_101 : decode cX7_write 101 = .ok (.iadd, 1) := by decide +kernel
theorem dX7_write_102 : decode cX7_write 102 = .ok (.invokevirtual 239, 3) := by decide +kernel
theorem dX7_write_105 : decode cX7_write 105 = .ok (.iinc 3 1, 3) := by decide +kernel
theorem dX7_write_108 : decode cX7_write 108 = .ok (.goto (-35), 3) := by decide +kernel
theorem dX7_write_111 : decode cX7_write 111 = .ok (.aload_n 0, 1) := by decide +kernel
theorem dX7_write_112 : decode cX7_write 112 = .ok (.bipush 101, 2) := by decide +kernel
theorem dX7_write_114 : decode cX7_write 114 = .ok (.invokevirtual 239, 3) := by decide +kernel
theorem dX7_write_117 : decode cX7_write 117 = .ok (.aload_n 0, 1) := by decide +kernel
theorem dX7_write_118 : decode cX7_write 118 = .ok (.aload_n 0, 1) := by decide +kernel
theorem dX7_write_119 : decode cX7_write 119 = .ok (.getfield 236, 3) := by decide +kernel
theorem dX7_write_122 : decode cX7_write 122 = .ok (.iconst 1, 1) := by decide +kernel
theorem dX7_write_123 : decode cX7_write 123 = .ok (.isub, 1) := by decide +kernel
theorem dX7_write_124 : decode cX7_write 124 = .ok (.invokevirtual 250, 3) := by decide +kernel
theorem dX7_write_127 : decode cX7_write 127 = .ok (.aload_n 0, 1) := by decide +kernel
theorem dX7_write_128 : decode cX7_write 128 = .ok (.getfield 159, 3) := by decide +kernel
theorem dX7_write_131 : decode cX7_write 131 = .ok (.ireturn, 1) := by decide +kernel
theorem dX7_write_132 : decode cX7_write 132 = .ok (.aload_n 0, 1) := by decide +kernel
theorem dX7_write_133 : decode cX7_write 133 = .ok (.getfield 236, 3) := by decide +kernel
theorem dX7_write_136 : decode cX7_write 136 = .ok (.iconst 1, 1) := by decide +kernel
theorem dX7_write_137 : decode cX7_write 137 = .ok (.if_icmp .ge 64, 3) := by decide +kernel
theorem dX7_write_140 : decode cX7_write 140 = .ok (.aload_n 0, 1) := by decide +kernel
theorem dX7_write_141 : decode cX7_write 141 = .ok (.ldc 253, 2) := by decide +kernel
theorem dX7_write_143 : decode cX7_write 143 = .ok (.invokevirtual 255, 3) := by decide +kernel
theorem dX7_write_146 : decode cX7_write 146 = .ok (.aload_n 0, 1) := by decide +kernel
theorem dX7_write_147 : decode cX7_write 147 = .ok (.getfield 236, 3) := by decide +kernel
theorem dX7_write_150 : decode cX7_write 150 = .ok (.istore_n 3, 1) := by decide +kernel
theorem dX7_write_151 : decode cX7_write 151 = .ok (.iload_n 3, 1) := by decide +kernel
theorem dX7_write_152 : decode cX7_write 152 = .ok (.ifCond .ge 15, 3) := by decide +kernel
theorem dX7_write_155 : decode cX7_write 155 = .ok (.aload_n 0, 1) := by decide +kernel
theorem dX7_write_156 : decode cX7_write 156 = .ok (.bipush 48, 2) := by decide +kernel
theorem dX7_write_158 : decode cX7_write 158 = .ok (.invokevirtual 239, 3) := by decide +kernel
theorem dX7_write_161 : decode cX7_write 161 = .ok (.iinc 3 1, 3) := by decide +kernel
theorem dX7_write_164 : decode cX7_write 164 = .ok (.goto (-13), 3) := by decide +kernel
theorem dX7_write_167 : decode cX7_write 167 = .ok (.iconst 0, 1) := by decide +kernel
theorem dX7_write_168 : decode cX7_write 168 = .ok (.istore_n 3, 1) := by decide +kernel
theorem dX7_write_169 : decode cX7_write 169 = .ok (.iload_n 3, 1) := by decide +kernel
theorem dX7_write_170 : decode cX7_write 170 = .ok (.aload_n 0, 1) := by decide +kernel
theorem dX7_write_171 : decode cX7_write 171 = .ok (.getfield 233, 3) := by decide +kernel
theorem dX7_write_174 : decode cX7_write 174 = .ok (.if_icmp .ge 22, 3) := by decide +kernel
theorem dX7_write_177 : decode cX7_write 177 = .ok (.aload_n 0, 1) := by decide +kernel
theorem dX7_write_178 : decode cX7_write 178 = .ok (.bipush 48, 2) := by decide +kernel
theorem dX7_write_180 : decode cX7_write 180 = .ok (.aload_n 0, 1) := by decide +kernel
theorem dX7_write_181 : decode cX7_write 181 = .ok (.getfield 16, 3) := by decide +kernel
theorem dX7_write_184 : decode cX7_write 184 = .ok (.iload_n 3, 1) := by decide +kernel
theorem dX7_write_185 : decode cX7_write 185 = .ok (.iaload, 1) := by decide +kernel
theorem dX7_write_186 : decode cX7_write 186 = .ok (.iadd, 1) := by decide +kernel
theorem dX7_write_187 : decode cX7_write 187 = .ok (.invokevirtual 239, 3) := by decide +kernel
theorem dX7_write_190 : decode cX7_write 190 = .ok (.iinc 3 1, 3) := by decide +kernel
theorem dX7_write_193 : decode cX7_write 193 = .ok (.goto (-24), 3) := by decide +kernel
theorem dX7_write_196 : decode cX7_write 196 = .ok (.aload_n 0, 1) := by decide +kernel
theorem dX7_write_197 : decode cX7_write 197 = .ok (.getfield 159, 3) := by decide +kernel
theorem dX7_write_200 : decode cX7_write 200 = .ok (.ireturn, 1) := by decide +kernel
theorem dX7_write_201 : decode cX7_write 201 = .ok (.iconst 0, 1) := by decide +kernel
theorem dX7_write_202 : decode cX7_write 202 = .ok (.istore_n 3, 1) := by decide +kernel
theorem dX7_write_203 : decode cX7_write 203 = .ok (.iload_n 3, 1) := by decide +kernel
theorem dX7_write_204 : decode cX7_write 204 = .ok (.aload_n 0, 1) := by decide +kernel
theorem dX7_write_205 : decode cX7_write 205 = .ok (.getfield 236, 3) := by decide +kernel
theorem dX7_write_208 : decode cX7_write 208 = .ok (.if_icmp .ge 35, 3) := by decide +kernel
theorem dX7_write_211 : decode cX7_write 211 = .ok (.aload_n 0, 1) := by decide +kernel
theorem dX7_write_212 : decode cX7_write 212 = .ok (.iload_n 3, 1) := by decide +kernel
theorem dX7_write_213 : decode cX7_write 213 = .ok (.aload_n 0, 1) := by decide +kernel
theorem dX7_write_214 : decode cX7_write 214 = .ok (.getfield 233, 3) := by decide +kernel
theorem dX7_write_217 : decode cX7_write 217 = .ok (.if_icmp .ge 15, 3) := by decide +kernel
theorem dX7_write_220 : decode cX7_write 220 = .ok (.bipush 48, 2) := by decide +kernel
theorem dX7_write_222 : decode cX7_write 222 = .ok (.aload_n 0, 1) := by decide +kernel
theorem dX7_write_223 : decode cX7_write 223 = .ok (.getfield 16, 3) := by decide +kernel
theorem dX7_write_226 : decode cX7_write 226 = .ok (.iload_n 3, 1) := by decide +kernel
theorem dX7_write_227 : decode cX7_write 227 = .ok (.iaload, 1) := by decide +kernel
theorem dX7_write_228 : decode cX7_write 228 = .ok (.iadd, 1) := by decide +kernel
theorem dX7_write_229 : decode cX7_write 229 = .ok (.goto 5, 3) := by decide +kernel
theorem dX7_write_232 : decode cX7_write 232 = .ok (.bipush 48, 2) := by decide +kernel
theorem dX7_write_234 : decode cX7_write 234 = .ok (.invokevirtual 239, 3) := by decide +kernel
theorem dX7_write_237 : decode cX7_write 237 = .ok (.iinc 3 1, 3) := by decide +kernel
theorem dX7_write_240 : decode cX7_write 240 = .ok (.goto (-37), 3) := by decide +kernel
theorem dX7_write_243 : decode cX7_write 243 = .ok (.aload_n 0, 1) := by decide +kernel
theorem dX7_write_244 : decode cX7_write 244 = .ok (.getfield 236, 3) := by decide +kernel
theorem dX7_write_247 : decode cX7_write 247 = .ok (.istore_n 3, 1) := by decide +kernel
theorem dX7_write_248 : decode cX7_write 248 = .ok (.iload_n 3, 1) := by decide +kernel
theorem dX7_write_249 : decode cX7_write 249 = .ok (.aload_n 0, 1) := by decide +kernel
theorem dX7_write_250 : decode cX7_write 250 = .ok (.getfield 233, 3) := by decide +kernel
theorem dX7_write_253 : decode cX7_write 253 = .ok (.if_icmp .ge 36, 3) := by decide +kernel
theorem dX7_write_256 : decode cX7_write 256 = .ok (.iload_n 3, 1) := by decide +kernel
theorem dX7_write_257 : decode cX7_write 257 = .ok (.aload_n 0, 1) := by decide +kernel
theorem dX7_write_258 : decode cX7_write 258 = .ok (.getfield 236, 3) := by decide +kernel
theorem dX7_write_261 : decode cX7_write 261 = .ok (.if_icmp .ne 9, 3) := by decide +kernel
theorem dX7_write_264 : decode cX7_write 264 = .ok (.aload_n 0, 1) := by decide +kernel
theorem dX7_write_265 : decode cX7_write 265 = .ok (.bipush 46, 2) := by decide +kernel
theorem dX7_write_267 : decode cX7_write 267 = .ok (.invokevirtual 239, 3) := by decide +kernel
theorem dX7_write_270 : decode cX7_write 270 = .ok (.aload_n 0, 1) := by decide +kernel
theorem dX7_write_271 : decode cX7_write 271 = .ok (.bipush 48, 2) := by decide +kernel
theorem dX7_write_273 : decode cX7_write 273 = .ok (.aload_n 0, 1) := by decide +kernel
theorem dX7_write_274 : decode cX7_write 274 = .ok (.getfield 16, 3) := by decide +kernel
theorem dX7_write_277 : decode cX7_write 277 = .ok (.iload_n 3, 1) := by decide +kernel
theorem dX7_write_278 : decode cX7_write 278 = .ok (.iaload, 1) := by decide +kernel
theorem dX7_write_279 : decode cX7_write 279 = .ok (.iadd, 1) := by decide +kernel
theorem dX7_write_280 : decode cX7_write 280 = .ok (.invokevirtual 239, 3) := by decide +kernel
theorem dX7_write_283 : decode cX7_write 283 = .ok (.iinc 3 1, 3) := by decide +kernel
theorem dX7_write_286 : decode cX7_write 286 = .ok (.goto (-38), 3) := by decide +kernel
theorem dX7_write_289 : decode cX7_write 289 = .ok (.aload_n 0, 1) := by decide +kernel
theorem dX7_write_290 : decode cX7_write 290 = .ok (.getfield 159, 3) := by decide +kernel
theorem dX7_write_293 : decode cX7_write 293 = .ok (.ireturn, 1) := by decide +kernel
theorem dX7_zeros_0 : decode cX7_zeros 0 = .ok (.aload_n 0, 1) := by decide +kernel
theorem dX7_zeros_1 : decode cX7_zeros 1 = .ok (.iload_n 1, 1) := by decide +kernel
theorem dX7_zeros_2 : decode cX7_zeros 2 = .ok (.putfield 233, 3) := by decide +kernel
theorem dX7_zeros_5 : decode cX7_zeros 5 = .ok (.aload_n 0, 1) := by decide +kernel
theorem dX7_zeros_6 : decode cX7_zeros 6 = .ok (.iconst 1, 1) := by decide +kernel
theorem dX7_zeros_7 : decode cX7_zeros 7 = .ok (.putfield 236, 3) := by decide +kernel
theorem dX7_zeros_10 : decode cX7_zeros 10 = .ok (.iconst 0, 1) := by decide +kernel
theorem dX7_zeros_11 : decode cX7_zeros 11 = .ok (.istore_n 2, 1) := by decide +kernel
theorem dX7_zeros_12 : decode cX7_zeros 12 = .ok (.iload_n 2, 1) := by decide +kernel
theorem dX7_zeros_13 : decode cX7_zeros 13 = .ok (.iload_n 1, 1) := by decide +kernel
theorem dX7_zeros_14 : decode cX7_zeros 14 = .ok (.if_icmp .ge 16, 3) := by decide +kernel
theorem dX7_zeros_17 : decode cX7_zeros 17 = .ok (.aload_n 0, 1) := by decide +kernel
theorem dX7_zeros_18 : decode cX7_zeros 18 = .ok (.getfield 16, 3) := by decide +kernel
theorem dX7_zeros_21 : decode cX7_zeros 21 = .ok (.iload_n 2, 1) := by decide +kernel
theorem dX7_zeros_22 : decode cX7_zeros 22 = .ok (.iconst 0, 1) := by decide +kernel
theorem dX7_zeros_23 : decode cX7_zeros 23 = .ok (.iastore, 1) := by decide +kernel
theorem dX7_zeros_24 : decode cX7_zeros 24 = .ok (.iinc 2 1, 3) := by decide +kernel
theorem dX7_zeros_27 : decode cX7_zeros 27 = .ok (.goto (-15), 3) := by decide +kernel
theorem dX7_zeros_30 : decode cX7_zeros 30 = .ok (.return_, 1) := by decide +kernel
theorem dX7_isNoNumber_0 : decode cX7_isNoNumber 0 = .ok (.aload_n 0, 1) := by decide +kernel
theorem dX7_isNoNumber_1 : decode cX7_isNoNumber 1 = .ok (.iload_n 1, 1) := by decide +kernel
theorem dX7_isNoNumber_2 : decode cX7_isNoNumber 2 = .ok (.lload_n 2, 1) := by decide +kernel
theorem dX7_isNoNumber_3 : decode cX7_isNoNumber 3 = .ok (.invokestatic 259, 3) := by decide +kernel
theorem dX7_isNoNumber_6 : decode cX7_isNoNumber 6 = .ok (.ifCond .eq 7, 3) := by decide +kernel
theorem dX7_isNoNumber_9 : decode cX7_isNoNumber 9 = .ok (.iconst 1, 1) := by decide +kernel
theorem dX7_isNoNumber_10 : decode cX7_isNoNumber 10 = .ok (.goto 4, 3) := by decide +kernel
theorem dX7_isNoNumber_13 : decode cX7_isNoNumber 13 = .ok (.iconst 0, 1) := by decide +kernel
theorem dX7_isNoNumber_14 : decode cX7_isNoNumber 14 = .ok (.putfield 243, 3) := by decide +kernel
theorem dX7_isNoNumber_17 : decode cX7_isNoNumber 17 = .ok (.iload_n 1, 1) := by decide +kernel
theorem dX7_isNoNumber_18 : decode cX7_isNoNumber 18 = .ok (.lload_n 2, 1) := by decide +kernel
theorem dX7_isNoNumber_19 : decode cX7_isNoNumber 19 = .ok (.invokestatic 263, 3) := by decide +kernel
theorem dX7_isNoNumber_22 : decode cX7_isNoNumber 22 = .ok (.ifCond .eq 5, 3) := by decide +kernel
theorem dX7_isNoNumber_25 : decode cX7_isNoNumber 25 = .ok (.iconst 0, 1) := by decide +kernel
theorem dX7_isNoNumber_26 : decode cX7_isNoNumber 26 = .ok (.ireturn, 1) := by decide +kernel
theorem dX7_isNoNumber_27 : decode cX7_isNoNumber 27 = .ok (.aload_n 0, 1) := by decide +kernel
theorem dX7_isNoNumber_28 : decode cX7_isNoNumber 28 = .ok (.iconst 0, 1) := by decide +kernel
theorem dX7_isNoNumber_29 : decode cX7_isNoNumber 29 = .ok (.putfield 233, 3) := by decide +kernel
theorem dX7_isNoNumber_32 : decode cX7_isNoNumber 32 = .ok (.aload_n 0, 1) := by decide +kernel
theorem dX7_isNoNumber_33 : decode cX7_isNoNumber 33 = .ok (.iconst 0, 1) := by decide +kernel
theorem dX7_isNoNumber_34 : decode cX7_isNoNumber 34 = .ok (.putfield 236, 3) := by decide +kernel
theorem dX7_isNoNumber_37 : decode cX7_isNoNumber 37 = .ok (.aload_n 0, 1) := by decide +kernel
theorem dX7_isNoNumber_38 : decode cX7_isNoNumber 38 = .ok (.iconst 0, 1) := by decide +kernel
theorem dX7_isNoNumber_39 : decode cX7_isNoNumber 39 = .ok (.putfield 159, 3) := by decide +kernel
theorem dX7_isNoNumber_42 : decode cX7_isNoNumber 42 = .ok (.aload_n 0, 1) := by decide +kernel
theorem dX7_isNoNumber_43 : decode cX7_isNoNumber 43 = .ok (.getfield 243, 3) := by decide +kernel
theorem dX7_isNoNumber_46 : decode cX7_isNoNumber 46 = .ok (.iconst 1, 1) := by decide +kernel
theorem dX7_isNoNumber_47 : decode cX7_isNoNumber 47 = .ok (.if_icmp .ne 9, 3) := by decide +kernel
theorem dX7_isNoNumber_50 : decode cX7_isNoNumber 50 = .ok (.aload_n 0, 1) := by decide +kernel
theorem dX7_isNoNumber_51 : decode cX7_isNoNumber 51 = .ok (.bipush 45, 2) := by decide +kernel
theorem dX7_isNoNumber_53 : decode cX7_isNoNumber 53 = .ok (.invokevirtual 239, 3) := by decide +kernel
theorem dX7_isNoNumber_56 : decode cX7_isNoNumber 56 = .ok (.aload_n 0, 1) := by decide +kernel
theorem dX7_isNoNumber_57 : decode cX7_isNoNumber 57 = .ok (.iload_n 1, 1) := by decide +kernel
theorem dX7_isNoNumber_58 : decode cX7_isNoNumber 58 = .ok (.lload_n 2, 1) := by decide +kernel
theorem dX7_isNoNumber_59 : decode cX7_isNoNumber 59 = .ok (.invokestatic 266, 3) := by decide +kernel
theorem dX7_isNoNumber_62 : decode cX7_isNoNumber 62 = .ok (.ifCond .eq 8, 3) := by decide +kernel
theorem dX7_isNoNumber_65 : decode cX7_isNoNumber 65 = .ok (.ldc 190, 2) := by decide +kernel
theorem dX7_isNoNumber_67 : decode cX7_isNoNumber 67 = .ok (.goto 5, 3) := by decide +kernel
theorem dX7_isNoNumber_70 : decode cX7_isNoNumber 70 = .ok (.ldc 196, 2) := by decide +kernel
theorem dX7_isNoNumber_72 : decode cX7_isNoNumber 72 = .ok (.invokevirtual 255, 3) := by decide +kernel
theorem dX7_isNoNumber_75 : decode cX7_isNoNumber 75 = .ok (.iconst 1, 1) := by decide +kernel
theorem dX7_isNoNumber_76 : decode cX7_isNoNumber 76 = .ok (.ireturn, 1) := by decide +kernel
theorem dX7_readsBack_0 : decode cX7_readsBack 0 = .ok (.iconst 0, 1) := by decide +kernel
theorem dX7_readsBack_1 : decode cX7_readsBack 1 = .ok (.istore 4, 2) := by decide +kernel
theorem dX7_readsBack_3 : decode cX7_readsBack 3 = .ok (.iload 4, 2) := by decide +kernel
theorem dX7_readsBack_5 : decode cX7_readsBack 5 = .ok (.aload_n 0, 1) := by decide +kernel
theorem dX7_readsBack_6 : decode cX7_readsBack 6 = .ok (.getfield 233, 3) := by decide +kernel
theorem dX7_readsBack_9 : decode cX7_readsBack 9 = .ok (.if_icmp .ge 23, 3) := by decide +kernel
theorem dX7_readsBack_12 : decode cX7_readsBack 12 = .ok (.aload_n 0, 1) := by decide +kernel
theorem dX7_readsBack_13 : decode cX7_readsBack 13 = .ok (.getfield 31, 3) := by decide +kernel
theorem dX7_readsBack_16 : decode cX7_readsBack 16 = .ok (.iload 4, 2) := by decide +kernel
theorem dX7_readsBack_18 : decode cX7_readsBack 18 = .ok (.aload_n 0, 1) := by decide +kernel
theorem dX7_readsBack_19 : decode cX7_readsBack 19 = .ok (.getfield 16, 3) := by decide +kernel
theorem dX7_readsBack_22 : decode cX7_readsBack 22 = .ok (.iload 4, 2) := by decide +kernel
theorem dX7_readsBack_24 : decode cX7_readsBack 24 = .ok (.iaload, 1) := by decide +kernel
theorem dX7_readsBack_25 : decode cX7_readsBack 25 = .ok (.iastore, 1) := by decide +kernel
theorem dX7_readsBack_26 : decode cX7_readsBack 26 = .ok (.iinc 4 1, 3) := by decide +kernel
theorem dX7_readsBack_29 : decode cX7_readsBack 29 = .ok (.goto (-26), 3) := by decide +kernel
theorem dX7_readsBack_32 : decode cX7_readsBack 32 = .ok (.aload_n 0, 1) := by decide +kernel
theorem dX7_readsBack_33 : decode cX7_readsBack 33 = .ok (.aload_n 0, 1) := by decide +kernel
theorem dX7_readsBack_34 : decode cX7_readsBack 34 = .ok (.getfield 233, 3) := by decide +kernel
theorem dX7_readsBack_37 : decode cX7_readsBack 37 = .ok (.putfield 125, 3) := by decide +kernel
theorem dX7_readsBack_40 : decode cX7_readsBack 40 = .ok (.aload_n 0, 1) := by decide +kernel
theorem dX7_readsBack_41 : decode cX7_readsBack 41 = .ok (.iload_n 1, 1) := by decide +kernel
theorem dX7_readsBack_42 : decode cX7_readsBack 42 = .ok (.iconst 0, 1) := by decide +kernel
theorem dX7_readsBack_43 : decode cX7_readsBack 43 = .ok (.aload_n 0, 1) := by decide +kernel
theorem dX7_readsBack_44 : decode cX7_readsBack 44 = .ok (.getfield 236, 3) := by decide +kernel
theorem dX7_readsBack_47 : decode cX7_readsBack 47 = .ok (.aload_n 0, 1) := by decide +kernel
theorem dX7_readsBack_48 : decode cX7_readsBack 48 = .ok (.getfield 233, 3) := by decide +kernel
theorem dX7_readsBack_51 : decode cX7_readsBack 51 = .ok (.isub, 1) := by decide +kernel
theorem dX7_readsBack_52 : decode cX7_readsBack 52 = .ok (.iconst 0, 1) := by decide +kernel
theorem dX7_readsBack_53 : decode cX7_readsBack 53 = .ok (.invokevirtual 216, 3) := by decide +kernel
theorem dX7_readsBack_56 : decode cX7_readsBack 56 = .ok (.aload_n 0, 1) := by decide +kernel
theorem dX7_readsBack_57 : decode cX7_readsBack 57 = .ok (.getfield 105, 3) := by decide +kernel
theorem dX7_readsBack_60 : decode cX7_readsBack 60 = .ok (.lload_n 2, 1) := by decide +kernel
theorem dX7_readsBack_61 : decode cX7_readsBack 61 = .ok (.lcmp, 1) := by decide +kernel
theorem dX7_readsBack_62 : decode cX7_readsBack 62 = .ok (.ifCond .ne 7, 3) := by decide +kernel
theorem dX7_readsBack_65 : decode cX7_readsBack 65 = .ok (.iconst 1, 1) := by decide +kernel
theorem dX7_readsBack_66 : decode cX7_readsBack 66 = .ok (.goto 4, 3) := by decide +kernel
theorem dX7_readsBack_69 : decode cX7_readsBack 69 = .ok (.iconst 0, 1) := by decide +kernel
theorem dX7_readsBack_70 : decode cX7_readsBack 70 = .ok (.ireturn, 1) := by decide +kernel
theorem dX7_findShortest_0 : decode cX7_findShortest 0 = .ok (.aload_n 0, 1) := by decide +kernel
theorem dX7_findShortest_1 : decode cX7_findShortest 1 = .ok (.iload_n 1, 1) := by decide +kernel
theorem dX7_findShortest_2 : decode cX7_findShortest 2 = .ok (.lload_n 2, 1) := by decide +kernel
theorem dX7_findShortest_3 : decode cX7_findShortest 3 = .ok (.invokevirtual 269, 3) := by decide +kernel
theorem dX7_findShortest_6 : decode cX7_findShortest 6 = .ok (.aload_n 0, 1) := by decide +kernel
theorem dX7_findShortest_7 : decode cX7_findShortest 7 = .ok (.invokevirtual 273, 3) := by decide +kernel
theorem dX7_findShortest_10 : decode cX7_findShortest 10 = .ok (.iconst 1, 1) := by decide +kernel
theorem dX7_findShortest_11 : decode cX7_findShortest 11 = .ok (.istore 4, 2) := by decide +kernel
theorem dX7_findShortest_13 : decode cX7_findShortest 13 = .ok (.iload 4, 2) := by decide +kernel
theorem dX7_findShortest_15 : decode cX7_findShortest 15 = .ok (.aload_n 0, 1) := by decide +kernel
theorem dX7_findShortest_16 : decode cX7_findShortest 16 = .ok (.getfield 230, 3) := by decide +kernel
theorem dX7_findShortest_19 : decode cX7_findShortest 19 = .ok (.if_icmp .gt 163, 3) := by decide +kernel
theorem dX7_findShortest_22 : decode cX7_findShortest 22 = .ok (.aload_n 0, 1) := by decide +kernel
theorem dX7_findShortest_23 : decode cX7_findShortest 23 = .ok (.iload 4, 2) := by decide +kernel
theorem dX7_findShortest_25 : decode cX7_findShortest 25 = .ok (.iconst 0, 1) := by decide +kernel
theorem dX7_findShortest_26 : decode cX7_findShortest 26 = .ok (.invokevirtual 276, 3) := by decide +kernel
theorem dX7_findShortest_29 : decode cX7_findShortest 29 = .ok (.aload_n 0, 1) := by decide +kernel
theorem dX7_findShortest_30 : decode cX7_findShortest 30 = .ok (.iload_n 1, 1) := by decide +kernel
theorem dX7_findShortest_31 : decode cX7_findShortest 31 = .ok (.lload_n 2, 1) := by decide +kernel
theorem dX7_findShortest_32 : decode cX7_findShortest 32 = .ok (.invokevirtual 279, 3) := by decide +kernel
theorem dX7_findShortest_35 : decode cX7_findShortest 35 = .ok (.istore 5, 2) := by decide +kernel
theorem dX7_findShortest_37 : decode cX7_findShortest 37 = .ok (.iconst 0, 1) := by decide +kernel
theorem dX7_findShortest_38 : decode cX7_findShortest 38 = .ok (.istore 6, 2) := by decide +kernel
theorem dX7_findShortest_40 : decode cX7_findShortest 40 = .ok (.iload 4, 2) := by decide +kernel
theorem dX7_findShortest_42 : decode cX7_findShortest 42 = .ok (.aload_n 0, 1) := by decide +kernel
theorem dX7_findShortest_43 : decode cX7_findShortest 43 = .ok (.getfield 230, 3) := by decide +kernel
theorem dX7_findShortest_46 : decode cX7_findShortest 46 = .ok (.if_icmp .ge 18, 3) := by decide +kernel
theorem dX7_findShortest_49 : decode cX7_findShortest 49 = .ok (.aload_n 0, 1) := by decide +kernel
theorem dX7_findShortest_50 : decode cX7_findShortest 50 = .ok (.iload 4, 2) := by decide +kernel
theorem dX7_findShortest_52 : decode cX7_findShortest 52 = .ok (.iconst 1, 1) := by decide +kernel
theorem dX7_findShortest_53 : decode cX7_findShortest 53 = .ok (.invokevirtual 276, 3) := by decide +kernel
theorem dX7_findShortest_56 : decode cX7_findShortest 56 = .ok (.aload_n 0, 1) := by decide +kernel
theorem dX7_findShortest_57 : decode cX7_findShortest 57 = .ok (.iload_n 1, 1) := by decide +kernel
theorem dX7_findShortest_58 : decode cX7_findShortest 58 = .ok (.lload_n 2, 1) := by decide +kernel
theorem dX7_findShortest_59 : decode cX7_findShortest 59 = .ok (.invokevirtual 279, 3) := by decide +kernel
theorem dX7_findShortest_62 : decode cX7_findShortest 62 = .ok (.istore 6, 2) := by decide +kernel
theorem dX7_findShortest_64 : decode cX7_findShortest 64 = .ok (.iload 5, 2) := by decide +kernel
theorem dX7_findShortest_66 : decode cX7_findShortest 66 = .ok (.ifCond .ne 8, 3) := by decide +kernel
theorem dX7_findShortest_69 : decode cX7_findShortest 69 = .ok (.iload 6, 2) := by decide +kernel
theorem dX7_findShortest_71 : decode cX7_findShortest 71 = .ok (.ifCond .eq 105, 3) := by decide +kernel
theorem dX7_findShortest_74 : decode cX7_findShortest 74 = .ok (.aload_n 0, 1) := by decide +kernel
theorem dX7_findShortest_75 : decode cX7_findShortest 75 = .ok (.iload 4, 2) := by decide +kernel
theorem dX7_findShortest_77 : decode cX7_findShortest 77 = .ok (.invokevirtual 282, 3) := by decide +kernel
theorem dX7_findShortest_80 : decode cX7_findShortest 80 = .ok (.istore 7, 2) := by decide +kernel
theorem dX7_findShortest_82 : decode cX7_findShortest 82 = .ok (.aload_n 0, 1) := by decide +kernel
theorem dX7_findShortest_83 : decode cX7_findShortest 83 = .ok (.getfield 28, 3) := by decide +kernel
theorem dX7_findShortest_86 : decode cX7_findShortest 86 = .ok (.iload 4, 2) := by decide +kernel
theorem dX7_findShortest_88 : decode cX7_findShortest 88 = .ok (.iconst 1, 1) := by decide +kernel
theorem dX7_findShortest_89 : decode cX7_findShortest 89 = .ok (.isub, 1) := by decide +kernel
theorem dX7_findShortest_90 : decode cX7_findShortest 90 = .ok (.iaload, 1) := by decide +kernel
theorem dX7_findShortest_91 : decode cX7_findShortest 91 = .ok (.iconst 2, 1) := by decide +kernel
theorem dX7_findShortest_92 : decode cX7_findShortest 92 = .ok (.irem, 1) := by decide +kernel
theorem dX7_findShortest_93 : decode cX7_findShortest 93 = .ok (.iconst 1, 1) := by decide +kernel
theorem dX7_findShortest_94 : decode cX7_findShortest 94 = .ok (.if_icmp .ne 7, 3) := by decide +kernel
theorem dX7_findShortest_97 : decode cX7_findShortest 97 = .ok (.iconst 1, 1) := by decide +kernel
theorem dX7_findShortest_98 : decode cX7_findShortest 98 = .ok (.goto 4, 3) := by decide +kernel
theorem dX7_findShortest_101 : decode cX7_findShortest 101 = .ok (.iconst 0, 1) := by decide +kernel
theorem dX7_findShortest_102 : decode cX7_findShortest 102 = .ok (.istore 8, 2) := by decide +kernel
theorem dX7_findShortest_104 : decode cX7_findShortest 104 = .ok (.aload_n 0, 1) := by decide +kernel
theorem dX7_findShortest_105 : decode cX7_findShortest 105 = .ok (.iload 4, 2) := by decide +kernel
theorem dX7_findShortest_107 : decode cX7_findShortest 107 = .ok (.iload 6, 2) := by decide +kernel
theorem dX7_findShortest_109 : decode cX7_findShortest 109 = .ok (.ifCond .eq 27, 3) := by decide +kernel
theorem dX7_findShortest_112 : decode cX7_findShortest 112 = .ok (.iload 5, 2) := by decide +kernel
theorem dX7_findShortest_114 : decode cX7_findShortest 114 = .ok (.ifCond .eq 18, 3) := by decide +kernel
theorem dX7_findShortest_117 : decode cX7_findShortest 117 = .ok (.iload 7, 2) := by decide +kernel
theorem dX7_findShortest_119 : decode cX7_findShortest 119 = .ok (.ifCond .gt 13, 3) := by decide +kernel
theorem dX7_findShortest_122 : decode cX7_findShortest 122 = .ok (.iload 7, 2) := by decide +kernel
theorem dX7_findShortest_124 : decode cX7_findShortest 124 = .ok (.ifCond .ne 12, 3) := by decide +kernel
theorem dX7_findShortest_127 : decode cX7_findShortest 127 = .ok (.iload 8, 2) := by decide +kernel
theorem dX7_findShortest_129 : decode cX7_findShortest 129 = .ok (.ifCond .eq 7, 3) := by decide +kernel
theorem dX7_findShortest_132 : decode cX7_findShortest 132 = .ok (.iconst 1, 1) := by decide +kernel
theorem dX7_findShortest_133 : decode cX7_findShortest 133 = .ok (.goto 4, 3) := by decide +kernel
theorem dX7_findShortest_136 : decode cX7_findShortest 136 = .ok (.iconst 0, 1) := by decide +kernel
theorem dX7_findShortest_137 : decode cX7_findShortest 137 = .ok (.invokevirtual 276, 3) := by decide +kernel
theorem dX7_findShortest_140 : decode cX7_findShortest 140 = .ok (.aload_n 0, 1) := by decide +kernel
theorem dX7_findShortest_141 : decode cX7_findShortest 141 = .ok (.getfield 233, 3) := by decide +kernel
theorem dX7_findShortest_144 : decode cX7_findShortest 144 = .ok (.iconst 1, 1) := by decide +kernel
theorem dX7_findShortest_145 : decode cX7_findShortest 145 = .ok (.if_icmp .le 30, 3) := by decide +kernel
theorem dX7_findShortest_148 : decode cX7_findShortest 148 = .ok (.aload_n 0, 1) := by decide +kernel
theorem dX7_findShortest_149 : decode cX7_findShortest 149 = .ok (.getfield 16, 3) := by decide +kernel
theorem dX7_findShortest_152 : decode cX7_findShortest 152 = .ok (.aload_n 0, 1) := by decide +kernel
theorem dX7_findShortest_153 : decode cX7_findShortest 153 = .ok (.getfield 233, 3) := by decide +kernel
theorem dX7_findShortest_156 : decode cX7_findShortest 156 = .ok (.iconst 1, 1) := by decide +kernel
theorem dX7_findShortest_157 : decode cX7_findShortest 157 = .ok (.isub, 1) := by decide +kernel
theorem dX7_findShortest_158 : decode cX7_findShortest 158 = .ok (.iaload, 1) := by decide +kernel
theorem dX7_findShortest_159 : decode cX7_findShortest 159 = .ok (.ifCond .ne 16, 3) := by decide +kernel
theorem dX7_findShortest_162 : decode cX7_findShortest 162 = .ok (.aload_n 0, 1) := by decide +kernel
theorem dX7_findShortest_163 : decode cX7_findShortest 163 = .ok (.dup, 1) := by decide +kernel
theorem dX7_findShortest_164 : decode cX7_findShortest 164 = .ok (.getfield 233, 3) := by decide +kernel
theorem dX7_findShortest_167 : decode cX7_findShortest 167 = .ok (.iconst 1, 1) := by decide +kernel
theorem dX7_findShortest_168 : decode cX7_findShortest 168 = .ok (.isub, 1) := by decide +kernel
theorem dX7_findShortest_169 : decode cX7_findShortest 169 = .ok (.putfield 233, 3) := by decide +kernel
theorem dX7_findShortest_172 : decode cX7_findShortest 172 = .ok (.goto (-32), 3) := by decide +kernel
theorem dX7_findShortest_175 : decode cX7_findShortest 175 = .ok (.return_, 1) := by decide +kernel
theorem dX7_findShortest_176 : decode cX7_findShortest 176 = .ok (.iinc 4 1, 3) := by decide +kernel
theorem dX7_findShortest_179 : decode cX7_findShortest 179 = .ok (.goto (-166), 3) := by decide +kernel
theorem dX7_findShortest_182 : decode cX7_findShortest 182 = .ok (.return_, 1) := by decide +kernel
theorem dX7_isForm_0 : decode cX7_isForm 0 = .ok (.iload_n 0, 1) := by decide +kernel
theorem dX7_isForm_1 : decode cX7_isForm 1 = .ok (.i2l, 1) := by decide +kernel
theorem dX7_isForm_2 : decode cX7_isForm 2 = .ok (.lconst 0, 1) := by decide +kernel
theorem dX7_isForm_3 : decode cX7_isForm 3 = .ok (.ldc2_w 45, 3) := by decide +kernel
theorem dX7_isForm_6 : decode cX7_isForm 6 = .ok (.invokestatic 52, 3) := by decide +kernel
theorem dX7_isForm_9 : decode cX7_isForm 9 = .ok (.ireturn, 1) := by decide +kernel
theorem dX7_shortest_0 : decode cX7_shortest 0 = .ok (.aload_n 0, 1) := by decide +kernel
theorem dX7_shortest_1 : decode cX7_shortest 1 = .ok (.iload_n 1, 1) := by decide +kernel
theorem dX7_shortest_2 : decode cX7_shortest 2 = .ok (.lload_n 2, 1) := by decide +kernel
theorem dX7_shortest_3 : decode cX7_shortest 3 = .ok (.invokestatic 285, 3) := by decide +kernel
theorem dX7_shortest_6 : decode cX7_shortest 6 = .ok (.ifCond .eq 15, 3) := by decide +kernel
theorem dX7_shortest_9 : decode cX7_shortest 9 = .ok (.iload 4, 2) := by decide +kernel
theorem dX7_shortest_11 : decode cX7_shortest 11 = .ok (.invokestatic 288, 3) := by decide +kernel
theorem dX7_shortest_14 : decode cX7_shortest 14 = .ok (.ifCond .eq 7, 3) := by decide +kernel
theorem dX7_shortest_17 : decode cX7_shortest 17 = .ok (.iconst 1, 1) := by decide +kernel
theorem dX7_shortest_18 : decode cX7_shortest 18 = .ok (.goto 4, 3) := by decide +kernel
theorem dX7_shortest_21 : decode cX7_shortest 21 = .ok (.iconst 0, 1) := by decide +kernel
theorem dX7_shortest_22 : decode cX7_shortest 22 = .ok (.invokevirtual 150, 3) := by decide +kernel
theorem dX7_shortest_25 : decode cX7_shortest 25 = .ok (.ifCond .eq 5, 3) := by decide +kernel
theorem dX7_shortest_28 : decode cX7_shortest 28 = .ok (.iconst 0, 1) := by decide +kernel
theorem dX7_shortest_29 : decode cX7_shortest 29 = .ok (.ireturn, 1) := by decide +kernel
theorem dX7_shortest_30 : decode cX7_shortest 30 = .ok (.aload_n 0, 1) := by decide +kernel
theorem dX7_shortest_31 : decode cX7_shortest 31 = .ok (.iload_n 1, 1) := by decide +kernel
theorem dX7_shortest_32 : decode cX7_shortest 32 = .ok (.lload_n 2, 1) := by decide +kernel
theorem dX7_shortest_33 : decode cX7_shortest 33 = .ok (.invokevirtual 292, 3) := by decide +kernel
theorem dX7_shortest_36 : decode cX7_shortest 36 = .ok (.ifCond .eq 8, 3) := by decide +kernel
theorem dX7_shortest_39 : decode cX7_shortest 39 = .ok (.aload_n 0, 1) := by decide +kernel
theorem dX7_shortest_40 : decode cX7_shortest 40 = .ok (.getfield 159, 3) := by decide +kernel
theorem dX7_shortest_43 : decode cX7_shortest 43 = .ok (.ireturn, 1) := by decide +kernel
theorem dX7_shortest_44 : decode cX7_shortest 44 = .ok (.iload_n 1, 1) := by decide +kernel
theorem dX7_shortest_45 : decode cX7_shortest 45 = .ok (.lload_n 2, 1) := by decide +kernel
theorem dX7_shortest_46 : decode cX7_shortest 46 = .ok (.invokestatic 60, 3) := by decide +kernel
theorem dX7_shortest_49 : decode cX7_shortest 49 = .ok (.lstore 5, 2) := by decide +kernel
theorem dX7_shortest_51 : decode cX7_shortest 51 = .ok (.lload 5, 2) := by decide +kernel
theorem dX7_shortest_53 : decode cX7_shortest 53 = .ok (.lconst 0, 1) := by decide +kernel
theorem dX7_shortest_54 : decode cX7_shortest 54 = .ok (.lcmp, 1) := by decide +kernel
theorem dX7_shortest_55 : decode cX7_shortest 55 = .ok (.ifCond .ne 11, 3) := by decide +kernel
theorem dX7_shortest_58 : decode cX7_shortest 58 = .ok (.aload_n 0, 1) := by decide +kernel
theorem dX7_shortest_59 : decode cX7_shortest 59 = .ok (.iconst 1, 1) := by decide +kernel
theorem dX7_shortest_60 : decode cX7_shortest 60 = .ok (.invokevirtual 295, 3) := by decide +kernel
theorem dX7_shortest_63 : decode cX7_shortest 63 = .ok (.goto 10, 3) := by decide +kernel
theorem dX7_shortest_66 : decode cX7_shortest 66 = .ok (.aload_n 0, 1) := by decide +kernel
theorem dX7_shortest_67 : decode cX7_shortest 67 = .ok (.iload_n 1, 1) := by decide +kernel
theorem dX7_shortest_68 : decode cX7_shortest 68 = .ok (.lload 5, 2) := by decide +kernel
theorem dX7_shortest_70 : decode cX7_shortest 70 = .ok (.invokevirtual 298, 3) := by decide +kernel
theorem dX7_shortest_73 : decode cX7_shortest 73 = .ok (.aload_n 0, 1) := by decide +kernel
theorem dX7_shortest_74 : decode cX7_shortest 74 = .ok (.iload 4, 2) := by decide +kernel
theorem dX7_shortest_76 : decode cX7_shortest 76 = .ok (.invokevirtual 301, 3) := by decide +kernel
theorem dX7_shortest_79 : decode cX7_shortest 79 = .ok (.ireturn, 1) := by decide +kernel
theorem dX7_exact_0 : decode cX7_exact 0 = .ok (.aload_n 0, 1) := by decide +kernel
theorem dX7_exact_1 : decode cX7_exact 1 = .ok (.iload_n 1, 1) := by decide +kernel
theorem dX7_exact_2 : decode cX7_exact 2 = .ok (.lload_n 2, 1) := by decide +kernel
theorem dX7_exact_3 : decode cX7_exact 3 = .ok (.invokestatic 285, 3) := by decide +kernel
theorem dX7_exact_6 : decode cX7_exact 6 = .ok (.ifCond .eq 15, 3) := by decide +kernel
theorem dX7_exact_9 : decode cX7_exact 9 = .ok (.iload 4, 2) := by decide +kernel
theorem dX7_exact_11 : decode cX7_exact 11 = .ok (.invokestatic 288, 3) := by decide +kernel
theorem dX7_exact_14 : decode cX7_exact 14 = .ok (.ifCond .eq 7, 3) := by decide +kernel
theorem dX7_exact_17 : decode cX7_exact 17 = .ok (.iconst 1, 1) := by decide +kernel
theorem dX7_exact_18 : decode cX7_exact 18 = .ok (.goto 4, 3) := by decide +kernel
theorem dX7_exact_21 : decode cX7_exact 21 = .ok (.iconst 0, 1) := by decide +kernel
theorem dX7_exact_22 : decode cX7_exact 22 = .ok (.invokevirtual 150, 3) := by decide +kernel
theorem dX7_exact_25 : decode cX7_exact 25 = .ok (.ifCond .eq 5, 3) := by decide +kernel
theorem dX7_exact_28 : decode cX7_exact 28 = .ok (.iconst 0, 1) := by decide +kernel
theorem dX7_exact_29 : decode cX7_exact 29 = .ok (.ireturn, 1) := by decide +kernel
theorem dX7_exact_30 : decode cX7_exact 30 = .ok (.aload_n 0, 1) := by decide +kernel
theorem dX7_exact_31 : decode cX7_exact 31 = .ok (.iload_n 1, 1) := by decide +kernel
theorem dX7_exact_32 : decode cX7_exact 32 = .ok (.lload_n 2, 1) := by decide +kernel
theorem dX7_exact_33 : decode cX7_exact 33 = .ok (.invokevirtual 292, 3) := by decide +kernel
theorem dX7_exact_36 : decode cX7_exact 36 = .ok (.ifCond .eq 8, 3) := by decide +kernel
theorem dX7_exact_39 : decode cX7_exact 39 = .ok (.aload_n 0, 1) := by decide +kernel
theorem dX7_exact_40 : decode cX7_exact 40 = .ok (.getfield 159, 3) := by decide +kernel
theorem dX7_exact_43 : decode cX7_exact 43 = .ok (.ireturn, 1) := by decide +kernel
theorem dX7_exact_44 : decode cX7_exact 44 = .ok (.iload_n 1, 1) := by decide +kernel
theorem dX7_exact_45 : decode cX7_exact 45 = .ok (.lload_n 2, 1) := by decide +kernel
theorem dX7_exact_46 : decode cX7_exact 46 = .ok (.invokestatic 60, 3) := by decide +kernel
theorem dX7_exact_49 : decode cX7_exact 49 = .ok (.lstore 5, 2) := by decide +kernel
theorem dX7_exact_51 : decode cX7_exact 51 = .ok (.lload 5, 2) := by decide +kernel
theorem dX7_exact_53 : decode cX7_exact 53 = .ok (.lconst 0, 1) := by decide +kernel
theorem dX7_exact_54 : decode cX7_exact 54 = .ok (.lcmp, 1) := by decide +kernel
theorem dX7_exact_55 : decode cX7_exact 55 = .ok (.ifCond .ne 11, 3) := by decide +kernel
theorem dX7_exact_58 : decode cX7_exact 58 = .ok (.aload_n 0, 1) := by decide +kernel
theorem dX7_exact_59 : decode cX7_exact 59 = .ok (.iconst 1, 1) := by decide +kernel
theorem dX7_exact_60 : decode cX7_exact 60 = .ok (.invokevirtual 295, 3) := by decide +kernel
theorem dX7_exact_63 : decode cX7_exact 63 = .ok (.goto 23, 3) := by decide +kernel
theorem dX7_exact_66 : decode cX7_exact 66 = .ok (.aload_n 0, 1) := by decide +kernel
theorem dX7_exact_67 : decode cX7_exact 67 = .ok (.iload_n 1, 1) := by decide +kernel
theorem dX7_exact_68 : decode cX7_exact 68 = .ok (.lload 5, 2) := by decide +kernel
theorem dX7_exact_70 : decode cX7_exact 70 = .ok (.invokevirtual 269, 3) := by decide +kernel
theorem dX7_exact_73 : decode cX7_exact 73 = .ok (.aload_n 0, 1) := by decide +kernel
theorem dX7_exact_74 : decode cX7_exact 74 = .ok (.invokevirtual 273, 3) := by decide +kernel
theorem dX7_exact_77 : decode cX7_exact 77 = .ok (.aload_n 0, 1) := by decide +kernel
theorem dX7_exact_78 : decode cX7_exact 78 = .ok (.aload_n 0, 1) := by decide +kernel
theorem dX7_exact_79 : decode cX7_exact 79 = .ok (.getfield 230, 3) := by decide +kernel
theorem dX7_exact_82 : decode cX7_exact 82 = .ok (.iconst 0, 1) := by decide +kernel
theorem dX7_exact_83 : decode cX7_exact 83 = .ok (.invokevirtual 276, 3) := by decide +kernel
theorem dX7_exact_86 : decode cX7_exact 86 = .ok (.aload_n 0, 1) := by decide +kernel
theorem dX7_exact_87 : decode cX7_exact 87 = .ok (.iload 4, 2) := by decide +kernel
theorem dX7_exact_89 : decode cX7_exact 89 = .ok (.invokevirtual 301, 3) := by decide +kernel
theorem dX7_exact_92 : decode cX7_exact 92 = .ok (.ireturn, 1) := by decide +kernel
theorem dX7_middle_0 : decode cX7_middle 0 = .ok (.aload_n 0, 1) := by decide +kernel
theorem dX7_middle_1 : decode cX7_middle 1 = .ok (.iload_n 1, 1) := by decide +kernel
theorem dX7_middle_2 : decode cX7_middle 2 = .ok (.lload_n 2, 1) := by decide +kernel
theorem dX7_middle_3 : decode cX7_middle 3 = .ok (.invokestatic 285, 3) := by decide +kernel
theorem dX7_middle_6 : decode cX7_middle 6 = .ok (.ifCond .eq 23, 3) := by decide +kernel
theorem dX7_middle_9 : decode cX7_middle 9 = .ok (.iload 4, 2) := by decide +kernel
theorem dX7_middle_11 : decode cX7_middle 11 = .ok (.invokestatic 288, 3) := by decide +kernel
theorem dX7_middle_14 : decode cX7_middle 14 = .ok (.ifCond .eq 15, 3) := by decide +kernel
theorem dX7_middle_17 : decode cX7_middle 17 = .ok (.iload_n 1, 1) := by decide +kernel
theorem dX7_middle_18 : decode cX7_middle 18 = .ok (.lload_n 2, 1) := by decide +kernel
theorem dX7_middle_19 : decode cX7_middle 19 = .ok (.invokestatic 263, 3) := by decide +kernel
theorem dX7_middle_22 : decode cX7_middle 22 = .ok (.ifCond .eq 7, 3) := by decide +kernel
theorem dX7_middle_25 : decode cX7_middle 25 = .ok (.iconst 1, 1) := by decide +kernel
theorem dX7_middle_26 : decode cX7_middle 26 = .ok (.goto 4, 3) := by decide +kernel
theorem dX7_middle_29 : decode cX7_middle 29 = .ok (.iconst 0, 1) := by decide +kernel
theorem dX7_middle_30 : decode cX7_middle 30 = .ok (.invokevirtual 150, 3) := by decide +kernel
theorem dX7_middle_33 : decode cX7_middle 33 = .ok (.ifCond .eq 5, 3) := by decide +kernel
theorem dX7_middle_36 : decode cX7_middle 36 = .ok (.iconst 0, 1) := by decide +kernel
theorem dX7_middle_37 : decode cX7_middle 37 = .ok (.ireturn, 1) := by decide +kernel
theorem dX7_middle_38 : decode cX7_middle 38 = .ok (.aload_n 0, 1) := by decide +kernel
theorem dX7_middle_39 : decode cX7_middle 39 = .ok (.iload_n 1, 1) := by decide +kernel
theorem dX7_middle_40 : decode cX7_middle 40 = .ok (.lload_n 2, 1) := by decide +kernel
theorem dX7_middle_41 : decode cX7_middle 41 = .ok (.invokestatic 259, 3) := by decide +kernel
theorem dX7_middle_44 : decode cX7_middle 44 = .ok (.ifCond .eq 7, 3) := by decide +kernel
theorem dX7_middle_47 : decode cX7_middle 47 = .ok (.iconst 1, 1) := by decide +kernel
theorem dX7_middle_48 : decode cX7_middle 48 = .ok (.goto 4, 3) := by decide +kernel
theorem dX7_middle_51 : decode cX7_middle 51 = .ok (.iconst 0, 1) := by decide +kernel
theorem dX7_middle_52 : decode cX7_middle 52 = .ok (.putfield 243, 3) := by decide +kernel
theorem dX7_middle_55 : decode cX7_middle 55 = .ok (.aload_n 0, 1) := by decide +kernel
theorem dX7_middle_56 : decode cX7_middle 56 = .ok (.iload_n 1, 1) := by decide +kernel
theorem dX7_middle_57 : decode cX7_middle 57 = .ok (.iload_n 1, 1) := by decide +kernel
theorem dX7_middle_58 : decode cX7_middle 58 = .ok (.lload_n 2, 1) := by decide +kernel
theorem dX7_middle_59 : decode cX7_middle 59 = .ok (.invokestatic 60, 3) := by decide +kernel
theorem dX7_middle_62 : decode cX7_middle 62 = .ok (.invokevirtual 269, 3) := by decide +kernel
theorem dX7_middle_65 : decode cX7_middle 65 = .ok (.aload_n 0, 1) := by decide +kernel
theorem dX7_middle_66 : decode cX7_middle 66 = .ok (.ldc2_w 45, 3) := by decide +kernel
theorem dX7_middle_69 : decode cX7_middle 69 = .ok (.aload_n 0, 1) := by decide +kernel
theorem dX7_middle_70 : decode cX7_middle 70 = .ok (.getfield 67, 3) := by decide +kernel
theorem dX7_middle_73 : decode cX7_middle 73 = .ok (.lmul, 1) := by decide +kernel
theorem dX7_middle_74 : decode cX7_middle 74 = .ok (.lconst 1, 1) := by decide +kernel
theorem dX7_middle_75 : decode cX7_middle 75 = .ok (.ladd, 1) := by decide +kernel
theorem dX7_middle_76 : decode cX7_middle 76 = .ok (.putfield 67, 3) := by decide +kernel
theorem dX7_middle_79 : decode cX7_middle 79 = .ok (.aload_n 0, 1) := by decide +kernel
theorem dX7_middle_80 : decode cX7_middle 80 = .ok (.dup, 1) := by decide +kernel
theorem dX7_middle_81 : decode cX7_middle 81 = .ok (.getfield 74, 3) := by decide +kernel
theorem dX7_middle_84 : decode cX7_middle 84 = .ok (.iconst 1, 1) := by decide +kernel
theorem dX7_middle_85 : decode cX7_middle 85 = .ok (.isub, 1) := by decide +kernel
theorem dX7_middle_86 : decode cX7_middle 86 = .ok (.putfield 74, 3) := by decide +kernel
theorem dX7_middle_89 : decode cX7_middle 89 = .ok (.aload_n 0, 1) := by decide +kernel
theorem dX7_middle_90 : decode cX7_middle 90 = .ok (.invokevirtual 273, 3) := by decide +kernel
theorem dX7_middle_93 : decode cX7_middle 93 = .ok (.aload_n 0, 1) := by decide +kernel
theorem dX7_middle_94 : decode cX7_middle 94 = .ok (.aload_n 0, 1) := by decide +kernel
theorem dX7_middle_95 : decode cX7_middle 95 = .ok (.getfield 230, 3) := by decide +kernel
theorem dX7_middle_98 : decode cX7_middle 98 = .ok (.iconst 0, 1) := by decide +kernel
theorem dX7_middle_99 : decode cX7_middle 99 = .ok (.invokevirtual 276, 3) := by decide +kernel
theorem dX7_middle_102 : decode cX7_middle 102 = .ok (.aload_n 0, 1) := by decide +kernel
theorem dX7_middle_103 : decode cX7_middle 103 = .ok (.iload 4, 2) := by decide +kernel
theorem dX7_middle_105 : decode cX7_middle 105 = .ok (.invokevirtual 301, 3) := by decide +kernel
theorem dX7_middle_108 : decode cX7_middle 108 = .ok (.ireturn, 1) := by decide +kernel
theorem dX7_digits_0 : decode cX7_digits 0 = .ok (.aload_n 0, 1) := by decide +kernel
theorem dX7_digits_1 : decode cX7_digits 1 = .ok (.iload_n 1, 1) := by decide +kernel
theorem dX7_digits_2 : decode cX7_digits 2 = .ok (.lload_n 2, 1) := by decide +kernel
theorem dX7_digits_3 : decode cX7_digits 3 = .ok (.invokestatic 285, 3) := by decide +kernel
theorem dX7_digits_6 : decode cX7_digits 6 = .ok (.ifCond .eq 41, 3) := by decide +kernel
theorem dX7_digits_9 : decode cX7_digits 9 = .ok (.iload 4, 2) := by decide +kernel
theorem dX7_digits_11 : decode cX7_digits 11 = .ok (.i2l, 1) := by decide +kernel
theorem dX7_digits_12 : decode cX7_digits 12 = .ok (.lconst 1, 1) := by decide +kernel
theorem dX7_digits_13 : decode cX7_digits 13 = .ok (.ldc2_w 304, 3) := by decide +kernel
theorem dX7_digits_16 : decode cX7_digits 16 = .ok (.invokestatic 52, 3) := by decide +kernel
theorem dX7_digits_19 : decode cX7_digits 19 = .ok (.ifCond .eq 28, 3) := by decide +kernel
theorem dX7_digits_22 : decode cX7_digits 22 = .ok (.iload 5, 2) := by decide +kernel
theorem dX7_digits_24 : decode cX7_digits 24 = .ok (.i2l, 1) := by decide +kernel
theorem dX7_digits_25 : decode cX7_digits 25 = .ok (.lconst 0, 1) := by decide +kernel
theorem dX7_digits_26 : decode cX7_digits 26 = .ok (.ldc2_w 200, 3) := by decide +kernel
theorem dX7_digits_29 : decode cX7_digits 29 = .ok (.invokestatic 52, 3) := by decide +kernel
theorem dX7_digits_32 : decode cX7_digits 32 = .ok (.ifCond .eq 15, 3) := by decide +kernel
theorem dX7_digits_35 : decode cX7_digits 35 = .ok (.iload 6, 2) := by decide +kernel
theorem dX7_digits_37 : decode cX7_digits 37 = .ok (.invokestatic 288, 3) := by decide +kernel
theorem dX7_digits_40 : decode cX7_digits 40 = .ok (.ifCond .eq 7, 3) := by decide +kernel
theorem dX7_digits_43 : decode cX7_digits 43 = .ok (.iconst 1, 1) := by decide +kernel
theorem dX7_digits_44 : decode cX7_digits 44 = .ok (.goto 4, 3) := by decide +kernel
theorem dX7_digits_47 : decode cX7_digits 47 = .ok (.iconst 0, 1) := by decide +kernel
theorem dX7_digits_48 : decode cX7_digits 48 = .ok (.invokevirtual 150, 3) := by decide +kernel
theorem dX7_digits_51 : decode cX7_digits 51 = .ok (.ifCond .eq 5, 3) := by decide +kernel
theorem dX7_digits_54 : decode cX7_digits 54 = .ok (.iconst 0, 1) := by decide +kernel
theorem dX7_digits_55 : decode cX7_digits 55 = .ok (.ireturn, 1) := by decide +kernel
theorem dX7_digits_56 : decode cX7_digits 56 = .ok (.aload_n 0, 1) := by decide +kernel
theorem dX7_digits_57 : decode cX7_digits 57 = .ok (.iload_n 1, 1) := by decide +kernel
theorem dX7_digits_58 : decode cX7_digits 58 = .ok (.lload_n 2, 1) := by decide +kernel
theorem dX7_digits_59 : decode cX7_digits 59 = .ok (.invokevirtual 292, 3) := by decide +kernel
theorem dX7_digits_62 : decode cX7_digits 62 = .ok (.ifCond .eq 8, 3) := by decide +kernel
theorem dX7_digits_65 : decode cX7_digits 65 = .ok (.aload_n 0, 1) := by decide +kernel
theorem dX7_digits_66 : decode cX7_digits 66 = .ok (.getfield 159, 3) := by decide +kernel
theorem dX7_digits_69 : decode cX7_digits 69 = .ok (.ireturn, 1) := by decide +kernel
theorem dX7_digits_70 : decode cX7_digits 70 = .ok (.iload_n 1, 1) := by decide +kernel
theorem dX7_digits_71 : decode cX7_digits 71 = .ok (.lload_n 2, 1) := by decide +kernel
theorem dX7_digits_72 : decode cX7_digits 72 = .ok (.invokestatic 60, 3) := by decide +kernel
theorem dX7_digits_75 : decode cX7_digits 75 = .ok (.lstore 7, 2) := by decide +kernel
theorem dX7_digits_77 : decode cX7_digits 77 = .ok (.lload 7, 2) := by decide +kernel
theorem dX7_digits_79 : decode cX7_digits 79 = .ok (.lconst 0, 1) := by decide +kernel
theorem dX7_digits_80 : decode cX7_digits 80 = .ok (.lcmp, 1) := by decide +kernel
theorem dX7_digits_81 : decode cX7_digits 81 = .ok (.ifCond .ne 12, 3) := by decide +kernel
theorem dX7_digits_84 : decode cX7_digits 84 = .ok (.aload_n 0, 1) := by decide +kernel
theorem dX7_digits_85 : decode cX7_digits 85 = .ok (.iload 4, 2) := by decide +kernel
theorem dX7_digits_87 : decode cX7_digits 87 = .ok (.invokevirtual 295, 3) := by decide +kernel
theorem dX7_digits_90 : decode cX7_digits 90 = .ok (.goto 77, 3) := by decide +kernel
theorem dX7_digits_93 : decode cX7_digits 93 = .ok (.aload_n 0, 1) := by decide +kernel
theorem dX7_digits_94 : decode cX7_digits 94 = .ok (.iload_n 1, 1) := by decide +kernel
theorem dX7_digits_95 : decode cX7_digits 95 = .ok (.lload 7, 2) := by decide +kernel
theorem dX7_digits_97 : decode cX7_digits 97 = .ok (.invokevirtual 269, 3) := by decide +kernel
theorem dX7_digits_100 : decode cX7_digits 100 = .ok (.aload_n 0, 1) := by decide +kernel
theorem dX7_digits_101 : decode cX7_digits 101 = .ok (.invokevirtual 273, 3) := by decide +kernel
theorem dX7_digits_104 : decode cX7_digits 104 = .ok (.iload 4, 2) := by decide +kernel
theorem dX7_digits_106 : decode cX7_digits 106 = .ok (.aload_n 0, 1) := by decide +kernel
theorem dX7_digits_107 : decode cX7_digits 107 = .ok (.getfield 230, 3) := by decide +kernel
theorem dX7_digits_110 : decode cX7_digits 110 = .ok (.if_icmp .gt 22, 3) := by decide +kernel
theorem dX7_digits_113 : decode cX7_digits 113 = .ok (.aload_n 0, 1) := by decide +kernel
theorem dX7_digits_114 : decode cX7_digits 114 = .ok (.getfield 28, 3) := by decide +kernel
theorem dX7_digits_117 : decode cX7_digits 117 = .ok (.iload 4, 2) := by decide +kernel
theorem dX7_digits_119 : decode cX7_digits 119 = .ok (.iconst 1, 1) := by decide +kernel
theorem dX7_digits_120 : decode cX7_digits 120 = .ok (.isub, 1) := by decide +kernel
theorem dX7_digits_121 : decode cX7_digits 121 = .ok (.iaload, 1) := by decide +kernel
theorem dX7_digits_122 : decode cX7_digits 122 = .ok (.iconst 2, 1) := by decide +kernel
theorem dX7_digits_123 : decode cX7_digits 123 = .ok (.irem, 1) := by decide +kernel
theorem dX7_digits_124 : decode cX7_digits 124 = .ok (.iconst 1, 1) := by decide +kernel
theorem dX7_digits_125 : decode cX7_digits 125 = .ok (.if_icmp .ne 7, 3) := by decide +kernel
theorem dX7_digits_128 : decode cX7_digits 128 = .ok (.iconst 1, 1) := by decide +kernel
theorem dX7_digits_129 : decode cX7_digits 129 = .ok (.goto 4, 3) := by decide +kernel
theorem dX7_digits_132 : decode cX7_digits 132 = .ok (.iconst 0, 1) := by decide +kernel
theorem dX7_digits_133 : decode cX7_digits 133 = .ok (.istore 9, 2) := by decide +kernel
theorem dX7_digits_135 : decode cX7_digits 135 = .ok (.aload_n 0, 1) := by decide +kernel
theorem dX7_digits_136 : decode cX7_digits 136 = .ok (.iload 4, 2) := by decide +kernel
theorem dX7_digits_138 : decode cX7_digits 138 = .ok (.aload_n 0, 1) := by decide +kernel
theorem dX7_digits_139 : decode cX7_digits 139 = .ok (.iload 4, 2) := by decide +kernel
theorem dX7_digits_141 : decode cX7_digits 141 = .ok (.invokevirtual 282, 3) := by decide +kernel
theorem dX7_digits_144 : decode cX7_digits 144 = .ok (.iload 9, 2) := by decide +kernel
theorem dX7_digits_146 : decode cX7_digits 146 = .ok (.aload_n 0, 1) := by decide +kernel
theorem dX7_digits_147 : decode cX7_digits 147 = .ok (.getfield 243, 3) := by decide +kernel
theorem dX7_digits_150 : decode cX7_digits 150 = .ok (.iconst 1, 1) := by decide +kernel
theorem dX7_digits_151 : decode cX7_digits 151 = .ok (.if_icmp .ne 7, 3) := by decide +kernel
theorem dX7_digits_154 : decode cX7_digits 154 = .ok (.iconst 1, 1) := by decide +kernel
theorem dX7_digits_155 : decode cX7_digits 155 = .ok (.goto 4, 3) := by decide +kernel
theorem dX7_digits_158 : decode cX7_digits 158 = .ok (.iconst 0, 1) := by decide +kernel
theorem dX7_digits_159 : decode cX7_digits 159 = .ok (.iload 5, 2) := by decide +kernel
theorem dX7_digits_161 : decode cX7_digits 161 = .ok (.invokestatic 306, 3) := by decide +kernel
theorem dX7_digits_164 : decode cX7_digits 164 = .ok (.invokevirtual 276, 3) := by decide +kernel
theorem dX7_digits_167 : decode cX7_digits 167 = .ok (.aload_n 0, 1) := by decide +kernel
theorem dX7_digits_168 : decode cX7_digits 168 = .ok (.iload 6, 2) := by decide +kernel
theorem dX7_digits_170 : decode cX7_digits 170 = .ok (.invokevirtual 301, 3) := by decide +kernel
theorem dX7_digits_173 : decode cX7_digits 173 = .ok (.ireturn, 1) := by decide +kernel
theorem dX7_fixed_0 : decode cX7_fixed 0 = .ok (.aload_n 0, 1) := by decide +kernel
theorem dX7_fixed_1 : decode cX7_fixed 1 = .ok (.iload_n 1, 1) := by decide +kernel
theorem dX7_fixed_2 : decode cX7_fixed 2 = .ok (.lload_n 2, 1) := by decide +kernel
theorem dX7_fixed_3 : decode cX7_fixed 3 = .ok (.invokestatic 285, 3) := by decide +kernel
theorem dX7_fixed_6 : decode cX7_fixed 6 = .ok (.ifCond .eq 33, 3) := by decide +kernel
theorem dX7_fixed_9 : decode cX7_fixed 9 = .ok (.iload 4, 2) := by decide +kernel
theorem dX7_fixed_11 : decode cX7_fixed 11 = .ok (.i2l, 1) := by decide +kernel
theorem dX7_fixed_12 : decode cX7_fixed 12 = .ok (.lconst 0, 1) := by decide +kernel
theorem dX7_fixed_13 : decode cX7_fixed 13 = .ok (.ldc2_w 138, 3) := by decide +kernel
theorem dX7_fixed_16 : decode cX7_fixed 16 = .ok (.invokestatic 52, 3) := by decide +kernel
theorem dX7_fixed_19 : decode cX7_fixed 19 = .ok (.ifCond .eq 20, 3) := by decide +kernel
theorem dX7_fixed_22 : decode cX7_fixed 22 = .ok (.iload 5, 2) := by decide +kernel
theorem dX7_fixed_24 : decode cX7_fixed 24 = .ok (.i2l, 1) := by decide +kernel
theorem dX7_fixed_25 : decode cX7_fixed 25 = .ok (.lconst 0, 1) := by decide +kernel
theorem dX7_fixed_26 : decode cX7_fixed 26 = .ok (.ldc2_w 200, 3) := by decide +kernel
theorem dX7_fixed_29 : decode cX7_fixed 29 = .ok (.invokestatic 52, 3) := by decide +kernel
theorem dX7_fixed_32 : decode cX7_fixed 32 = .ok (.ifCond .eq 7, 3) := by decide +kernel
theorem dX7_fixed_35 : decode cX7_fixed 35 = .ok (.iconst 1, 1) := by decide +kernel
theorem dX7_fixed_36 : decode cX7_fixed 36 = .ok (.goto 4, 3) := by decide +kernel
theorem dX7_fixed_39 : decode cX7_fixed 39 = .ok (.iconst 0, 1) := by decide +kernel
theorem dX7_fixed_40 : decode cX7_fixed 40 = .ok (.invokevirtual 150, 3) := by decide +kernel
theorem dX7_fixed_43 : decode cX7_fixed 43 = .ok (.ifCond .eq 5, 3) := by decide +kernel
theorem dX7_fixed_46 : decode cX7_fixed 46 = .ok (.iconst 0, 1) := by decide +kernel
theorem dX7_fixed_47 : decode cX7_fixed 47 = .ok (.ireturn, 1) := by decide +kernel
theorem dX7_fixed_48 : decode cX7_fixed 48 = .ok (.aload_n 0, 1) := by decide +kernel
theorem dX7_fixed_49 : decode cX7_fixed 49 = .ok (.iload_n 1, 1) := by decide +kernel
theorem dX7_fixed_50 : decode cX7_fixed 50 = .ok (.lload_n 2, 1) := by decide +kernel
theorem dX7_fixed_51 : decode cX7_fixed 51 = .ok (.invokevirtual 292, 3) := by decide +kernel
theorem dX7_fixed_54 : decode cX7_fixed 54 = .ok (.ifCond .eq 8, 3) := by decide +kernel
theorem dX7_fixed_57 : decode cX7_fixed 57 = .ok (.aload_n 0, 1) := by decide +kernel
theorem dX7_fixed_58 : decode cX7_fixed 58 = .ok (.getfield 159, 3) := by decide +kernel
theorem dX7_fixed_61 : decode cX7_fixed 61 = .ok (.ireturn, 1) := by decide +kernel
theorem dX7_fixed_62 : decode cX7_fixed 62 = .ok (.iload_n 1, 1) := by decide +kernel
theorem dX7_fixed_63 : decode cX7_fixed 63 = .ok (.lload_n 2, 1) := by decide +kernel
theorem dX7_fixed_64 : decode cX7_fixed 64 = .ok (.invokestatic 60, 3) := by decide +kernel
theorem dX7_fixed_67 : decode cX7_fixed 67 = .ok (.lstore 6, 2) := by decide +kernel
theorem dX7_fixed_69 : decode cX7_fixed 69 = .ok (.lload 6, 2) := by decide +kernel
theorem dX7_fixed_71 : decode cX7_fixed 71 = .ok (.lconst 0, 1) := by decide +kernel
theorem dX7_fixed_72 : decode cX7_fixed 72 = .ok (.lcmp, 1) := by decide +kernel
theorem dX7_fixed_73 : decode cX7_fixed 73 = .ok (.ifCond .ne 17, 3) := by decide +kernel
theorem dX7_fixed_76 : decode cX7_fixed 76 = .ok (.aload_n 0, 1) := by decide +kernel
theorem dX7_fixed_77 : decode cX7_fixed 77 = .ok (.iload 4, 2) := by decide +kernel
theorem dX7_fixed_79 : decode cX7_fixed 79 = .ok (.iconst 1, 1) := by decide +kernel
theorem dX7_fixed_80 : decode cX7_fixed 80 = .ok (.iadd, 1) := by decide +kernel
theorem dX7_fixed_81 : decode cX7_fixed 81 = .ok (.invokevirtual 295, 3) := by decide +kernel
theorem dX7_fixed_84 : decode cX7_fixed 84 = .ok (.aload_n 0, 1) := by decide +kernel
theorem dX7_fixed_85 : decode cX7_fixed 85 = .ok (.iconst 1, 1) := by decide +kernel
theorem dX7_fixed_86 : decode cX7_fixed 86 = .ok (.invokevirtual 301, 3) := by decide +kernel
theorem dX7_fixed_89 : decode cX7_fixed 89 = .ok (.ireturn, 1) := by decide +kernel
theorem dX7_fixed_90 : decode cX7_fixed 90 = .ok (.aload_n 0, 1) := by decide +kernel
theorem dX7_fixed_91 : decode cX7_fixed 91 = .ok (.iload_n 1, 1) := by decide +kernel
theorem dX7_fixed_92 : decode cX7_fixed 92 = .ok (.lload 6, 2) := by decide +kernel
theorem dX7_fixed_94 : decode cX7_fixed 94 = .ok (.invokevirtual 269, 3) := by decide +kernel
theorem dX7_fixed_97 : decode cX7_fixed 97 = .ok (.aload_n 0, 1) := by decide +kernel
theorem dX7_fixed_98 : decode cX7_fixed 98 = .ok (.invokevirtual 273, 3) := by decide +kernel
theorem dX7_fixed_101 : decode cX7_fixed 101 = .ok (.aload_n 0, 1) := by decide +kernel
theorem dX7_fixed_102 : decode cX7_fixed 102 = .ok (.getfield 227, 3) := by decide +kernel
theorem dX7_fixed_105 : decode cX7_fixed 105 = .ok (.iload 4, 2) := by decide +kernel
theorem dX7_fixed_107 : decode cX7_fixed 107 = .ok (.iadd, 1) := by decide +kernel
theorem dX7_fixed_108 : decode cX7_fixed 108 = .ok (.istore 8, 2) := by decide +kernel
theorem dX7_fixed_110 : decode cX7_fixed 110 = .ok (.iload 8, 2) := by decide +kernel
theorem dX7_fixed_112 : decode cX7_fixed 112 = .ok (.ifCond .le 108, 3) := by decide +kernel
theorem dX7_fixed_115 : decode cX7_fixed 115 = .ok (.iload 8, 2) := by decide +kernel
theorem dX7_fixed_117 : decode cX7_fixed 117 = .ok (.aload_n 0, 1) := by decide +kernel
theorem dX7_fixed_118 : decode cX7_fixed 118 = .ok (.getfield 230, 3) := by decide +kernel
theorem dX7_fixed_121 : decode cX7_fixed 121 = .ok (.if_icmp .gt 22, 3) := by decide +kernel
theorem dX7_fixed_124 : decode cX7_fixed 124 = .ok (.aload_n 0, 1) := by decide +kernel
theorem dX7_fixed_125 : decode cX7_fixed 125 = .ok (.getfield 28, 3) := by decide +kernel
theorem dX7_fixed_128 : decode cX7_fixed 128 = .ok (.iload 8, 2) := by decide +kernel
theorem dX7_fixed_130 : decode cX7_fixed 130 = .ok (.iconst 1, 1) := by decide +kernel
theorem dX7_fixed_131 : decode cX7_fixed 131 = .ok (.isub, 1) := by decide +kernel
theorem dX7_fixed_132 : decode cX7_fixed 132 = .ok (.iaload, 1) := by decide +kernel
theorem dX7_fixed_133 : decode cX7_fixed 133 = .ok (.iconst 2, 1) := by decide +kernel
theorem dX7_fixed_134 : decode cX7_fixed 134 = .ok (.irem, 1) := by decide +kernel
theorem dX7_fixed_135 : decode cX7_fixed 135 = .ok (.iconst 1, 1) := by decide +kernel
theorem dX7_fixed_136 : decode cX7_fixed 136 = .ok (.if_icmp .ne 7, 3) := by decide +kernel
theorem dX7_fixed_139 : decode cX7_fixed 139 = .ok (.iconst 1, 1) := by decide +kernel
theorem dX7_fixed_140 : decode cX7_fixed 140 = .ok (.goto 4, 3) := by decide +kernel
theorem dX7_fixed_143 : decode cX7_fixed 143 = .ok (.iconst 0, 1) := by decide +kernel
theorem dX7_fixed_144 : decode cX7_fixed 144 = .ok (.istore 9, 2) := by decide +kernel
theorem dX7_fixed_146 : decode cX7_fixed 146 = .ok (.aload_n 0, 1) := by decide +kernel
theorem dX7_fixed_147 : decode cX7_fixed 147 = .ok (.iload 8, 2) := by decide +kernel
theorem dX7_fixed_149 : decode cX7_fixed 149 = .ok (.invokevirtual 282, 3) := by decide +kernel
theorem dX7_fixed_152 : decode cX7_fixed 152 = .ok (.iload 9, 2) := by decide +kernel
theorem dX7_fixed_154 : decode cX7_fixed 154 = .ok (.aload_n 0, 1) := by decide +kernel
theorem dX7_fixed_155 : decode cX7_fixed 155 = .ok (.getfield 243, 3) := by decide +kernel
theorem dX7_fixed_158 : decode cX7_fixed 158 = .ok (.iconst 1, 1) := by decide +kernel
theorem dX7_fixed_159 : decode cX7_fixed 159 = .ok (.if_icmp .ne 7, 3) := by decide +kernel
theorem dX7_fixed_162 : decode cX7_fixed 162 = .ok (.iconst 1, 1) := by decide +kernel
theorem dX7_fixed_163 : decode cX7_fixed 163 = .ok (.goto 4, 3) := by decide +kernel
theorem dX7_fixed_166 : decode cX7_fixed 166 = .ok (.iconst 0, 1) := by decide +kernel
theorem dX7_fixed_167 : decode cX7_fixed 167 = .ok (.iload 5, 2) := by decide +kernel
theorem dX7_fixed_169 : decode cX7_fixed 169 = .ok (.invokestatic 306, 3) := by decide +kernel
theorem dX7_fixed_172 : decode cX7_fixed 172 = .ok (.istore 10, 2) := by decide +kernel
theorem dX7_fixed_174 : decode cX7_fixed 174 = .ok (.aload_n 0, 1) := by decide +kernel
theorem dX7_fixed_175 : decode cX7_fixed 175 = .ok (.getfield 227, 3) := by decide +kernel
theorem dX7_fixed_178 : decode cX7_fixed 178 = .ok (.istore 11, 2) := by decide +kernel
theorem dX7_fixed_180 : decode cX7_fixed 180 = .ok (.aload_n 0, 1) := by decide +kernel
theorem dX7_fixed_181 : decode cX7_fixed 181 = .ok (.iload 8, 2) := by decide +kernel
theorem dX7_fixed_183 : decode cX7_fixed 183 = .ok (.iload 10, 2) := by decide +kernel
theorem dX7_fixed_185 : decode cX7_fixed 185 = .ok (.invokevirtual 276, 3) := by decide +kernel
theorem dX7_fixed_188 : decode cX7_fixed 188 = .ok (.aload_n 0, 1) := by decide +kernel
theorem dX7_fixed_189 : decode cX7_fixed 189 = .ok (.getfield 236, 3) := by decide +kernel
theorem dX7_fixed_192 : decode cX7_fixed 192 = .ok (.iload 11, 2) := by decide +kernel
theorem dX7_fixed_194 : decode cX7_fixed 194 = .ok (.if_icmp .le 23, 3) := by decide +kernel
theorem dX7_fixed_197 : decode cX7_fixed 197 = .ok (.aload_n 0, 1) := by decide +kernel
theorem dX7_fixed_198 : decode cX7_fixed 198 = .ok (.getfield 16, 3) := by decide +kernel
theorem dX7_fixed_201 : decode cX7_fixed 201 = .ok (.aload_n 0, 1) := by decide +kernel
theorem dX7_fixed_202 : decode cX7_fixed 202 = .ok (.getfield 233, 3) := by decide +kernel
theorem dX7_fixed_205 : decode cX7_fixed 205 = .ok (.iconst 0, 1) := by decide +kernel
theorem dX7_fixed_206 : decode cX7_fixed 206 = .ok (.iastore, 1) := by decide +kernel
theorem dX7_fixed_207 : decode cX7_fixed 207 = .ok (.aload_n 0, 1) := by decide +kernel
theorem dX7_fixed_208 : decode cX7_fixed 208 = .ok (.dup, 1) := by decide +kernel
theorem dX7_fixed_209 : decode cX7_fixed 209 = .ok (.getfield 233, 3) := by decide +kernel
theorem dX7_fixed_212 : decode cX7_fixed 212 = .ok (.iconst 1, 1) := by decide +kernel
theorem dX7_fixed_213 : decode cX7_fixed 213 = .ok (.iadd, 1) := by decide +kernel
theorem dX7_fixed_214 : decode cX7_fixed 214 = .ok (.putfield 233, 3) := by decide +kernel
theorem dX7_fixed_217 : decode cX7_fixed 217 = .ok (.goto 74, 3) := by decide +kernel
theorem dX7_fixed_220 : decode cX7_fixed 220 = .ok (.iload 8, 2) := by decide +kernel
theorem dX7_fixed_222 : decode cX7_fixed 222 = .ok (.ifCond .ge 7, 3) := by decide +kernel
theorem dX7_fixed_225 : decode cX7_fixed 225 = .ok (.iconst (-1), 1) := by decide +kernel
theorem dX7_fixed_226 : decode cX7_fixed 226 = .ok (.goto 8, 3) := by decide +kernel
theorem dX7_fixed_229 : decode cX7_fixed 229 = .ok (.aload_n 0, 1) := by decide +kernel
theorem dX7_fixed_230 : decode cX7_fixed 230 = .ok (.iconst 0, 1) := by decide +kernel
theorem dX7_fixed_231 : decode cX7_fixed 231 = .ok (.invokevirtual 282, 3) := by decide +kernel
theorem dX7_fixed_234 : decode cX7_fixed 234 = .ok (.istore 9, 2) := by decide +kernel
theorem dX7_fixed_236 : decode cX7_fixed 236 = .ok (.iload 9, 2) := by decide +kernel
theorem dX7_fixed_238 : decode cX7_fixed 238 = .ok (.iconst 0, 1) := by decide +kernel
theorem dX7_fixed_239 : decode cX7_fixed 239 = .ok (.aload_n 0, 1) := by decide +kernel
theorem dX7_fixed_240 : decode cX7_fixed 240 = .ok (.getfield 243, 3) := by decide +kernel
theorem dX7_fixed_243 : decode cX7_fixed 243 = .ok (.iconst 1, 1) := by decide +kernel
theorem dX7_fixed_244 : decode cX7_fixed 244 = .ok (.if_icmp .ne 7, 3) := by decide +kernel
theorem dX7_fixed_247 : decode cX7_fixed 247 = .ok (.iconst 1, 1) := by decide +kernel
theorem dX7_fixed_248 : decode cX7_fixed 248 = .ok (.goto 4, 3) := by decide +kernel
theorem dX7_fixed_251 : decode cX7_fixed 251 = .ok (.iconst 0, 1) := by decide +kernel
theorem dX7_fixed_252 : decode cX7_fixed 252 = .ok (.iload 5, 2) := by decide +kernel
theorem dX7_fixed_254 : decode cX7_fixed 254 = .ok (.invokestatic 306, 3) := by decide +kernel
theorem dX7_fixed_257 : decode cX7_fixed 257 = .ok (.ifCond .eq 26, 3) := by decide +kernel
theorem dX7_fixed_260 : decode cX7_fixed 260 = .ok (.aload_n 0, 1) := by decide +kernel
theorem dX7_fixed_261 : decode cX7_fixed 261 = .ok (.iconst 1, 1) := by decide +kernel
theorem dX7_fixed_262 : decode cX7_fixed 262 = .ok (.putfield 233, 3) := by decide +kernel
theorem dX7_fixed_265 : decode cX7_fixed 265 = .ok (.aload_n 0, 1) := by decide +kernel
theorem dX7_fixed_266 : decode cX7_fixed 266 = .ok (.getfield 16, 3) := by decide +kernel
theorem dX7_fixed_269 : decode cX7_fixed 269 = .ok (.iconst 0, 1) := by decide +kernel
theorem dX7_fixed_270 : decode cX7_fixed 270 = .ok (.iconst 1, 1) := by decide +kernel
theorem dX7_fixed_271 : decode cX7_fixed 271 = .ok (.iastore, 1) := by decide +kernel
theorem dX7_fixed_272 : decode cX7_fixed 272 = .ok (.aload_n 0, 1) := by decide +kernel
theorem dX7_fixed_273 : decode cX7_fixed 273 = .ok (.iconst 1, 1) := by decide +kernel
theorem dX7_fixed_274 : decode cX7_fixed 274 = .ok (.iload 4, 2) := by decide +kernel
theorem dX7_fixed_276 : decode cX7_fixed 276 = .ok (.isub, 1) := by decide +kernel
theorem dX7_fixed_277 : decode cX7_fixed 277 = .ok (.putfield 236, 3) := by decide +kernel
theorem dX7_fixed_280 : decode cX7_fixed 280 = .ok (.goto 11, 3) := by decide +kernel
theorem dX7_fixed_283 : decode cX7_fixed 283 = .ok (.aload_n 0, 1) := by decide +kernel
theorem dX7_fixed_284 : decode cX7_fixed 284 = .ok (.iload 4, 2) := by decide +kernel
theorem dX7_fixed_286 : decode cX7_fixed 286 = .ok (.iconst 1, 1) := by decide +kernel
theorem dX7_fixed_287 : decode cX7_fixed 287 = .ok (.iadd, 1) := by decide +kernel
theorem dX7_fixed_288 : decode cX7_fixed 288 = .ok (.invokevirtual 295, 3) := by decide +kernel
theorem dX7_fixed_291 : decode cX7_fixed 291 = .ok (.aload_n 0, 1) := by decide +kernel
theorem dX7_fixed_292 : decode cX7_fixed 292 = .ok (.iconst 1, 1) := by decide +kernel
theorem dX7_fixed_293 : decode cX7_fixed 293 = .ok (.invokevirtual 301, 3) := by decide +kernel
theorem dX7_fixed_296 : decode cX7_fixed 296 = .ok (.ireturn, 1) := by decide +kernel
theorem dX7_hex_0 : decode cX7_hex 0 = .ok (.aload_n 0, 1) := by decide +kernel
theorem dX7_hex_1 : decode cX7_hex 1 = .ok (.iload_n 1, 1) := by decide +kernel
theorem dX7_hex_2 : decode cX7_hex 2 = .ok (.lload_n 2, 1) := by decide +kernel
theorem dX7_hex_3 : decode cX7_hex 3 = .ok (.invokestatic 285, 3) := by decide +kernel
theorem dX7_hex_6 : decode cX7_hex 6 = .ok (.invokevirtual 150, 3) := by decide +kernel
theorem dX7_hex_9 : decode cX7_hex 9 = .ok (.ifCond .eq 5, 3) := by decide +kernel
theorem dX7_hex_12 : decode cX7_hex 12 = .ok (.iconst 0, 1) := by decide +kernel
theorem dX7_hex_13 : decode cX7_hex 13 = .ok (.ireturn, 1) := by decide +kernel
theorem dX7_hex_14 : decode cX7_hex 14 = .ok (.aload_n 0, 1) := by decide +kernel
theorem dX7_hex_15 : decode cX7_hex 15 = .ok (.iload_n 1, 1) := by decide +kernel
theorem dX7_hex_16 : decode cX7_hex 16 = .ok (.lload_n 2, 1) := by decide +kernel
theorem dX7_hex_17 : decode cX7_hex 17 = .ok (.invokevirtual 292, 3) := by decide +kernel
theorem dX7_hex_20 : decode cX7_hex 20 = .ok (.ifCond .ne 57, 3) := by decide +kernel
theorem dX7_hex_23 : decode cX7_hex 23 = .ok (.aload_n 0, 1) := by decide +kernel
theorem dX7_hex_24 : decode cX7_hex 24 = .ok (.iconst 0, 1) := by decide +kernel
theorem dX7_hex_25 : decode cX7_hex 25 = .ok (.putfield 159, 3) := by decide +kernel
theorem dX7_hex_28 : decode cX7_hex 28 = .ok (.aload_n 0, 1) := by decide +kernel
theorem dX7_hex_29 : decode cX7_hex 29 = .ok (.getfield 243, 3) := by decide +kernel
theorem dX7_hex_32 : decode cX7_hex 32 = .ok (.iconst 1, 1) := by decide +kernel
theorem dX7_hex_33 : decode cX7_hex 33 = .ok (.if_icmp .ne 9, 3) := by decide +kernel
theorem dX7_hex_36 : decode cX7_hex 36 = .ok (.aload_n 0, 1) := by decide +kernel
theorem dX7_hex_37 : decode cX7_hex 37 = .ok (.bipush 45, 2) := by decide +kernel
theorem dX7_hex_39 : decode cX7_hex 39 = .ok (.invokevirtual 239, 3) := by decide +kernel
theorem dX7_hex_42 : decode cX7_hex 42 = .ok (.iload_n 1, 1) := by decide +kernel
theorem dX7_hex_43 : decode cX7_hex 43 = .ok (.lload_n 2, 1) := by decide +kernel
theorem dX7_hex_44 : decode cX7_hex 44 = .ok (.invokestatic 60, 3) := by decide +kernel
theorem dX7_hex_47 : decode cX7_hex 47 = .ok (.lstore 4, 2) := by decide +kernel
theorem dX7_hex_49 : decode cX7_hex 49 = .ok (.lload 4, 2) := by decide +kernel
theorem dX7_hex_51 : decode cX7_hex 51 = .ok (.lconst 0, 1) := by decide +kernel
theorem dX7_hex_52 : decode cX7_hex 52 = .ok (.lcmp, 1) := by decide +kernel
theorem dX7_hex_53 : decode cX7_hex 53 = .ok (.ifCond .ne 13, 3) := by decide +kernel
theorem dX7_hex_56 : decode cX7_hex 56 = .ok (.aload_n 0, 1) := by decide +kernel
theorem dX7_hex_57 : decode cX7_hex 57 = .ok (.ldc_w 310, 3) := by decide +kernel
theorem dX7_hex_60 : decode cX7_hex 60 = .ok (.invokevirtual 255, 3) := by decide +kernel
theorem dX7_hex_63 : decode cX7_hex 63 = .ok (.goto 14, 3) := by decide +kernel
theorem dX7_hex_66 : decode cX7_hex 66 = .ok (.aload_n 0, 1) := by decide +kernel
theorem dX7_hex_67 : decode cX7_hex 67 = .ok (.iload_n 1, 1) := by decide +kernel
theorem dX7_hex_68 : decode cX7_hex 68 = .ok (.lload 4, 2) := by decide +kernel
theorem dX7_hex_70 : decode cX7_hex 70 = .ok (.invokevirtual 269, 3) := by decide +kernel
theorem dX7_hex_73 : decode cX7_hex 73 = .ok (.aload_n 0, 1) := by decide +kernel
theorem dX7_hex_74 : decode cX7_hex 74 = .ok (.invokevirtual 312, 3) := by decide +kernel
theorem dX7_hex_77 : decode cX7_hex 77 = .ok (.aload_n 0, 1) := by decide +kernel
theorem dX7_hex_78 : decode cX7_hex 78 = .ok (.iconst 0, 1) := by decide +kernel
theorem dX7_hex_79 : decode cX7_hex 79 = .ok (.putfield 233, 3) := by decide +kernel
theorem dX7_hex_82 : decode cX7_hex 82 = .ok (.aload_n 0, 1) := by decide +kernel
theorem dX7_hex_83 : decode cX7_hex 83 = .ok (.iconst 0, 1) := by decide +kernel
theorem dX7_hex_84 : decode cX7_hex 84 = .ok (.putfield 236, 3) := by decide +kernel
theorem dX7_hex_87 : decode cX7_hex 87 = .ok (.aload_n 0, 1) := by decide +kernel
theorem dX7_hex_88 : decode cX7_hex 88 = .ok (.getfield 159, 3) := by decide +kernel
theorem dX7_hex_91 : decode cX7_hex 91 = .ok (.ireturn, 1) := by decide +kernel
theorem dX7_putHex_0 : decode cX7_putHex 0 = .ok (.aload_n 0, 1) := by decide +kernel
theorem dX7_putHex_1 : decode cX7_putHex 1 = .ok (.getfield 67, 3) := by decide +kernel
theorem dX7_putHex_4 : decode cX7_putHex 4 = .ok (.lstore_n 1, 1) := by decide +kernel
theorem dX7_putHex_5 : decode cX7_putHex 5 = .ok (.aload_n 0, 1) := by decide +kernel
theorem dX7_putHex_6 : decode cX7_putHex 6 = .ok (.getfield 74, 3) := by decide +kernel
theorem dX7_putHex_9 : decode cX7_putHex 9 = .ok (.bipush 63, 2) := by decide +kernel
theorem dX7_putHex_11 : decode cX7_putHex 11 = .ok (.iadd, 1) := by decide +kernel
theorem dX7_putHex_12 : decode cX7_putHex 12 = .ok (.istore_n 3, 1) := by decide +kernel
theorem dX7_putHex_13 : decode cX7_putHex 13 = .ok (.lload_n 1, 1) := by decide +kernel
theorem dX7_putHex_14 : decode cX7_putHex 14 = .ok (.lconst 0, 1) := by decide +kernel
theorem dX7_putHex_15 : decode cX7_putHex 15 = .ok (.lcmp, 1) := by decide +kernel
theorem dX7_putHex_16 : decode cX7_putHex 16 = .ok (.ifCond .le 13, 3) := by decide +kernel
theorem dX7_putHex_19 : decode cX7_putHex 19 = .ok (.lload_n 1, 1) := by decide +kernel
theorem dX7_putHex_20 : decode cX7_putHex 20 = .ok (.iconst 1, 1) := by decide +kernel
theorem dX7_putHex_21 : decode cX7_putHex 21 = .ok (.lshl, 1) := by decide +kernel
theorem dX7_putHex_22 : decode cX7_putHex 22 = .ok (.lstore_n 1, 1) := by decide +kernel
theorem dX7_putHex_23 : decode cX7_putHex 23 = .ok (.iinc 3 (-1), 3) := by decide +kernel
theorem dX7_putHex_26 : decode cX7_putHex 26 = .ok (.goto (-13), 3) := by decide +kernel
theorem dX7_putHex_29 : decode cX7_putHex 29 = .ok (.aload_n 0, 1) := by decide +kernel
theorem dX7_putHex_30 : decode cX7_putHex 30 = .ok (.ldc_w 315, 3) := by decide +kernel
theorem dX7_putHex_33 : decode cX7_putHex 33 = .ok (.invokevirtual 255, 3) := by decide +kernel
theorem dX7_putHex_36 : decode cX7_putHex 36 = .ok (.lload_n 1, 1) := by decide +kernel
theorem dX7_putHex_37 : decode cX7_putHex 37 = .ok (.iconst 1, 1) := by decide +kernel
theorem dX7_putHex_38 : decode cX7_putHex 38 = .ok (.lshl, 1) := by decide +kernel
theorem dX7_putHex_39 : decode cX7_putHex 39 = .ok (.lstore_n 1, 1) := by decide +kernel
theorem dX7_putHex_40 : decode cX7_putHex 40 = .ok (.iconst 1, 1) := by decide +kernel
theorem dX7_putHex_41 : decode cX7_putHex 41 = .ok (.istore 4, 2) := by decide +kernel
theorem dX7_putHex_43 : decode cX7_putHex 43 = .ok (.lload_n 1, 1) := by decide +kernel
theorem dX7_putHex_44 : decode cX7_putHex 44 = .ok (.lconst 0, 1) := by decide +kernel
theorem dX7_putHex_45 : decode cX7_putHex 45 = .ok (.lcmp, 1) := by decide +kernel
theorem dX7_putHex_46 : decode cX7_putHex 46 = .ok (.ifCond .eq 58, 3) := by decide +kernel
theorem dX7_putHex_49 : decode cX7_putHex 49 = .ok (.iload 4, 2) := by decide +kernel
theorem dX7_putHex_51 : decode cX7_putHex 51 = .ok (.ifCond .eq 9, 3) := by decide +kernel
theorem dX7_putHex_54 : decode cX7_putHex 54 = .ok (.aload_n 0, 1) := by decide +kernel
theorem dX7_putHex_55 : decode cX7_putHex 55 = .ok (.bipush 46, 2) := by decide +kernel
theorem dX7_putHex_57 : decode cX7_putHex 57 = .ok (.invokevirtual 239, 3) := by decide +kernel
theorem dX7_putHex_60 : decode cX7_putHex 60 = .ok (.iconst 0, 1) := by decide +kernel
theorem dX7_putHex_61 : decode cX7_putHex 61 = .ok (.istore 4, 2) := by decide +kernel
theorem dX7_putHex_63 : decode cX7_putHex 63 = .ok (.lload_n 1, 1) := by decide +kernel
theorem dX7_putHex_64 : decode cX7_putHex 64 = .ok (.bipush 60, 2) := by decide +kernel
theorem dX7_putHex_66 : decode cX7_putHex 66 = .ok (.lushr, 1) := by decide +kernel
theorem dX7_putHex_67 : decode cX7_putHex 67 = .ok (.l2i, 1) := by decide +kernel
theorem dX7_putHex_68 : decode cX7_putHex 68 = .ok (.istore 5, 2) := by decide +kernel
theorem dX7_putHex_70 : decode cX7_putHex 70 = .ok (.aload_n 0, 1) := by decide +kernel
theorem dX7_putHex_71 : decode cX7_putHex 71 = .ok (.iload 5, 2) := by decide +kernel
theorem dX7_putHex_73 : decode cX7_putHex 73 = .ok (.bipush 10, 2) := by decide +kernel
theorem dX7_putHex_75 : decode cX7_putHex 75 = .ok (.if_icmp .ge 11, 3) := by decide +kernel
theorem dX7_putHex_78 : decode cX7_putHex 78 = .ok (.bipush 48, 2) := by decide +kernel
theorem dX7_putHex_80 : decode cX7_putHex 80 = .ok (.iload 5, 2) := by decide +kernel
theorem dX7_putHex_82 : decode cX7_putHex 82 = .ok (.iadd, 1) := by decide +kernel
theorem dX7_putHex_83 : decode cX7_putHex 83 = .ok (.goto 11, 3) := by decide +kernel
theorem dX7_putHex_86 : decode cX7_putHex 86 = .ok (.bipush 97, 2) := by decide +kernel
theorem dX7_putHex_88 : decode cX7_putHex 88 = .ok (.iload 5, 2) := by decide +kernel
theorem dX7_putHex_90 : decode cX7_putHex 90 = .ok (.iadd, 1) := by decide +kernel
theorem dX7_putHex_91 : decode cX7_putHex 91 = .ok (.bipush 10, 2) := by decide +kernel
theorem dX7_putHex_93 : decode cX7_putHex 93 = .ok (.isub, 1) := by decide +kernel
theorem dX7_putHex_94 : decode cX7_putHex 94 = .ok (.invokevirtual 239, 3) := by decide +kernel
theorem dX7_putHex_97 : decode cX7_putHex 97 = .ok (.lload_n 1, 1) := by decide +kernel
theorem dX7_putHex_98 : decode cX7_putHex 98 = .ok (.iconst 4, 1) := by decide +kernel
theorem dX7_putHex_99 : decode cX7_putHex 99 = .ok (.lshl, 1) := by decide +kernel
theorem dX7_putHex_100 : decode cX7_putHex 100 = .ok (.lstore_n 1, 1) := by decide +kernel
theorem dX7_putHex_101 : decode cX7_putHex 101 = .ok (.goto (-58), 3) := by decide +kernel
theorem dX7_putHex_104 : decode cX7_putHex 104 = .ok (.aload_n 0, 1) := by decide +kernel
theorem dX7_putHex_105 : decode cX7_putHex 105 = .ok (.bipush 112, 2) := by decide +kernel
theorem dX7_putHex_107 : decode cX7_putHex 107 = .ok (.invokevirtual 239, 3) := by decide +kernel
theorem dX7_putHex_110 : decode cX7_putHex 110 = .ok (.aload_n 0, 1) := by decide +kernel
theorem dX7_putHex_111 : decode cX7_putHex 111 = .ok (.iload_n 3, 1) := by decide +kernel
theorem dX7_putHex_112 : decode cX7_putHex 112 = .ok (.invokevirtual 250, 3) := by decide +kernel
theorem dX7_putHex_115 : decode cX7_putHex 115 = .ok (.return_, 1) := by decide +kernel
theorem dX7_out_0 : decode cX7_out 0 = .ok (.aload_n 0, 1) := by decide +kernel
theorem dX7_out_1 : decode cX7_out 1 = .ok (.iload_n 1, 1) := by decide +kernel
theorem dX7_out_2 : decode cX7_out 2 = .ok (.i2l, 1) := by decide +kernel
theorem dX7_out_3 : decode cX7_out 3 = .ok (.lconst 0, 1) := by decide +kernel
theorem dX7_out_4 : decode cX7_out 4 = .ok (.aload_n 0, 1) := by decide +kernel
theorem dX7_out_5 : decode cX7_out 5 = .ok (.getfield 159, 3) := by decide +kernel
theorem dX7_out_8 : decode cX7_out 8 = .ok (.iconst 1, 1) := by decide +kernel
theorem dX7_out_9 : decode cX7_out 9 = .ok (.isub, 1) := by decide +kernel
theorem dX7_out_10 : decode cX7_out 10 = .ok (.i2l, 1) := by decide +kernel
theorem dX7_out_11 : decode cX7_out 11 = .ok (.invokestatic 52, 3) := by decide +kernel
theorem dX7_out_14 : decode cX7_out 14 = .ok (.invokevirtual 150, 3) := by decide +kernel
theorem dX7_out_17 : decode cX7_out 17 = .ok (.ifCond .eq 7, 3) := by decide +kernel
theorem dX7_out_20 : decode cX7_out 20 = .ok (.iconst 0, 1) := by decide +kernel
theorem dX7_out_21 : decode cX7_out 21 = .ok (.goto 9, 3) := by decide +kernel
theorem dX7_out_24 : decode cX7_out 24 = .ok (.aload_n 0, 1) := by decide +kernel
theorem dX7_out_25 : decode cX7_out 25 = .ok (.getfield 13, 3) := by decide +kernel
theorem dX7_out_28 : decode cX7_out 28 = .ok (.iload_n 1, 1) := by decide +kernel
theorem dX7_out_29 : decode cX7_out 29 = .ok (.iaload, 1) := by decide +kernel
theorem dX7_out_30 : decode cX7_out 30 = .ok (.ireturn, 1) := by decide +kernel
theorem dX7_decimal_0 : decode cX7_decimal 0 = .ok (.aload_n 0, 1) := by decide +kernel
theorem dX7_decimal_1 : decode cX7_decimal 1 = .ok (.iload_n 1, 1) := by decide +kernel
theorem dX7_decimal_2 : decode cX7_decimal 2 = .ok (.i2l, 1) := by decide +kernel
theorem dX7_decimal_3 : decode cX7_decimal 3 = .ok (.lconst 0, 1) := by decide +kernel
theorem dX7_decimal_4 : decode cX7_decimal 4 = .ok (.ldc2_w 45, 3) := by decide +kernel
theorem dX7_decimal_7 : decode cX7_decimal 7 = .ok (.invokestatic 52, 3) := by decide +kernel
theorem dX7_decimal_10 : decode cX7_decimal 10 = .ok (.invokevirtual 150, 3) := by decide +kernel
theorem dX7_decimal_13 : decode cX7_decimal 13 = .ok (.ifCond .eq 5, 3) := by decide +kernel
theorem dX7_decimal_16 : decode cX7_decimal 16 = .ok (.iconst 0, 1) := by decide +kernel
theorem dX7_decimal_17 : decode cX7_decimal 17 = .ok (.ireturn, 1) := by decide +kernel
theorem dX7_decimal_18 : decode cX7_decimal 18 = .ok (.iload_n 1, 1) := by decide +kernel
theorem dX7_decimal_19 : decode cX7_decimal 19 = .ok (.ifCond .ne 10, 3) := by decide +kernel
theorem dX7_decimal_22 : decode cX7_decimal 22 = .ok (.aload_n 0, 1) := by decide +kernel
theorem dX7_decimal_23 : decode cX7_decimal 23 = .ok (.getfield 233, 3) := by decide +kernel
theorem dX7_decimal_26 : decode cX7_decimal 26 = .ok (.goto 19, 3) := by decide +kernel
theorem dX7_decimal_29 : decode cX7_decimal 29 = .ok (.iload_n 1, 1) := by decide +kernel
theorem dX7_decimal_30 : decode cX7_decimal 30 = .ok (.iconst 1, 1) := by decide +kernel
theorem dX7_decimal_31 : decode cX7_decimal 31 = .ok (.if_icmp .ne 10, 3) := by decide +kernel
theorem dX7_decimal_34 : decode cX7_decimal 34 = .ok (.aload_n 0, 1) := by decide +kernel
theorem dX7_decimal_35 : decode cX7_decimal 35 = .ok (.getfield 236, 3) := by decide +kernel
theorem dX7_decimal_38 : decode cX7_decimal 38 = .ok (.goto 7, 3) := by decide +kernel
theorem dX7_decimal_41 : decode cX7_decimal 41 = .ok (.aload_n 0, 1) := by decide +kernel
theorem dX7_decimal_42 : decode cX7_decimal 42 = .ok (.getfield 243, 3) := by decide +kernel
theorem dX7_decimal_45 : decode cX7_decimal 45 = .ok (.ireturn, 1) := by decide +kernel
theorem dX7_digit_0 : decode cX7_digit 0 = .ok (.aload_n 0, 1) := by decide +kernel
theorem dX7_digit_1 : decode cX7_digit 1 = .ok (.iload_n 1, 1) := by decide +kernel
theorem dX7_digit_2 : decode cX7_digit 2 = .ok (.i2l, 1) := by decide +kernel
theorem dX7_digit_3 : decode cX7_digit 3 = .ok (.lconst 0, 1) := by decide +kernel
theorem dX7_digit_4 : decode cX7_digit 4 = .ok (.aload_n 0, 1) := by decide +kernel
theorem dX7_digit_5 : decode cX7_digit 5 = .ok (.getfield 233, 3) := by decide +kernel
theorem dX7_digit_8 : decode cX7_digit 8 = .ok (.iconst 1, 1) := by decide +kernel
theorem dX7_digit_9 : decode cX7_digit 9 = .ok (.isub, 1) := by decide +kernel
theorem dX7_digit_10 : decode cX7_digit 10 = .ok (.i2l, 1) := by decide +kernel
theorem dX7_digit_11 : decode cX7_digit 11 = .ok (.invokestatic 52, 3) := by decide +kernel
theorem dX7_digit_14 : decode cX7_digit 14 = .ok (.invokevirtual 150, 3) := by decide +kernel
theorem dX7_digit_17 : decode cX7_digit 17 = .ok (.ifCond .eq 7, 3) := by decide +kernel
theorem dX7_digit_20 : decode cX7_digit 20 = .ok (.iconst 0, 1) := by decide +kernel
theorem dX7_digit_21 : decode cX7_digit 21 = .ok (.goto 9, 3) := by decide +kernel
theorem dX7_digit_24 : decode cX7_digit 24 = .ok (.aload_n 0, 1) := by decide +kernel
theorem dX7_digit_25 : decode cX7_digit 25 = .ok (.getfield 16, 3) := by decide +kernel
theorem dX7_digit_28 : decode cX7_digit 28 = .ok (.iload_n 1, 1) := by decide +kernel
theorem dX7_digit_29 : decode cX7_digit 29 = .ok (.iaload, 1) := by decide +kernel
theorem dX7_digit_30 : decode cX7_digit 30 = .ok (.ireturn, 1) := by decide +kernel
theorem dX7_roundTens_0 : decode cX7_roundTens 0 = .ok (.lload_n 2, 1) := by decide +kernel
theorem dX7_roundTens_1 : decode cX7_roundTens 1 = .ok (.lconst 0, 1) := by decide +kernel
theorem dX7_roundTens_2 : decode cX7_roundTens 2 = .ok (.lcmp, 1) := by decide +kernel
theorem dX7_roundTens_3 : decode cX7_roundTens 3 = .ok (.ifCond .ge 8, 3) := by decide +kernel
theorem dX7_roundTens_6 : decode cX7_roundTens 6 = .ok (.lload_n 2, 1) := by decide +kernel
theorem dX7_roundTens_7 : decode cX7_roundTens 7 = .ok (.lneg, 1) := by decide +kernel
theorem dX7_roundTens_8 : decode cX7_roundTens 8 = .ok (.goto 4, 3) := by decide +kernel
theorem dX7_roundTens_11 : decode cX7_roundTens 11 = .ok (.lload_n 2, 1) := by decide +kernel
theorem dX7_roundTens_12 : decode cX7_roundTens 12 = .ok (.lstore 6, 2) := by decide +kernel
theorem dX7_roundTens_14 : decode cX7_roundTens 14 = .ok (.aload_n 0, 1) := by decide +kernel
theorem dX7_roundTens_15 : decode cX7_roundTens 15 = .ok (.bipush 20, 2) := by decide +kernel
theorem dX7_roundTens_17 : decode cX7_roundTens 17 = .ok (.putfield 125, 3) := by decide +kernel
theorem dX7_roundTens_20 : decode cX7_roundTens 20 = .ok (.bipush 19, 2) := by decide +kernel
theorem dX7_roundTens_22 : decode cX7_roundTens 22 = .ok (.istore 8, 2) := by decide +kernel
theorem dX7_roundTens_24 : decode cX7_roundTens 24 = .ok (.iload 8, 2) := by decide +kernel
theorem dX7_roundTens_26 : decode cX7_roundTens 26 = .ok (.ifCond .lt 35, 3) := by decide +kernel
theorem dX7_roundTens_29 : decode cX7_roundTens 29 = .ok (.aload_n 0, 1) := by decide +kernel
theorem dX7_roundTens_30 : decode cX7_roundTens 30 = .ok (.getfield 31, 3) := by decide +kernel
theorem dX7_roundTens_33 : decode cX7_roundTens 33 = .ok (.iload 8, 2) := by decide +kernel
theorem dX7_roundTens_35 : decode cX7_roundTens 35 = .ok (.lload 6, 2) := by decide +kernel
theorem dX7_roundTens_37 : decode cX7_roundTens 37 = .ok (.ldc2_w 225, 3) := by decide +kernel
theorem dX7_roundTens_40 : decode cX7_roundTens 40 = .ok (.invokestatic 317, 3) := by decide +kernel
theorem dX7_roundTens_43 : decode cX7_roundTens 43 = .ok (.l2i, 1) := by decide +kernel
theorem dX7_roundTens_44 : decode cX7_roundTens 44 = .ok (.iastore, 1) := by decide +kernel
theorem dX7_roundTens_45 : decode cX7_roundTens 45 = .ok (.lload 6, 2) := by decide +kernel
theorem dX7_roundTens_47 : decode cX7_roundTens 47 = .ok (.ldc2_w 225, 3) := by decide +kernel
theorem dX7_roundTens_50 : decode cX7_roundTens 50 = .ok (.invokestatic 323, 3) := by decide +kernel
theorem dX7_roundTens_53 : decode cX7_roundTens 53 = .ok (.lstore 6, 2) := by decide +kernel
theorem dX7_roundTens_55 : decode cX7_roundTens 55 = .ok (.iinc 8 (-1), 3) := by decide +kernel
theorem dX7_roundTens_58 : decode cX7_roundTens 58 = .ok (.goto (-34), 3) := by decide +kernel
theorem dX7_roundTens_61 : decode cX7_roundTens 61 = .ok (.aload_n 0, 1) := by decide +kernel
theorem dX7_roundTens_62 : decode cX7_roundTens 62 = .ok (.iload_n 1, 1) := by decide +kernel
theorem dX7_roundTens_63 : decode cX7_roundTens 63 = .ok (.lload_n 2, 1) := by decide +kernel
theorem dX7_roundTens_64 : decode cX7_roundTens 64 = .ok (.lconst 0, 1) := by decide +kernel
theorem dX7_roundTens_65 : decode cX7_roundTens 65 = .ok (.lcmp, 1) := by decide +kernel
theorem dX7_roundTens_66 : decode cX7_roundTens 66 = .ok (.ifCond .ge 7, 3) := by decide +kernel
theorem dX7_roundTens_69 : decode cX7_roundTens 69 = .ok (.iconst 1, 1) := by decide +kernel
theorem dX7_roundTens_70 : decode cX7_roundTens 70 = .ok (.goto 4, 3) := by decide +kernel
theorem dX7_roundTens_73 : decode cX7_roundTens 73 = .ok (.iconst 0, 1) := by decide +kernel
theorem dX7_roundTens_74 : decode cX7_roundTens 74 = .ok (.iload 4, 2) := by decide +kernel
theorem dX7_roundTens_76 : decode cX7_roundTens 76 = .ok (.iload 5, 2) := by decide +kernel
theorem dX7_roundTens_78 : decode cX7_roundTens 78 = .ok (.invokevirtual 216, 3) := by decide +kernel
theorem dX7_roundTens_81 : decode cX7_roundTens 81 = .ok (.return_, 1) := by decide +kernel
theorem dX7_nearest_0 : decode cX7_nearest 0 = .ok (.aload_n 0, 1) := by decide +kernel
theorem dX7_nearest_1 : decode cX7_nearest 1 = .ok (.iload_n 1, 1) := by decide +kernel
theorem dX7_nearest_2 : decode cX7_nearest 2 = .ok (.i2l, 1) := by decide +kernel
theorem dX7_nearest_3 : decode cX7_nearest 3 = .ok (.lconst 0, 1) := by decide +kernel
theorem dX7_nearest_4 : decode cX7_nearest 4 = .ok (.ldc2_w 50, 3) := by decide +kernel
theorem dX7_nearest_7 : decode cX7_nearest 7 = .ok (.invokestatic 52, 3) := by decide +kernel
theorem dX7_nearest_10 : decode cX7_nearest 10 = .ok (.ifCond .eq 35, 3) := by decide +kernel
theorem dX7_nearest_13 : decode cX7_nearest 13 = .ok (.iload 5, 2) := by decide +kernel
theorem dX7_nearest_15 : decode cX7_nearest 15 = .ok (.i2l, 1) := by decide +kernel
theorem dX7_nearest_16 : decode cX7_nearest 16 = .ok (.lconst 0, 1) := by decide +kernel
theorem dX7_nearest_17 : decode cX7_nearest 17 = .ok (.ldc2_w 200, 3) := by decide +kernel
theorem dX7_nearest_20 : decode cX7_nearest 20 = .ok (.invokestatic 52, 3) := by decide +kernel
theorem dX7_nearest_23 : decode cX7_nearest 23 = .ok (.ifCond .eq 22, 3) := by decide +kernel
theorem dX7_nearest_26 : decode cX7_nearest 26 = .ok (.iload 4, 2) := by decide +kernel
theorem dX7_nearest_28 : decode cX7_nearest 28 = .ok (.i2l, 1) := by decide +kernel
theorem dX7_nearest_29 : decode cX7_nearest 29 = .ok (.ldc2_w 326, 3) := by decide +kernel
theorem dX7_nearest_32 : decode cX7_nearest 32 = .ok (.ldc2_w 328, 3) := by decide +kernel
theorem dX7_nearest_35 : decode cX7_nearest 35 = .ok (.invokestatic 52, 3) := by decide +kernel
theorem dX7_nearest_38 : decode cX7_nearest 38 = .ok (.ifCond .eq 7, 3) := by decide +kernel
theorem dX7_nearest_41 : decode cX7_nearest 41 = .ok (.iconst 1, 1) := by decide +kernel
theorem dX7_nearest_42 : decode cX7_nearest 42 = .ok (.goto 4, 3) := by decide +kernel
theorem dX7_nearest_45 : decode cX7_nearest 45 = .ok (.iconst 0, 1) := by decide +kernel
theorem dX7_nearest_46 : decode cX7_nearest 46 = .ok (.invokevirtual 150, 3) := by decide +kernel
theorem dX7_nearest_49 : decode cX7_nearest 49 = .ok (.ifCond .eq 5, 3) := by decide +kernel
theorem dX7_nearest_52 : decode cX7_nearest 52 = .ok (.lconst 0, 1) := by decide +kernel
theorem dX7_nearest_53 : decode cX7_nearest 53 = .ok (.lreturn, 1) := by decide +kernel
theorem dX7_nearest_54 : decode cX7_nearest 54 = .ok (.aload_n 0, 1) := by decide +kernel
theorem dX7_nearest_55 : decode cX7_nearest 55 = .ok (.iload_n 1, 1) := by decide +kernel
theorem dX7_nearest_56 : decode cX7_nearest 56 = .ok (.lload_n 2, 1) := by decide +kernel
theorem dX7_nearest_57 : decode cX7_nearest 57 = .ok (.iload 4, 2) := by decide +kernel
theorem dX7_nearest_59 : decode cX7_nearest 59 = .ok (.iload 5, 2) := by decide +kernel
theorem dX7_nearest_61 : decode cX7_nearest 61 = .ok (.invokevirtual 330, 3) := by decide +kernel
theorem dX7_nearest_64 : decode cX7_nearest 64 = .ok (.aload_n 0, 1) := by decide +kernel
theorem dX7_nearest_65 : decode cX7_nearest 65 = .ok (.invokevirtual 220, 3) := by decide +kernel
theorem dX7_nearest_68 : decode cX7_nearest 68 = .ok (.aload_n 0, 1) := by decide +kernel
theorem dX7_nearest_69 : decode cX7_nearest 69 = .ok (.getfield 142, 3) := by decide +kernel
theorem dX7_nearest_72 : decode cX7_nearest 72 = .ok (.lreturn, 1) := by decide +kernel
theorem dX7_power_0 : decode cX7_power 0 = .ok (.aload_n 0, 1) := by decide +kernel
theorem dX7_power_1 : decode cX7_power 1 = .ok (.iload_n 1, 1) := by decide +kernel
theorem dX7_power_2 : decode cX7_power 2 = .ok (.i2l, 1) := by decide +kernel
theorem dX7_power_3 : decode cX7_power 3 = .ok (.lconst 0, 1) := by decide +kernel
theorem dX7_power_4 : decode cX7_power 4 = .ok (.ldc2_w 50, 3) := by decide +kernel
theorem dX7_power_7 : decode cX7_power 7 = .ok (.invokestatic 52, 3) := by decide +kernel
theorem dX7_power_10 : decode cX7_power 10 = .ok (.ifCond .eq 20, 3) := by decide +kernel
theorem dX7_power_13 : decode cX7_power 13 = .ok (.iload 5, 2) := by decide +kernel
theorem dX7_power_15 : decode cX7_power 15 = .ok (.i2l, 1) := by decide +kernel
theorem dX7_power_16 : decode cX7_power 16 = .ok (.lconst 0, 1) := by decide +kernel
theorem dX7_power_17 : decode cX7_power 17 = .ok (.ldc2_w 200, 3) := by decide +kernel
theorem dX7_power_20 : decode cX7_power 20 = .ok (.invokestatic 52, 3) := by decide +kernel
theorem dX7_power_23 : decode cX7_power 23 = .ok (.ifCond .eq 7, 3) := by decide +kernel
theorem dX7_power_26 : decode cX7_power 26 = .ok (.iconst 1, 1) := by decide +kernel
theorem dX7_power_27 : decode cX7_power 27 = .ok (.goto 4, 3) := by decide +kernel
theorem dX7_power_30 : decode cX7_power 30 = .ok (.iconst 0, 1) := by decide +kernel
theorem dX7_power_31 : decode cX7_power 31 = .ok (.invokevirtual 150, 3) := by decide +kernel
theorem dX7_power_34 : decode cX7_power 34 = .ok (.ifCond .eq 5, 3) := by decide +kernel
theorem dX7_power_37 : decode cX7_power 37 = .ok (.lconst 0, 1) := by decide +kernel
theorem dX7_power_38 : decode cX7_power 38 = .ok (.lreturn, 1) := by decide +kernel
theorem dX7_power_39 : decode cX7_power 39 = .ok (.aload_n 0, 1) := by decide +kernel
theorem dX7_power_40 : decode cX7_power 40 = .ok (.getfield 19, 3) := by decide +kernel
theorem dX7_power_43 : decode cX7_power 43 = .ok (.lload_n 2, 1) := by decide +kernel
theorem dX7_power_44 : decode cX7_power 44 = .ok (.lconst 0, 1) := by decide +kernel
theorem dX7_power_45 : decode cX7_power 45 = .ok (.lcmp, 1) := by decide +kernel
theorem dX7_power_46 : decode cX7_power 46 = .ok (.ifCond .ge 8, 3) := by decide +kernel
theorem dX7_power_49 : decode cX7_power 49 = .ok (.lload_n 2, 1) := by decide +kernel
theorem dX7_power_50 : decode cX7_power 50 = .ok (.lneg, 1) := by decide +kernel
theorem dX7_power_51 : decode cX7_power 51 = .ok (.goto 4, 3) := by decide +kernel
theorem dX7_power_54 : decode cX7_power 54 = .ok (.lload_n 2, 1) := by decide +kernel
theorem dX7_power_55 : decode cX7_power 55 = .ok (.invokestatic 128, 3) := by decide +kernel
theorem dX7_power_58 : decode cX7_power 58 = .ok (.aload_n 0, 1) := by decide +kernel
theorem dX7_power_59 : decode cX7_power 59 = .ok (.iload_n 1, 1) := by decide +kernel
theorem dX7_power_60 : decode cX7_power 60 = .ok (.lload_n 2, 1) := by decide +kernel
theorem dX7_power_61 : decode cX7_power 61 = .ok (.lconst 0, 1) := by decide +kernel
theorem dX7_power_62 : decode cX7_power 62 = .ok (.lcmp, 1) := by decide +kernel
theorem dX7_power_63 : decode cX7_power 63 = .ok (.ifCond .ge 7, 3) := by decide +kernel
theorem dX7_power_66 : decode cX7_power 66 = .ok (.iconst 1, 1) := by decide +kernel
theorem dX7_power_67 : decode cX7_power 67 = .ok (.goto 4, 3) := by decide +kernel
theorem dX7_power_70 : decode cX7_power 70 = .ok (.iconst 0, 1) := by decide +kernel
theorem dX7_power_71 : decode cX7_power 71 = .ok (.iload 4, 2) := by decide +kernel
theorem dX7_power_73 : decode cX7_power 73 = .ok (.i2l, 1) := by decide +kernel
theorem dX7_power_74 : decode cX7_power 74 = .ok (.iload 5, 2) := by decide +kernel
theorem dX7_power_76 : decode cX7_power 76 = .ok (.invokevirtual 212, 3) := by decide +kernel
theorem dX7_power_79 : decode cX7_power 79 = .ok (.aload_n 0, 1) := by decide +kernel
theorem dX7_power_80 : decode cX7_power 80 = .ok (.invokevirtual 220, 3) := by decide +kernel
theorem dX7_power_83 : decode cX7_power 83 = .ok (.aload_n 0, 1) := by decide +kernel
theorem dX7_power_84 : decode cX7_power 84 = .ok (.getfield 142, 3) := by decide +kernel
theorem dX7_power_87 : decode cX7_power 87 = .ok (.lreturn, 1) := by decide +kernel
theorem dX7_convert_0 : decode cX7_convert 0 = .ok (.aload_n 0, 1) := by decide +kernel
theorem dX7_convert_1 : decode cX7_convert 1 = .ok (.iload_n 1, 1) := by decide +kernel
theorem dX7_convert_2 : decode cX7_convert 2 = .ok (.lload_n 2, 1) := by decide +kernel
theorem dX7_convert_3 : decode cX7_convert 3 = .ok (.invokestatic 285, 3) := by decide +kernel
theorem dX7_convert_6 : decode cX7_convert 6 = .ok (.ifCond .eq 33, 3) := by decide +kernel
theorem dX7_convert_9 : decode cX7_convert 9 = .ok (.iload 4, 2) := by decide +kernel
theorem dX7_convert_11 : decode cX7_convert 11 = .ok (.i2l, 1) := by decide +kernel
theorem dX7_convert_12 : decode cX7_convert 12 = .ok (.lconst 0, 1) := by decide +kernel
theorem dX7_convert_13 : decode cX7_convert 13 = .ok (.ldc2_w 50, 3) := by decide +kernel
theorem dX7_convert_16 : decode cX7_convert 16 = .ok (.invokestatic 52, 3) := by decide +kernel
theorem dX7_convert_19 : decode cX7_convert 19 = .ok (.ifCond .eq 20, 3) := by decide +kernel
theorem dX7_convert_22 : decode cX7_convert 22 = .ok (.iload 5, 2) := by decide +kernel
theorem dX7_convert_24 : decode cX7_convert 24 = .ok (.i2l, 1) := by decide +kernel
theorem dX7_convert_25 : decode cX7_convert 25 = .ok (.lconst 0, 1) := by decide +kernel
theorem dX7_convert_26 : decode cX7_convert 26 = .ok (.ldc2_w 200, 3) := by decide +kernel
theorem dX7_convert_29 : decode cX7_convert 29 = .ok (.invokestatic 52, 3) := by decide +kernel
theorem dX7_convert_32 : decode cX7_convert 32 = .ok (.ifCond .eq 7, 3) := by decide +kernel
theorem dX7_convert_35 : decode cX7_convert 35 = .ok (.iconst 1, 1) := by decide +kernel
theorem dX7_convert_36 : decode cX7_convert 36 = .ok (.goto 4, 3) := by decide +kernel
theorem dX7_convert_39 : decode cX7_convert 39 = .ok (.iconst 0, 1) := by decide +kernel
theorem dX7_convert_40 : decode cX7_convert 40 = .ok (.invokevirtual 150, 3) := by decide +kernel
theorem dX7_convert_43 : decode cX7_convert 43 = .ok (.ifCond .eq 5, 3) := by decide +kernel
theorem dX7_convert_46 : decode cX7_convert 46 = .ok (.lconst 0, 1) := by decide +kernel
theorem dX7_convert_47 : decode cX7_convert 47 = .ok (.lreturn, 1) := by decide +kernel
theorem dX7_convert_48 : decode cX7_convert 48 = .ok (.iload_n 1, 1) := by decide +kernel
theorem dX7_convert_49 : decode cX7_convert 49 = .ok (.lload_n 2, 1) := by decide +kernel
theorem dX7_convert_50 : decode cX7_convert 50 = .ok (.invokestatic 259, 3) := by decide +kernel
theorem dX7_convert_53 : decode cX7_convert 53 = .ok (.istore 6, 2) := by decide +kernel
theorem dX7_convert_55 : decode cX7_convert 55 = .ok (.iload_n 1, 1) := by decide +kernel
theorem dX7_convert_56 : decode cX7_convert 56 = .ok (.lload_n 2, 1) := by decide +kernel
theorem dX7_convert_57 : decode cX7_convert 57 = .ok (.invokestatic 263, 3) := by decide +kernel
theorem dX7_convert_60 : decode cX7_convert 60 = .ok (.ifCond .eq 42, 3) := by decide +kernel
theorem dX7_convert_63 : decode cX7_convert 63 = .ok (.aload_n 0, 1) := by decide +kernel
theorem dX7_convert_64 : decode cX7_convert 64 = .ok (.iload_n 1, 1) := by decide +kernel
theorem dX7_convert_65 : decode cX7_convert 65 = .ok (.iload_n 1, 1) := by decide +kernel
theorem dX7_convert_66 : decode cX7_convert 66 = .ok (.lload_n 2, 1) := by decide +kernel
theorem dX7_convert_67 : decode cX7_convert 67 = .ok (.invokestatic 60, 3) := by decide +kernel
theorem dX7_convert_70 : decode cX7_convert 70 = .ok (.invokevirtual 269, 3) := by decide +kernel
theorem dX7_convert_73 : decode cX7_convert 73 = .ok (.aload_n 0, 1) := by decide +kernel
theorem dX7_convert_74 : decode cX7_convert 74 = .ok (.getfield 19, 3) := by decide +kernel
theorem dX7_convert_77 : decode cX7_convert 77 = .ok (.aload_n 0, 1) := by decide +kernel
theorem dX7_convert_78 : decode cX7_convert 78 = .ok (.getfield 67, 3) := by decide +kernel
theorem dX7_convert_81 : decode cX7_convert 81 = .ok (.invokestatic 128, 3) := by decide +kernel
theorem dX7_convert_84 : decode cX7_convert 84 = .ok (.aload_n 0, 1) := by decide +kernel
theorem dX7_convert_85 : decode cX7_convert 85 = .ok (.iload 4, 2) := by decide +kernel
theorem dX7_convert_87 : decode cX7_convert 87 = .ok (.iload 6, 2) := by decide +kernel
theorem dX7_convert_89 : decode cX7_convert 89 = .ok (.aload_n 0, 1) := by decide +kernel
theorem dX7_convert_90 : decode cX7_convert 90 = .ok (.getfield 74, 3) := by decide +kernel
theorem dX7_convert_93 : decode cX7_convert 93 = .ok (.i2l, 1) := by decide +kernel
theorem dX7_convert_94 : decode cX7_convert 94 = .ok (.iload 5, 2) := by decide +kernel
theorem dX7_convert_96 : decode cX7_convert 96 = .ok (.invokevirtual 212, 3) := by decide +kernel
theorem dX7_convert_99 : decode cX7_convert 99 = .ok (.goto 107, 3) := by decide +kernel
theorem dX7_convert_102 : decode cX7_convert 102 = .ok (.aload_n 0, 1) := by decide +kernel
theorem dX7_convert_103 : decode cX7_convert 103 = .ok (.iload 4, 2) := by decide +kernel
theorem dX7_convert_105 : decode cX7_convert 105 = .ok (.invokestatic 64, 3) := by decide +kernel
theorem dX7_convert_108 : decode cX7_convert 108 = .ok (.iload 6, 2) := by decide +kernel
theorem dX7_convert_110 : decode cX7_convert 110 = .ok (.ifCond .eq 11, 3) := by decide +kernel
theorem dX7_convert_113 : decode cX7_convert 113 = .ok (.iload 4, 2) := by decide +kernel
theorem dX7_convert_115 : decode cX7_convert 115 = .ok (.invokestatic 56, 3) := by decide +kernel
theorem dX7_convert_118 : decode cX7_convert 118 = .ok (.goto 4, 3) := by decide +kernel
theorem dX7_convert_121 : decode cX7_convert 121 = .ok (.lconst 0, 1) := by decide +kernel
theorem dX7_convert_122 : decode cX7_convert 122 = .ok (.lor, 1) := by decide +kernel
theorem dX7_convert_123 : decode cX7_convert 123 = .ok (.putfield 105, 3) := by decide +kernel
theorem dX7_convert_126 : decode cX7_convert 126 = .ok (.aload_n 0, 1) := by decide +kernel
theorem dX7_convert_127 : decode cX7_convert 127 = .ok (.iconst 0, 1) := by decide +kernel
theorem dX7_convert_128 : decode cX7_convert 128 = .ok (.putfield 108, 3) := by decide +kernel
theorem dX7_convert_131 : decode cX7_convert 131 = .ok (.iload_n 1, 1) := by decide +kernel
theorem dX7_convert_132 : decode cX7_convert 132 = .ok (.lload_n 2, 1) := by decide +kernel
theorem dX7_convert_133 : decode cX7_convert 133 = .ok (.invokestatic 266, 3) := by decide +kernel
theorem dX7_convert_136 : decode cX7_convert 136 = .ok (.ifCond .eq 70, 3) := by decide +kernel
theorem dX7_convert_139 : decode cX7_convert 139 = .ok (.iload_n 1, 1) := by decide +kernel
theorem dX7_convert_140 : decode cX7_convert 140 = .ok (.invokestatic 42, 3) := by decide +kernel
theorem dX7_convert_143 : decode cX7_convert 143 = .ok (.istore 7, 2) := by decide +kernel
theorem dX7_convert_145 : decode cX7_convert 145 = .ok (.iload 4, 2) := by decide +kernel
theorem dX7_convert_147 : decode cX7_convert 147 = .ok (.invokestatic 42, 3) := by decide +kernel
theorem dX7_convert_150 : decode cX7_convert 150 = .ok (.istore 8, 2) := by decide +kernel
theorem dX7_convert_152 : decode cX7_convert 152 = .ok (.lload_n 2, 1) := by decide +kernel
theorem dX7_convert_153 : decode cX7_convert 153 = .ok (.lconst 1, 1) := by decide +kernel
theorem dX7_convert_154 : decode cX7_convert 154 = .ok (.iload 7, 2) := by decide +kernel
theorem dX7_convert_156 : decode cX7_convert 156 = .ok (.iconst 2, 1) := by decide +kernel
theorem dX7_convert_157 : decode cX7_convert 157 = .ok (.isub, 1) := by decide +kernel
theorem dX7_convert_158 : decode cX7_convert 158 = .ok (.lshl, 1) := by decide +kernel
theorem dX7_convert_159 : decode cX7_convert 159 = .ok (.lconst 1, 1) := by decide +kernel
theorem dX7_convert_160 : decode cX7_convert 160 = .ok (.lsub, 1) := by decide +kernel
theorem dX7_convert_161 : decode cX7_convert 161 = .ok (.land, 1) := by decide +kernel
theorem dX7_convert_162 : decode cX7_convert 162 = .ok (.lstore 9, 2) := by decide +kernel
theorem dX7_convert_164 : decode cX7_convert 164 = .ok (.aload_n 0, 1) := by decide +kernel
theorem dX7_convert_165 : decode cX7_convert 165 = .ok (.dup, 1) := by decide +kernel
theorem dX7_convert_166 : decode cX7_convert 166 = .ok (.getfield 105, 3) := by decide +kernel
theorem dX7_convert_169 : decode cX7_convert 169 = .ok (.lconst 1, 1) := by decide +kernel
theorem dX7_convert_170 : decode cX7_convert 170 = .ok (.iload 8, 2) := by decide +kernel
theorem dX7_convert_172 : decode cX7_convert 172 = .ok (.iconst 2, 1) := by decide +kernel
theorem dX7_convert_173 : decode cX7_convert 173 = .ok (.isub, 1) := by decide +kernel
theorem dX7_convert_174 : decode cX7_convert 174 = .ok (.lshl, 1) := by decide +kernel
theorem dX7_convert_175 : decode cX7_convert 175 = .ok (.iload 8, 2) := by decide +kernel
theorem dX7_convert_177 : decode cX7_convert 177 = .ok (.iload 7, 2) := by decide +kernel
theorem dX7_convert_179 : decode cX7_convert 179 = .ok (.if_icmp .lt 14, 3) := by decide +kernel
theorem dX7_convert_182 : decode cX7_convert 182 = .ok (.lload 9, 2) := by decide +kernel
theorem dX7_convert_184 : decode cX7_convert 184 = .ok (.iload 8, 2) := by decide +kernel
theorem dX7_convert_186 : decode cX7_convert 186 = .ok (.iload 7, 2) := by decide +kernel
theorem dX7_convert_188 : decode cX7_convert 188 = .ok (.isub, 1) := by decide +kernel
theorem dX7_convert_189 : decode cX7_convert 189 = .ok (.lshl, 1) := by decide +kernel
theorem dX7_convert_190 : decode cX7_convert 190 = .ok (.goto 11, 3) := by decide +kernel
theorem dX7_convert_193 : decode cX7_convert 193 = .ok (.lload 9, 2) := by decide +kernel
theorem dX7_convert_195 : decode cX7_convert 195 = .ok (.iload 7, 2) := by decide +kernel
theorem dX7_convert_197 : decode cX7_convert 197 = .ok (.iload 8, 2) := by decide +kernel
theorem dX7_convert_199 : decode cX7_convert 199 = .ok (.isub, 1) := by decide +kernel
theorem dX7_convert_200 : decode cX7_convert 200 = .ok (.lshr, 1) := by decide +kernel
theorem dX7_convert_201 : decode cX7_convert 201 = .ok (.lor, 1) := by decide +kernel
theorem dX7_convert_202 : decode cX7_convert 202 = .ok (.lor, 1) := by decide +kernel
theorem dX7_convert_203 : decode cX7_convert 203 = .ok (.putfield 105, 3) := by decide +kernel
theorem dX7_convert_206 : decode cX7_convert 206 = .ok (.aload_n 0, 1) := by decide +kernel
theorem dX7_convert_207 : decode cX7_convert 207 = .ok (.invokevirtual 220, 3) := by decide +kernel
theorem dX7_convert_210 : decode cX7_convert 210 = .ok (.aload_n 0, 1) := by decide +kernel
theorem dX7_convert_211 : decode cX7_convert 211 = .ok (.getfield 142, 3) := by decide +kernel
theorem dX7_convert_214 : decode cX7_convert 214 = .ok (.lreturn, 1) := by decide +kernel
theorem dX7_next_0 : decode cX7_next 0 = .ok (.aload_n 0, 1) := by decide +kernel
theorem dX7_next_1 : decode cX7_next 1 = .ok (.iload_n 1, 1) := by decide +kernel
theorem dX7_next_2 : decode cX7_next 2 = .ok (.lload_n 2, 1) := by decide +kernel
theorem dX7_next_3 : decode cX7_next 3 = .ok (.invokestatic 285, 3) := by decide +kernel
theorem dX7_next_6 : decode cX7_next 6 = .ok (.invokevirtual 150, 3) := by decide +kernel
theorem dX7_next_9 : decode cX7_next 9 = .ok (.ifCond .eq 5, 3) := by decide +kernel
theorem dX7_next_12 : decode cX7_next 12 = .ok (.lconst 0, 1) := by decide +kernel
theorem dX7_next_13 : decode cX7_next 13 = .ok (.lreturn, 1) := by decide +kernel
theorem dX7_next_14 : decode cX7_next 14 = .ok (.iload_n 1, 1) := by decide +kernel
theorem dX7_next_15 : decode cX7_next 15 = .ok (.lload_n 2, 1) := by decide +kernel
theorem dX7_next_16 : decode cX7_next 16 = .ok (.invokestatic 60, 3) := by decide +kernel
theorem dX7_next_19 : decode cX7_next 19 = .ok (.lstore 5, 2) := by decide +kernel
theorem dX7_next_21 : decode cX7_next 21 = .ok (.iload_n 1, 1) := by decide +kernel
theorem dX7_next_22 : decode cX7_next 22 = .ok (.lload_n 2, 1) := by decide +kernel
theorem dX7_next_23 : decode cX7_next 23 = .ok (.invokestatic 266, 3) := by decide +kernel
theorem dX7_next_26 : decode cX7_next 26 = .ok (.ifCond .eq 5, 3) := by decide +kernel
theorem dX7_next_29 : decode cX7_next 29 = .ok (.lload_n 2, 1) := by decide +kernel
theorem dX7_next_30 : decode cX7_next 30 = .ok (.lreturn, 1) := by decide +kernel
theorem dX7_next_31 : decode cX7_next 31 = .ok (.lload 5, 2) := by decide +kernel
theorem dX7_next_33 : decode cX7_next 33 = .ok (.lconst 0, 1) := by decide +kernel
theorem dX7_next_34 : decode cX7_next 34 = .ok (.lcmp, 1) := by decide +kernel
theorem dX7_next_35 : decode cX7_next 35 = .ok (.ifCond .ne 19, 3) := by decide +kernel
theorem dX7_next_38 : decode cX7_next 38 = .ok (.iload 4, 2) := by decide +kernel
theorem dX7_next_40 : decode cX7_next 40 = .ok (.ifCond .eq 7, 3) := by decide +kernel
theorem dX7_next_43 : decode cX7_next 43 = .ok (.lconst 1, 1) := by decide +kernel
theorem dX7_next_44 : decode cX7_next 44 = .ok (.goto 9, 3) := by decide +kernel
theorem dX7_next_47 : decode cX7_next 47 = .ok (.iload_n 1, 1) := by decide +kernel
theorem dX7_next_48 : decode cX7_next 48 = .ok (.invokestatic 56, 3) := by decide +kernel
theorem dX7_next_51 : decode cX7_next 51 = .ok (.lconst 1, 1) := by decide +kernel
theorem dX7_next_52 : decode cX7_next 52 = .ok (.lor, 1) := by decide +kernel
theorem dX7_next_53 : decode cX7_next 53 = .ok (.lreturn, 1) := by decide +kernel
theorem dX7_next_54 : decode cX7_next 54 = .ok (.iload_n 1, 1) := by decide +kernel
theorem dX7_next_55 : decode cX7_next 55 = .ok (.lload_n 2, 1) := by decide +kernel
theorem dX7_next_56 : decode cX7_next 56 = .ok (.invokestatic 259, 3) := by decide +kernel
theorem dX7_next_59 : decode cX7_next 59 = .ok (.iload 4, 2) := by decide +kernel
theorem dX7_next_61 : decode cX7_next 61 = .ok (.if_icmp .eq 7, 3) := by decide +kernel
theorem dX7_next_64 : decode cX7_next 64 = .ok (.iconst 1, 1) := by decide +kernel
theorem dX7_next_65 : decode cX7_next 65 = .ok (.goto 4, 3) := by decide +kernel
theorem dX7_next_68 : decode cX7_next 68 = .ok (.iconst 0, 1) := by decide +kernel
theorem dX7_next_69 : decode cX7_next 69 = .ok (.istore 7, 2) := by decide +kernel
theorem dX7_next_71 : decode cX7_next 71 = .ok (.iload 7, 2) := by decide +kernel
theorem dX7_next_73 : decode cX7_next 73 = .ok (.ifCond .eq 23, 3) := by decide +kernel
theorem dX7_next_76 : decode cX7_next 76 = .ok (.lload 5, 2) := by decide +kernel
theorem dX7_next_78 : decode cX7_next 78 = .ok (.iload_n 1, 1) := by decide +kernel
theorem dX7_next_79 : decode cX7_next 79 = .ok (.invokestatic 64, 3) := by decide +kernel
theorem dX7_next_82 : decode cX7_next 82 = .ok (.lcmp, 1) := by decide +kernel
theorem dX7_next_83 : decode cX7_next 83 = .ok (.ifCond .ne 7, 3) := by decide +kernel
theorem dX7_next_86 : decode cX7_next 86 = .ok (.lload_n 2, 1) := by decide +kernel
theorem dX7_next_87 : decode cX7_next 87 = .ok (.goto 12, 3) := by decide +kernel
theorem dX7_next_90 : decode cX7_next 90 = .ok (.lload_n 2, 1) := by decide +kernel
theorem dX7_next_91 : decode cX7_next 91 = .ok (.lconst 1, 1) := by decide +kernel
theorem dX7_next_92 : decode cX7_next 92 = .ok (.ladd, 1) := by decide +kernel
theorem dX7_next_93 : decode cX7_next 93 = .ok (.goto 6, 3) := by decide +kernel
theorem dX7_next_96 : decode cX7_next 96 = .ok (.lload_n 2, 1) := by decide +kernel
theorem dX7_next_97 : decode cX7_next 97 = .ok (.lconst 1, 1) := by decide +kernel
theorem dX7_next_98 : decode cX7_next 98 = .ok (.lsub, 1) := by decide +kernel
theorem dX7_next_99 : decode cX7_next 99 = .ok (.lreturn, 1) := by decide +kernel
theorem dX7_placeOf_0 : decode cX7_placeOf 0 = .ok (.iload_n 0, 1) := by decide +kernel
theorem dX7_placeOf_1 : decode cX7_placeOf 1 = .ok (.lload_n 1, 1) := by decide +kernel
theorem dX7_placeOf_2 : decode cX7_placeOf 2 = .ok (.invokestatic 259, 3) := by decide +kernel
theorem dX7_placeOf_5 : decode cX7_placeOf 5 = .ok (.ifCond .eq 12, 3) := by decide +kernel
theorem dX7_placeOf_8 : decode cX7_placeOf 8 = .ok (.iload_n 0, 1) := by decide +kernel
theorem dX7_placeOf_9 : decode cX7_placeOf 9 = .ok (.lload_n 1, 1) := by decide +kernel
theorem dX7_placeOf_10 : decode cX7_placeOf 10 = .ok (.invokestatic 60, 3) := by decide +kernel
theorem dX7_placeOf_13 : decode cX7_placeOf 13 = .ok (.lneg, 1) := by decide +kernel
theorem dX7_placeOf_14 : decode cX7_placeOf 14 = .ok (.goto 8, 3) := by decide +kernel
theorem dX7_placeOf_17 : decode cX7_placeOf 17 = .ok (.iload_n 0, 1) := by decide +kernel
theorem dX7_placeOf_18 : decode cX7_placeOf 18 = .ok (.lload_n 1, 1) := by decide +kernel
theorem dX7_placeOf_19 : decode cX7_placeOf 19 = .ok (.invokestatic 60, 3) := by decide +kernel
theorem dX7_placeOf_22 : decode cX7_placeOf 22 = .ok (.lreturn, 1) := by decide +kernel
theorem dX7_steps_0 : decode cX7_steps 0 = .ok (.aload_n 0, 1) := by decide +kernel
theorem dX7_steps_1 : decode cX7_steps 1 = .ok (.iload_n 1, 1) := by decide +kernel
theorem dX7_steps_2 : decode cX7_steps 2 = .ok (.lload_n 2, 1) := by decide +kernel
theorem dX7_steps_3 : decode cX7_steps 3 = .ok (.invokestatic 285, 3) := by decide +kernel
theorem dX7_steps_6 : decode cX7_steps 6 = .ok (.ifCond .eq 33, 3) := by decide +kernel
theorem dX7_steps_9 : decode cX7_steps 9 = .ok (.iload_n 1, 1) := by decide +kernel
theorem dX7_steps_10 : decode cX7_steps 10 = .ok (.lload 4, 2) := by decide +kernel
theorem dX7_steps_12 : decode cX7_steps 12 = .ok (.invokestatic 285, 3) := by decide +kernel
theorem dX7_steps_15 : decode cX7_steps 15 = .ok (.ifCond .eq 24, 3) := by decide +kernel
theorem dX7_steps_18 : decode cX7_steps 18 = .ok (.iload_n 1, 1) := by decide +kernel
theorem dX7_steps_19 : decode cX7_steps 19 = .ok (.lload_n 2, 1) := by decide +kernel
theorem dX7_steps_20 : decode cX7_steps 20 = .ok (.invokestatic 266, 3) := by decide +kernel
theorem dX7_steps_23 : decode cX7_steps 23 = .ok (.ifCond .ne 16, 3) := by decide +kernel
theorem dX7_steps_26 : decode cX7_steps 26 = .ok (.iload_n 1, 1) := by decide +kernel
theorem dX7_steps_27 : decode cX7_steps 27 = .ok (.lload 4, 2) := by decide +kernel
theorem dX7_steps_29 : decode cX7_steps 29 = .ok (.invokestatic 266, 3) := by decide +kernel
theorem dX7_steps_32 : decode cX7_steps 32 = .ok (.ifCond .ne 7, 3) := by decide +kernel
theorem dX7_steps_35 : decode cX7_steps 35 = .ok (.iconst 1, 1) := by decide +kernel
theorem dX7_steps_36 : decode cX7_steps 36 = .ok (.goto 4, 3) := by decide +kernel
theorem dX7_steps_39 : decode cX7_steps 39 = .ok (.iconst 0, 1) := by decide +kernel
theorem dX7_steps_40 : decode cX7_steps 40 = .ok (.invokevirtual 150, 3) := by decide +kernel
theorem dX7_steps_43 : decode cX7_steps 43 = .ok (.ifCond .eq 5, 3) := by decide +kernel
theorem dX7_steps_46 : decode cX7_steps 46 = .ok (.lconst 0, 1) := by decide +kernel
theorem dX7_steps_47 : decode cX7_steps 47 = .ok (.lreturn, 1) := by decide +kernel
theorem dX7_steps_48 : decode cX7_steps 48 = .ok (.iload_n 1, 1) := by decide +kernel
theorem dX7_steps_49 : decode cX7_steps 49 = .ok (.lload_n 2, 1) := by decide +kernel
theorem dX7_steps_50 : decode cX7_steps 50 = .ok (.invokestatic 334, 3) := by decide +kernel
theorem dX7_steps_53 : decode cX7_steps 53 = .ok (.lstore 6, 2) := by decide +kernel
theorem dX7_steps_55 : decode cX7_steps 55 = .ok (.iload_n 1, 1) := by decide +kernel
theorem dX7_steps_56 : decode cX7_steps 56 = .ok (.lload 4, 2) := by decide +kernel
theorem dX7_steps_58 : decode cX7_steps 58 = .ok (.invokestatic 334, 3) := by decide +kernel
theorem dX7_steps_61 : decode cX7_steps 61 = .ok (.lstore 8, 2) := by decide +kernel
theorem dX7_steps_63 : decode cX7_steps 63 = .ok (.lload 8, 2) := by decide +kernel
theorem dX7_steps_65 : decode cX7_steps 65 = .ok (.lload 6, 2) := by decide +kernel
theorem dX7_steps_67 : decode cX7_steps 67 = .ok (.lsub, 1) := by decide +kernel
theorem dX7_steps_68 : decode cX7_steps 68 = .ok (.lstore 10, 2) := by decide +kernel
theorem dX7_steps_70 : decode cX7_steps 70 = .ok (.lload 8, 2) := by decide +kernel
theorem dX7_steps_72 : decode cX7_steps 72 = .ok (.lconst 0, 1) := by decide +kernel
theorem dX7_steps_73 : decode cX7_steps 73 = .ok (.lcmp, 1) := by decide +kernel
theorem dX7_steps_74 : decode cX7_steps 74 = .ok (.ifCond .lt 7, 3) := by decide +kernel
theorem dX7_steps_77 : decode cX7_steps 77 = .ok (.iconst 1, 1) := by decide +kernel
theorem dX7_steps_78 : decode cX7_steps 78 = .ok (.goto 4, 3) := by decide +kernel
theorem dX7_steps_81 : decode cX7_steps 81 = .ok (.iconst 0, 1) := by decide +kernel
theorem dX7_steps_82 : decode cX7_steps 82 = .ok (.lload 6, 2) := by decide +kernel
theorem dX7_steps_84 : decode cX7_steps 84 = .ok (.lconst 0, 1) := by decide +kernel
theorem dX7_steps_85 : decode cX7_steps 85 = .ok (.lcmp, 1) := by decide +kernel
theorem dX7_steps_86 : decode cX7_steps 86 = .ok (.ifCond .lt 7, 3) := by decide +kernel
theorem dX7_steps_89 : decode cX7_steps 89 = .ok (.iconst 1, 1) := by decide +kernel
theorem dX7_steps_90 : decode cX7_steps 90 = .ok (.goto 4, 3) := by decide +kernel
theorem dX7_steps_93 : decode cX7_steps 93 = .ok (.iconst 0, 1) := by decide +kernel
theorem dX7_steps_94 : decode cX7_steps 94 = .ok (.if_icmp .eq 34, 3) := by decide +kernel
theorem dX7_steps_97 : decode cX7_steps 97 = .ok (.lload 10, 2) := by decide +kernel
theorem dX7_steps_99 : decode cX7_steps 99 = .ok (.lconst 0, 1) := by decide +kernel
theorem dX7_steps_100 : decode cX7_steps 100 = .ok (.lcmp, 1) := by decide +kernel
theorem dX7_steps_101 : decode cX7_steps 101 = .ok (.ifCond .lt 7, 3) := by decide +kernel
theorem dX7_steps_104 : decode cX7_steps 104 = .ok (.iconst 1, 1) := by decide +kernel
theorem dX7_steps_105 : decode cX7_steps 105 = .ok (.goto 4, 3) := by decide +kernel
theorem dX7_steps_108 : decode cX7_steps 108 = .ok (.iconst 0, 1) := by decide +kernel
theorem dX7_steps_109 : decode cX7_steps 109 = .ok (.lload 8, 2) := by decide +kernel
theorem dX7_steps_111 : decode cX7_steps 111 = .ok (.lconst 0, 1) := by decide +kernel
theorem dX7_steps_112 : decode cX7_steps 112 = .ok (.lcmp, 1) := by decide +kernel
theorem dX7_steps_113 : decode cX7_steps 113 = .ok (.ifCond .lt 7, 3) := by decide +kernel
theorem dX7_steps_116 : decode cX7_steps 116 = .ok (.iconst 1, 1) := by decide +kernel
theorem dX7_steps_117 : decode cX7_steps 117 = .ok (.goto 4, 3) := by decide +kernel
theorem dX7_steps_120 : decode cX7_steps 120 = .ok (.iconst 0, 1) := by decide +kernel
theorem dX7_steps_121 : decode cX7_steps 121 = .ok (.if_icmp .eq 7, 3) := by decide +kernel
theorem dX7_steps_124 : decode cX7_steps 124 = .ok (.iconst 1, 1) := by decide +kernel
theorem dX7_steps_125 : decode cX7_steps 125 = .ok (.goto 4, 3) := by decide +kernel
theorem dX7_steps_128 : decode cX7_steps 128 = .ok (.iconst 0, 1) := by decide +kernel
theorem dX7_steps_129 : decode cX7_steps 129 = .ok (.istore 12, 2) := by decide +kernel
theorem dX7_steps_131 : decode cX7_steps 131 = .ok (.iload 12, 2) := by decide +kernel
theorem dX7_steps_133 : decode cX7_steps 133 = .ok (.ifCond .eq 22, 3) := by decide +kernel
theorem dX7_steps_136 : decode cX7_steps 136 = .ok (.lload 8, 2) := by decide +kernel
theorem dX7_steps_138 : decode cX7_steps 138 = .ok (.lconst 0, 1) := by decide +kernel
theorem dX7_steps_139 : decode cX7_steps 139 = .ok (.lcmp, 1) := by decide +kernel
theorem dX7_steps_140 : decode cX7_steps 140 = .ok (.ifCond .lt 9, 3) := by decide +kernel
theorem dX7_steps_143 : decode cX7_steps 143 = .ok (.ldc2_w 337, 3) := by decide +kernel
theorem dX7_steps_146 : decode cX7_steps 146 = .ok (.goto 11, 3) := by decide +kernel
theorem dX7_steps_149 : decode cX7_steps 149 = .ok (.ldc2_w 339, 3) := by decide +kernel
theorem dX7_steps_152 : decode cX7_steps 152 = .ok (.goto 5, 3) := by decide +kernel
theorem dX7_steps_155 : decode cX7_steps 155 = .ok (.lload 10, 2) := by decide +kernel
theorem dX7_steps_157 : decode cX7_steps 157 = .ok (.lreturn, 1) := by decide +kernel
theorem dX7_compare_0 : decode cX7_compare 0 = .ok (.aload_n 0, 1) := by decide +kernel
theorem dX7_compare_1 : decode cX7_compare 1 = .ok (.iload_n 1, 1) := by decide +kernel
theorem dX7_compare_2 : decode cX7_compare 2 = .ok (.lload_n 2, 1) := by decide +kernel
theorem dX7_compare_3 : decode cX7_compare 3 = .ok (.invokestatic 285, 3) := by decide +kernel
theorem dX7_compare_6 : decode cX7_compare 6 = .ok (.ifCond .eq 16, 3) := by decide +kernel
theorem dX7_compare_9 : decode cX7_compare 9 = .ok (.iload_n 1, 1) := by decide +kernel
theorem dX7_compare_10 : decode cX7_compare 10 = .ok (.lload 4, 2) := by decide +kernel
theorem dX7_compare_12 : decode cX7_compare 12 = .ok (.invokestatic 285, 3) := by decide +kernel
theorem dX7_compare_15 : decode cX7_compare 15 = .ok (.ifCond .eq 7, 3) := by decide +kernel
theorem dX7_compare_18 : decode cX7_compare 18 = .ok (.iconst 1, 1) := by decide +kernel
theorem dX7_compare_19 : decode cX7_compare 19 = .ok (.goto 4, 3) := by decide +kernel
theorem dX7_compare_22 : decode cX7_compare 22 = .ok (.iconst 0, 1) := by decide +kernel
theorem dX7_compare_23 : decode cX7_compare 23 = .ok (.invokevirtual 150, 3) := by decide +kernel
theorem dX7_compare_26 : decode cX7_compare 26 = .ok (.ifCond .eq 5, 3) := by decide +kernel
theorem dX7_compare_29 : decode cX7_compare 29 = .ok (.iconst 0, 1) := by decide +kernel
theorem dX7_compare_30 : decode cX7_compare 30 = .ok (.ireturn, 1) := by decide +kernel
theorem dX7_compare_31 : decode cX7_compare 31 = .ok (.iload_n 1, 1) := by decide +kernel
theorem dX7_compare_32 : decode cX7_compare 32 = .ok (.lload_n 2, 1) := by decide +kernel
theorem dX7_compare_33 : decode cX7_compare 33 = .ok (.invokestatic 266, 3) := by decide +kernel
theorem dX7_compare_36 : decode cX7_compare 36 = .ok (.ifCond .ne 12, 3) := by decide +kernel
theorem dX7_compare_39 : decode cX7_compare 39 = .ok (.iload_n 1, 1) := by decide +kernel
theorem dX7_compare_40 : decode cX7_compare 40 = .ok (.lload 4, 2) := by decide +kernel
theorem dX7_compare_42 : decode cX7_compare 42 = .ok (.invokestatic 266, 3) := by decide +kernel
theorem dX7_compare_45 : decode cX7_compare 45 = .ok (.ifCond .eq 5, 3) := by decide +kernel
theorem dX7_compare_48 : decode cX7_compare 48 = .ok (.iconst 2, 1) := by decide +kernel
theorem dX7_compare_49 : decode cX7_compare 49 = .ok (.ireturn, 1) := by decide +kernel
theorem dX7_compare_50 : decode cX7_compare 50 = .ok (.iload_n 1, 1) := by decide +kernel
theorem dX7_compare_51 : decode cX7_compare 51 = .ok (.lload_n 2, 1) := by decide +kernel
theorem dX7_compare_52 : decode cX7_compare 52 = .ok (.invokestatic 334, 3) := by decide +kernel
theorem dX7_compare_55 : decode cX7_compare 55 = .ok (.lstore 6, 2) := by decide +kernel
theorem dX7_compare_57 : decode cX7_compare 57 = .ok (.iload_n 1, 1) := by decide +kernel
theorem dX7_compare_58 : decode cX7_compare 58 = .ok (.lload 4, 2) := by decide +kernel
theorem dX7_compare_60 : decode cX7_compare 60 = .ok (.invokestatic 334, 3) := by decide +kernel
theorem dX7_compare_63 : decode cX7_compare 63 = .ok (.lstore 8, 2) := by decide +kernel
theorem dX7_compare_65 : decode cX7_compare 65 = .ok (.lload 6, 2) := by decide +kernel
theorem dX7_compare_67 : decode cX7_compare 67 = .ok (.lload 8, 2) := by decide +kernel
theorem dX7_compare_69 : decode cX7_compare 69 = .ok (.lcmp, 1) := by decide +kernel
theorem dX7_compare_70 : decode cX7_compare 70 = .ok (.ifCond .ge 7, 3) := by decide +kernel
theorem dX7_compare_73 : decode cX7_compare 73 = .ok (.iconst (-1), 1) := by decide +kernel
theorem dX7_compare_74 : decode cX7_compare 74 = .ok (.goto 16, 3) := by decide +kernel
theorem dX7_compare_77 : decode cX7_compare 77 = .ok (.lload 6, 2) := by decide +kernel
theorem dX7_compare_79 : decode cX7_compare 79 = .ok (.lload 8, 2) := by decide +kernel
theorem dX7_compare_81 : decode cX7_compare 81 = .ok (.lcmp, 1) := by decide +kernel
theorem dX7_compare_82 : decode cX7_compare 82 = .ok (.ifCond .le 7, 3) := by decide +kernel
theorem dX7_compare_85 : decode cX7_compare 85 = .ok (.iconst 1, 1) := by decide +kernel
theorem dX7_compare_86 : decode cX7_compare 86 = .ok (.goto 4, 3) := by decide +kernel
theorem dX7_compare_89 : decode cX7_compare 89 = .ok (.iconst 0, 1) := by decide +kernel
theorem dX7_compare_90 : decode cX7_compare 90 = .ok (.ireturn, 1) := by decide +kernel
theorem dX7_order_0 : decode cX7_order 0 = .ok (.aload_n 0, 1) := by decide +kernel
theorem dX7_order_1 : decode cX7_order 1 = .ok (.iload_n 1, 1) := by decide +kernel
theorem dX7_order_2 : decode cX7_order 2 = .ok (.lload_n 2, 1) := by decide +kernel
theorem dX7_order_3 : decode cX7_order 3 = .ok (.invokestatic 285, 3) := by decide +kernel
theorem dX7_order_6 : decode cX7_order 6 = .ok (.ifCond .eq 16, 3) := by decide +kernel
theorem dX7_order_9 : decode cX7_order 9 = .ok (.iload_n 1, 1) := by decide +kernel
theorem dX7_order_10 : decode cX7_order 10 = .ok (.lload 4, 2) := by decide +kernel
theorem dX7_order_12 : decode cX7_order 12 = .ok (.invokestatic 285, 3) := by decide +kernel
theorem dX7_order_15 : decode cX7_order 15 = .ok (.ifCond .eq 7, 3) := by decide +kernel
theorem dX7_order_18 : decode cX7_order 18 = .ok (.iconst 1, 1) := by decide +kernel
theorem dX7_order_19 : decode cX7_order 19 = .ok (.goto 4, 3) := by decide +kernel
theorem dX7_order_22 : decode cX7_order 22 = .ok (.iconst 0, 1) := by decide +kernel
theorem dX7_order_23 : decode cX7_order 23 = .ok (.invokevirtual 150, 3) := by decide +kernel
theorem dX7_order_26 : decode cX7_order 26 = .ok (.ifCond .eq 5, 3) := by decide +kernel
theorem dX7_order_29 : decode cX7_order 29 = .ok (.iconst 0, 1) := by decide +kernel
theorem dX7_order_30 : decode cX7_order 30 = .ok (.ireturn, 1) := by decide +kernel
theorem dX7_order_31 : decode cX7_order 31 = .ok (.iload_n 1, 1) := by decide +kernel
theorem dX7_order_32 : decode cX7_order 32 = .ok (.lload_n 2, 1) := by decide +kernel
theorem dX7_order_33 : decode cX7_order 33 = .ok (.invokestatic 259, 3) := by decide +kernel
theorem dX7_order_36 : decode cX7_order 36 = .ok (.istore 6, 2) := by decide +kernel
theorem dX7_order_38 : decode cX7_order 38 = .ok (.iload_n 1, 1) := by decide +kernel
theorem dX7_order_39 : decode cX7_order 39 = .ok (.lload 4, 2) := by decide +kernel
theorem dX7_order_41 : decode cX7_order 41 = .ok (.invokestatic 259, 3) := by decide +kernel
theorem dX7_order_44 : decode cX7_order 44 = .ok (.istore 7, 2) := by decide +kernel
theorem dX7_order_46 : decode cX7_order 46 = .ok (.iload 6, 2) := by decide +kernel
theorem dX7_order_48 : decode cX7_order 48 = .ok (.iload 7, 2) := by decide +kernel
theorem dX7_order_50 : decode cX7_order 50 = .ok (.if_icmp .eq 14, 3) := by decide +kernel
theorem dX7_order_53 : decode cX7_order 53 = .ok (.iload 6, 2) := by decide +kernel
theorem dX7_order_55 : decode cX7_order 55 = .ok (.ifCond .eq 7, 3) := by decide +kernel
theorem dX7_order_58 : decode cX7_order 58 = .ok (.iconst (-1), 1) := by decide +kernel
theorem dX7_order_59 : decode cX7_order 59 = .ok (.goto 4, 3) := by decide +kernel
theorem dX7_order_62 : decode cX7_order 62 = .ok (.iconst 1, 1) := by decide +kernel
theorem dX7_order_63 : decode cX7_order 63 = .ok (.ireturn, 1) := by decide +kernel
theorem dX7_order_64 : decode cX7_order 64 = .ok (.iload_n 1, 1) := by decide +kernel
theorem dX7_order_65 : decode cX7_order 65 = .ok (.lload_n 2, 1) := by decide +kernel
theorem dX7_order_66 : decode cX7_order 66 = .ok (.invokestatic 60, 3) := by decide +kernel
theorem dX7_order_69 : decode cX7_order 69 = .ok (.lstore 8, 2) := by decide +kernel
theorem dX7_order_71 : decode cX7_order 71 = .ok (.iload_n 1, 1) := by decide +kernel
theorem dX7_order_72 : decode cX7_order 72 = .ok (.lload 4, 2) := by decide +kernel
theorem dX7_order_74 : decode cX7_order 74 = .ok (.invokestatic 60, 3) := by decide +kernel
theorem dX7_order_77 : decode cX7_order 77 = .ok (.lstore 10, 2) := by decide +kernel
theorem dX7_order_79 : decode cX7_order 79 = .ok (.lload 8, 2) := by decide +kernel
theorem dX7_order_81 : decode cX7_order 81 = .ok (.lload 10, 2) := by decide +kernel
theorem dX7_order_83 : decode cX7_order 83 = .ok (.lcmp, 1) := by decide +kernel
theorem dX7_order_84 : decode cX7_order 84 = .ok (.ifCond .ne 7, 3) := by decide +kernel
theorem dX7_order_87 : decode cX7_order 87 = .ok (.iconst 0, 1) := by decide +kernel
theorem dX7_order_88 : decode cX7_order 88 = .ok (.goto 26, 3) := by decide +kernel
theorem dX7_order_91 : decode cX7_order 91 = .ok (.lload 8, 2) := by decide +kernel
theorem dX7_order_93 : decode cX7_order 93 = .ok (.lload 10, 2) := by decide +kernel
theorem dX7_order_95 : decode cX7_order 95 = .ok (.lcmp, 1) := by decide +kernel
theorem dX7_order_96 : decode cX7_order 96 = .ok (.ifCond .ge 7, 3) := by decide +kernel
theorem dX7_order_99 : decode cX7_order 99 = .ok (.iconst 1, 1) := by decide +kernel
theorem dX7_order_100 : decode cX7_order 100 = .ok (.goto 4, 3) := by decide +kernel
theorem dX7_order_103 : decode cX7_order 103 = .ok (.iconst 0, 1) := by decide +kernel
theorem dX7_order_104 : decode cX7_order 104 = .ok (.iload 6, 2) := by decide +kernel
theorem dX7_order_106 : decode cX7_order 106 = .ok (.if_icmp .eq 7, 3) := by decide +kernel
theorem dX7_order_109 : decode cX7_order 109 = .ok (.iconst (-1), 1) := by decide +kernel
theorem dX7_order_110 : decode cX7_order 110 = .ok (.goto 4, 3) := by decide +kernel
theorem dX7_order_113 : decode cX7_order 113 = .ok (.iconst 1, 1) := by decide +kernel
theorem dX7_order_114 : decode cX7_order 114 = .ok (.ireturn, 1) := by decide +kernel
theorem dX7_kind_0 : decode cX7_kind 0 = .ok (.aload_n 0, 1) := by decide +kernel
theorem dX7_kind_1 : decode cX7_kind 1 = .ok (.iload_n 1, 1) := by decide +kernel
theorem dX7_kind_2 : decode cX7_kind 2 = .ok (.lload_n 2, 1) := by decide +kernel
theorem dX7_kind_3 : decode cX7_kind 3 = .ok (.invokestatic 285, 3) := by decide +kernel
theorem dX7_kind_6 : decode cX7_kind 6 = .ok (.invokevirtual 150, 3) := by decide +kernel
theorem dX7_kind_9 : decode cX7_kind 9 = .ok (.ifCond .eq 5, 3) := by decide +kernel
theorem dX7_kind_12 : decode cX7_kind 12 = .ok (.iconst 0, 1) := by decide +kernel
theorem dX7_kind_13 : decode cX7_kind 13 = .ok (.ireturn, 1) := by decide +kernel
theorem dX7_kind_14 : decode cX7_kind 14 = .ok (.iload_n 1, 1) := by decide +kernel
theorem dX7_kind_15 : decode cX7_kind 15 = .ok (.lload_n 2, 1) := by decide +kernel
theorem dX7_kind_16 : decode cX7_kind 16 = .ok (.invokestatic 60, 3) := by decide +kernel
theorem dX7_kind_19 : decode cX7_kind 19 = .ok (.lstore 4, 2) := by decide +kernel
theorem dX7_kind_21 : decode cX7_kind 21 = .ok (.lload 4, 2) := by decide +kernel
theorem dX7_kind_23 : decode cX7_kind 23 = .ok (.lconst 0, 1) := by decide +kernel
theorem dX7_kind_24 : decode cX7_kind 24 = .ok (.lcmp, 1) := by decide +kernel
theorem dX7_kind_25 : decode cX7_kind 25 = .ok (.ifCond .ne 7, 3) := by decide +kernel
theorem dX7_kind_28 : decode cX7_kind 28 = .ok (.iconst 0, 1) := by decide +kernel
theorem dX7_kind_29 : decode cX7_kind 29 = .ok (.goto 50, 3) := by decide +kernel
theorem dX7_kind_32 : decode cX7_kind 32 = .ok (.lload 4, 2) := by decide +kernel
theorem dX7_kind_34 : decode cX7_kind 34 = .ok (.lconst 1, 1) := by decide +kernel
theorem dX7_kind_35 : decode cX7_kind 35 = .ok (.iload_n 1, 1) := by decide +kernel
theorem dX7_kind_36 : decode cX7_kind 36 = .ok (.invokestatic 42, 3) := by decide +kernel
theorem dX7_kind_39 : decode cX7_kind 39 = .ok (.iconst 1, 1) := by decide +kernel
theorem dX7_kind_40 : decode cX7_kind 40 = .ok (.isub, 1) := by decide +kernel
theorem dX7_kind_41 : decode cX7_kind 41 = .ok (.lshl, 1) := by decide +kernel
theorem dX7_kind_42 : decode cX7_kind 42 = .ok (.lcmp, 1) := by decide +kernel
theorem dX7_kind_43 : decode cX7_kind 43 = .ok (.ifCond .ge 7, 3) := by decide +kernel
theorem dX7_kind_46 : decode cX7_kind 46 = .ok (.iconst 1, 1) := by decide +kernel
theorem dX7_kind_47 : decode cX7_kind 47 = .ok (.goto 32, 3) := by decide +kernel
theorem dX7_kind_50 : decode cX7_kind 50 = .ok (.lload 4, 2) := by decide +kernel
theorem dX7_kind_52 : decode cX7_kind 52 = .ok (.iload_n 1, 1) := by decide +kernel
theorem dX7_kind_53 : decode cX7_kind 53 = .ok (.invokestatic 64, 3) := by decide +kernel
theorem dX7_kind_56 : decode cX7_kind 56 = .ok (.lcmp, 1) := by decide +kernel
theorem dX7_kind_57 : decode cX7_kind 57 = .ok (.ifCond .ge 7, 3) := by decide +kernel
theorem dX7_kind_60 : decode cX7_kind 60 = .ok (.iconst 2, 1) := by decide +kernel
theorem dX7_kind_61 : decode cX7_kind 61 = .ok (.goto 18, 3) := by decide +kernel
theorem dX7_kind_64 : decode cX7_kind 64 = .ok (.lload 4, 2) := by decide +kernel
theorem dX7_kind_66 : decode cX7_kind 66 = .ok (.iload_n 1, 1) := by decide +kernel
theorem dX7_kind_67 : decode cX7_kind 67 = .ok (.invokestatic 64, 3) := by decide +kernel
theorem dX7_kind_70 : decode cX7_kind 70 = .ok (.lcmp, 1) := by decide +kernel
theorem dX7_kind_71 : decode cX7_kind 71 = .ok (.ifCond .ne 7, 3) := by decide +kernel
theorem dX7_kind_74 : decode cX7_kind 74 = .ok (.iconst 3, 1) := by decide +kernel
theorem dX7_kind_75 : decode cX7_kind 75 = .ok (.goto 4, 3) := by decide +kernel
theorem dX7_kind_78 : decode cX7_kind 78 = .ok (.iconst 4, 1) := by decide +kernel
theorem dX7_kind_79 : decode cX7_kind 79 = .ok (.ireturn, 1) := by decide +kernel
theorem dX7_reads_0 : decode cX7_reads 0 = .ok (.aload_n 0, 1) := by decide +kernel
theorem dX7_reads_1 : decode cX7_reads 1 = .ok (.iload_n 1, 1) := by decide +kernel
theorem dX7_reads_2 : decode cX7_reads 2 = .ok (.lload_n 2, 1) := by decide +kernel
theorem dX7_reads_3 : decode cX7_reads 3 = .ok (.invokestatic 285, 3) := by decide +kernel
theorem dX7_reads_6 : decode cX7_reads 6 = .ok (.ifCond .eq 22, 3) := by decide +kernel
theorem dX7_reads_9 : decode cX7_reads 9 = .ok (.iload 6, 2) := by decide +kernel
theorem dX7_reads_11 : decode cX7_reads 11 = .ok (.i2l, 1) := by decide +kernel
theorem dX7_reads_12 : decode cX7_reads 12 = .ok (.ldc2_w 326, 3) := by decide +kernel
theorem dX7_reads_15 : decode cX7_reads 15 = .ok (.ldc2_w 328, 3) := by decide +kernel
theorem dX7_reads_18 : decode cX7_reads 18 = .ok (.invokestatic 52, 3) := by decide +kernel
theorem dX7_reads_21 : decode cX7_reads 21 = .ok (.ifCond .eq 7, 3) := by decide +kernel
theorem dX7_reads_24 : decode cX7_reads 24 = .ok (.iconst 1, 1) := by decide +kernel
theorem dX7_reads_25 : decode cX7_reads 25 = .ok (.goto 4, 3) := by decide +kernel
theorem dX7_reads_28 : decode cX7_reads 28 = .ok (.iconst 0, 1) := by decide +kernel
theorem dX7_reads_29 : decode cX7_reads 29 = .ok (.invokevirtual 150, 3) := by decide +kernel
theorem dX7_reads_32 : decode cX7_reads 32 = .ok (.ifCond .eq 5, 3) := by decide +kernel
theorem dX7_reads_35 : decode cX7_reads 35 = .ok (.iconst 0, 1) := by decide +kernel
theorem dX7_reads_36 : decode cX7_reads 36 = .ok (.ireturn, 1) := by decide +kernel
theorem dX7_reads_37 : decode cX7_reads 37 = .ok (.aload_n 0, 1) := by decide +kernel
theorem dX7_reads_38 : decode cX7_reads 38 = .ok (.iload_n 1, 1) := by decide +kernel
theorem dX7_reads_39 : decode cX7_reads 39 = .ok (.lload 4, 2) := by decide +kernel
theorem dX7_reads_41 : decode cX7_reads 41 = .ok (.iload 6, 2) := by decide +kernel
theorem dX7_reads_43 : decode cX7_reads 43 = .ok (.iconst 0, 1) := by decide +kernel
theorem dX7_reads_44 : decode cX7_reads 44 = .ok (.invokevirtual 330, 3) := by decide +kernel
theorem dX7_reads_47 : decode cX7_reads 47 = .ok (.aload_n 0, 1) := by decide +kernel
theorem dX7_reads_48 : decode cX7_reads 48 = .ok (.getfield 105, 3) := by decide +kernel
theorem dX7_reads_51 : decode cX7_reads 51 = .ok (.lload_n 2, 1) := by decide +kernel
theorem dX7_reads_52 : decode cX7_reads 52 = .ok (.lcmp, 1) := by decide +kernel
theorem dX7_reads_53 : decode cX7_reads 53 = .ok (.ifCond .ne 7, 3) := by decide +kernel
theorem dX7_reads_56 : decode cX7_reads 56 = .ok (.iconst 1, 1) := by decide +kernel
theorem dX7_reads_57 : decode cX7_reads 57 = .ok (.goto 4, 3) := by decide +kernel
theorem dX7_reads_60 : decode cX7_reads 60 = .ok (.iconst 0, 1) := by decide +kernel
theorem dX7_reads_61 : decode cX7_reads 61 = .ok (.ireturn, 1) := by decide +kernel
theorem dX7_holds_0 : decode cX7_holds 0 = .ok (.aload_n 0, 1) := by decide +kernel
theorem dX7_holds_1 : decode cX7_holds 1 = .ok (.iload_n 1, 1) := by decide +kernel
theorem dX7_holds_2 : decode cX7_holds 2 = .ok (.lload_n 2, 1) := by decide +kernel
theorem dX7_holds_3 : decode cX7_holds 3 = .ok (.invokestatic 285, 3) := by decide +kernel
theorem dX7_holds_6 : decode cX7_holds 6 = .ok (.ifCond .eq 25, 3) := by decide +kernel
theorem dX7_holds_9 : decode cX7_holds 9 = .ok (.iload_n 1, 1) := by decide +kernel
theorem dX7_holds_10 : decode cX7_holds 10 = .ok (.lload_n 2, 1) := by decide +kernel
theorem dX7_holds_11 : decode cX7_holds 11 = .ok (.invokestatic 263, 3) := by decide +kernel
theorem dX7_holds_14 : decode cX7_holds 14 = .ok (.ifCond .eq 17, 3) := by decide +kernel
theorem dX7_holds_17 : decode cX7_holds 17 = .ok (.iload_n 1, 1) := by decide +kernel
theorem dX7_holds_18 : decode cX7_holds 18 = .ok (.lload_n 2, 1) := by decide +kernel
theorem dX7_holds_19 : decode cX7_holds 19 = .ok (.invokestatic 60, 3) := by decide +kernel
theorem dX7_holds_22 : decode cX7_holds 22 = .ok (.lconst 0, 1) := by decide +kernel
theorem dX7_holds_23 : decode cX7_holds 23 = .ok (.lcmp, 1) := by decide +kernel
theorem dX7_holds_24 : decode cX7_holds 24 = .ok (.ifCond .eq 7, 3) := by decide +kernel
theorem dX7_holds_27 : decode cX7_holds 27 = .ok (.iconst 1, 1) := by decide +kernel
theorem dX7_holds_28 : decode cX7_holds 28 = .ok (.goto 4, 3) := by decide +kernel
theorem dX7_holds_31 : decode cX7_holds 31 = .ok (.iconst 0, 1) := by decide +kernel
theorem dX7_holds_32 : decode cX7_holds 32 = .ok (.invokevirtual 150, 3) := by decide +kernel
theorem dX7_holds_35 : decode cX7_holds 35 = .ok (.ifCond .ne 7, 3) := by decide +kernel
theorem dX7_holds_38 : decode cX7_holds 38 = .ok (.iconst 1, 1) := by decide +kernel
theorem dX7_holds_39 : decode cX7_holds 39 = .ok (.goto 4, 3) := by decide +kernel
theorem dX7_holds_42 : decode cX7_holds 42 = .ok (.iconst 0, 1) := by decide +kernel
theorem dX7_holds_43 : decode cX7_holds 43 = .ok (.ireturn, 1) := by decide +kernel
