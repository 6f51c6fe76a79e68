theorem dX0_init_0 : decode cX0_init 0 = .ok (.aload_n 0, 1) := by decide +kernel
theorem dX0_init_1 : decode cX0_init 1 = .ok (.invokespecial 3, 3) := by decide +kernel
theorem dX0_init_4 : decode cX0_init 4 = .ok (.aload_n 0, 1) := by decide +kernel
theorem dX0_init_5 : decode cX0_init 5 = .ok (.iload_n 1, 1) := by decide +kernel
theorem dX0_init_6 : decode cX0_init 6 = .ok (.iconst 0, 1) := by decide +kernel
theorem dX0_init_7 : decode cX0_init 7 = .ok (.invokestatic 9, 3) := by decide +kernel
theorem dX0_init_10 : decode cX0_init 10 = .ok (.newarray .byte, 2) := by decide +kernel
theorem dX0_init_12 : decode cX0_init 12 = .ok (.putfield 15, 3) := by decide +kernel
theorem dX0_init_15 : decode cX0_init 15 = .ok (.aload_n 0, 1) := by decide +kernel
theorem dX0_init_16 : decode cX0_init 16 = .ok (.iconst 0, 1) := by decide +kernel
theorem dX0_init_17 : decode cX0_init 17 = .ok (.putfield 21, 3) := by decide +kernel
theorem dX0_init_20 : decode cX0_init 20 = .ok (.return_, 1) := by decide +kernel
theorem dX0_room_0 : decode cX0_room 0 = .ok (.aload_n 0, 1) := by decide +kernel
theorem dX0_room_1 : decode cX0_room 1 = .ok (.getfield 15, 3) := by decide +kernel
theorem dX0_room_4 : decode cX0_room 4 = .ok (.arraylength, 1) := by decide +kernel
theorem dX0_room_5 : decode cX0_room 5 = .ok (.aload_n 0, 1) := by decide +kernel
theorem dX0_room_6 : decode cX0_room 6 = .ok (.getfield 21, 3) := by decide +kernel
theorem dX0_room_9 : decode cX0_room 9 = .ok (.isub, 1) := by decide +kernel
theorem dX0_room_10 : decode cX0_room 10 = .ok (.ireturn, 1) := by decide +kernel
theorem dX0_at_0 : decode cX0_at 0 = .ok (.iload_n 1, 1) := by decide +kernel
theorem dX0_at_1 : decode cX0_at 1 = .ok (.ifCond .lt 20, 3) := by decide +kernel
theorem dX0_at_4 : decode cX0_at 4 = .ok (.iload_n 1, 1) := by decide +kernel
theorem dX0_at_5 : decode cX0_at 5 = .ok (.aload_n 0, 1) := by decide +kernel
theorem dX0_at_6 : decode cX0_at 6 = .ok (.getfield 21, 3) := by decide +kernel
theorem dX0_at_9 : decode cX0_at 9 = .ok (.if_icmp .ge 12, 3) := by decide +kernel
theorem dX0_at_12 : decode cX0_at 12 = .ok (.iload_n 1, 1) := by decide +kernel
theorem dX0_at_13 : decode cX0_at 13 = .ok (.aload_n 0, 1) := by decide +kernel
theorem dX0_at_14 : decode cX0_at 14 = .ok (.getfield 15, 3) := by decide +kernel
theorem dX0_at_17 : decode cX0_at 17 = .ok (.arraylength, 1) := by decide +kernel
theorem dX0_at_18 : decode cX0_at 18 = .ok (.if_icmp .lt 7, 3) := by decide +kernel
theorem dX0_at_21 : decode cX0_at 21 = .ok (.iconst (-1), 1) := by decide +kernel
theorem dX0_at_22 : decode cX0_at 22 = .ok (.goto 13, 3) := by decide +kernel
theorem dX0_at_25 : decode cX0_at 25 = .ok (.aload_n 0, 1) := by decide +kernel
theorem dX0_at_26 : decode cX0_at 26 = .ok (.getfield 15, 3) := by decide +kernel
theorem dX0_at_29 : decode cX0_at 29 = .ok (.iload_n 1, 1) := by decide +kernel
theorem dX0_at_30 : decode cX0_at 30 = .ok (.baload, 1) := by decide +kernel
theorem dX0_at_31 : decode cX0_at 31 = .ok (.sipush 255, 3) := by decide +kernel
theorem dX0_at_34 : decode cX0_at 34 = .ok (.iand, 1) := by decide +kernel
theorem dX0_at_35 : decode cX0_at 35 = .ok (.ireturn, 1) := by decide +kernel
theorem dX0_add_0 : decode cX0_add 0 = .ok (.aload_n 0, 1) := by decide +kernel
theorem dX0_add_1 : decode cX0_add 1 = .ok (.getfield 21, 3) := by decide +kernel
theorem dX0_add_4 : decode cX0_add 4 = .ok (.ifCond .lt 36, 3) := by decide +kernel
theorem dX0_add_7 : decode cX0_add 7 = .ok (.aload_n 0, 1) := by decide +kernel
theorem dX0_add_8 : decode cX0_add 8 = .ok (.getfield 21, 3) := by decide +kernel
theorem dX0_add_11 : decode cX0_add 11 = .ok (.aload_n 0, 1) := by decide +kernel
theorem dX0_add_12 : decode cX0_add 12 = .ok (.getfield 15, 3) := by decide +kernel
theorem dX0_add_15 : decode cX0_add 15 = .ok (.arraylength, 1) := by decide +kernel
theorem dX0_add_16 : decode cX0_add 16 = .ok (.if_icmp .ge 24, 3) := by decide +kernel
theorem dX0_add_19 : decode cX0_add 19 = .ok (.aload_n 0, 1) := by decide +kernel
theorem dX0_add_20 : decode cX0_add 20 = .ok (.getfield 15, 3) := by decide +kernel
theorem dX0_add_23 : decode cX0_add 23 = .ok (.aload_n 0, 1) := by decide +kernel
theorem dX0_add_24 : decode cX0_add 24 = .ok (.getfield 21, 3) := by decide +kernel
theorem dX0_add_27 : decode cX0_add 27 = .ok (.iload_n 1, 1) := by decide +kernel
theorem dX0_add_28 : decode cX0_add 28 = .ok (.i2b, 1) := by decide +kernel
theorem dX0_add_29 : decode cX0_add 29 = .ok (.bastore, 1) := by decide +kernel
theorem dX0_add_30 : decode cX0_add 30 = .ok (.aload_n 0, 1) := by decide +kernel
theorem dX0_add_31 : decode cX0_add 31 = .ok (.dup, 1) := by decide +kernel
theorem dX0_add_32 : decode cX0_add 32 = .ok (.getfield 21, 3) := by decide +kernel
theorem dX0_add_35 : decode cX0_add 35 = .ok (.iconst 1, 1) := by decide +kernel
theorem dX0_add_36 : decode cX0_add 36 = .ok (.iadd, 1) := by decide +kernel
theorem dX0_add_37 : decode cX0_add 37 = .ok (.putfield 21, 3) := by decide +kernel
theorem dX0_add_40 : decode cX0_add 40 = .ok (.return_, 1) := by decide +kernel
theorem dX0_addWord_0 : decode cX0_addWord 0 = .ok (.iconst 0, 1) := by decide +kernel
theorem dX0_addWord_1 : decode cX0_addWord 1 = .ok (.istore_n 2, 1) := by decide +kernel
theorem dX0_addWord_2 : decode cX0_addWord 2 = .ok (.iload_n 2, 1) := by decide +kernel
theorem dX0_addWord_3 : decode cX0_addWord 3 = .ok (.aload_n 1, 1) := by decide +kernel
theorem dX0_addWord_4 : decode cX0_addWord 4 = .ok (.invokevirtual 25, 3) := by decide +kernel
theorem dX0_addWord_7 : decode cX0_addWord 7 = .ok (.if_icmp .ge 18, 3) := by decide +kernel
theorem dX0_addWord_10 : decode cX0_addWord 10 = .ok (.aload_n 0, 1) := by decide +kernel
theorem dX0_addWord_11 : decode cX0_addWord 11 = .ok (.aload_n 1, 1) := by decide +kernel
theorem dX0_addWord_12 : decode cX0_addWord 12 = .ok (.iload_n 2, 1) := by decide +kernel
theorem dX0_addWord_13 : decode cX0_addWord 13 = .ok (.invokevirtual 30, 3) := by decide +kernel
theorem dX0_addWord_16 : decode cX0_addWord 16 = .ok (.invokevirtual 34, 3) := by decide +kernel
theorem dX0_addWord_19 : decode cX0_addWord 19 = .ok (.iinc 2 1, 3) := by decide +kernel
theorem dX0_addWord_22 : decode cX0_addWord 22 = .ok (.goto (-20), 3) := by decide +kernel
theorem dX0_addWord_25 : decode cX0_addWord 25 = .ok (.return_, 1) := by decide +kernel
theorem dX0_startWith_0 : decode cX0_startWith 0 = .ok (.aload_n 0, 1) := by decide +kernel
theorem dX0_startWith_1 : decode cX0_startWith 1 = .ok (.iconst 0, 1) := by decide +kernel
theorem dX0_startWith_2 : decode cX0_startWith 2 = .ok (.putfield 21, 3) := by decide +kernel
theorem dX0_startWith_5 : decode cX0_startWith 5 = .ok (.iload_n 1, 1) := by decide +kernel
theorem dX0_startWith_6 : decode cX0_startWith 6 = .ok (.ifCond .eq 9, 3) := by decide +kernel
theorem dX0_startWith_9 : decode cX0_startWith 9 = .ok (.aload_n 0, 1) := by decide +kernel
theorem dX0_startWith_10 : decode cX0_startWith 10 = .ok (.bipush 45, 2) := by decide +kernel
theorem dX0_startWith_12 : decode cX0_startWith 12 = .ok (.invokevirtual 34, 3) := by decide +kernel
theorem dX0_startWith_15 : decode cX0_startWith 15 = .ok (.return_, 1) := by decide +kernel
theorem dX0_addScientific_0 : decode cX0_addScientific 0 = .ok (.aload_n 0, 1) := by decide +kernel
theorem dX0_addScientific_1 : decode cX0_addScientific 1 = .ok (.bipush 48, 2) := by decide +kernel
theorem dX0_addScientific_3 : decode cX0_addScientific 3 = .ok (.aload_n 1, 1) := by decide +kernel
theorem dX0_addScientific_4 : decode cX0_addScientific 4 = .ok (.iconst 0, 1) := by decide +kernel
theorem dX0_addScientific_5 : decode cX0_addScientific 5 = .ok (.invokevirtual 38, 3) := by decide +kernel
theorem dX0_addScientific_8 : decode cX0_addScientific 8 = .ok (.iadd, 1) := by decide +kernel
theorem dX0_addScientific_9 : decode cX0_addScientific 9 = .ok (.invokevirtual 34, 3) := by decide +kernel
theorem dX0_addScientific_12 : decode cX0_addScientific 12 = .ok (.aload_n 1, 1) := by decide +kernel
theorem dX0_addScientific_13 : decode cX0_addScientific 13 = .ok (.getfield 44, 3) := by decide +kernel
theorem dX0_addScientific_16 : decode cX0_addScientific 16 = .ok (.iconst 1, 1) := by decide +kernel
theorem dX0_addScientific_17 : decode cX0_addScientific 17 = .ok (.if_icmp .le 9, 3) := by decide +kernel
theorem dX0_addScientific_20 : decode cX0_addScientific 20 = .ok (.aload_n 0, 1) := by decide +kernel
theorem dX0_addScientific_21 : decode cX0_addScientific 21 = .ok (.bipush 46, 2) := by decide +kernel
theorem dX0_addScientific_23 : decode cX0_addScientific 23 = .ok (.invokevirtual 34, 3) := by decide +kernel
theorem dX0_addScientific_26 : decode cX0_addScientific 26 = .ok (.aload_n 0, 1) := by decide +kernel
theorem dX0_addScientific_27 : decode cX0_addScientific 27 = .ok (.aload_n 1, 1) := by decide +kernel
theorem dX0_addScientific_28 : decode cX0_addScientific 28 = .ok (.iconst 1, 1) := by decide +kernel
theorem dX0_addScientific_29 : decode cX0_addScientific 29 = .ok (.invokevirtual 47, 3) := by decide +kernel
theorem dX0_addScientific_32 : decode cX0_addScientific 32 = .ok (.aload_n 0, 1) := by decide +kernel
theorem dX0_addScientific_33 : decode cX0_addScientific 33 = .ok (.bipush 101, 2) := by decide +kernel
theorem dX0_addScientific_35 : decode cX0_addScientific 35 = .ok (.invokevirtual 34, 3) := by decide +kernel
theorem dX0_addScientific_38 : decode cX0_addScientific 38 = .ok (.aload_n 0, 1) := by decide +kernel
theorem dX0_addScientific_39 : decode cX0_addScientific 39 = .ok (.aload_n 1, 1) := by decide +kernel
theorem dX0_addScientific_40 : decode cX0_addScientific 40 = .ok (.getfield 51, 3) := by decide +kernel
theorem dX0_addScientific_43 : decode cX0_addScientific 43 = .ok (.iconst 1, 1) := by decide +kernel
theorem dX0_addScientific_44 : decode cX0_addScientific 44 = .ok (.isub, 1) := by decide +kernel
theorem dX0_addScientific_45 : decode cX0_addScientific 45 = .ok (.invokevirtual 54, 3) := by decide +kernel
theorem dX0_addScientific_48 : decode cX0_addScientific 48 = .ok (.return_, 1) := by decide +kernel
theorem dX0_addPlain_0 : decode cX0_addPlain 0 = .ok (.aload_n 1, 1) := by decide +kernel
theorem dX0_addPlain_1 : decode cX0_addPlain 1 = .ok (.getfield 51, 3) := by decide +kernel
theorem dX0_addPlain_4 : decode cX0_addPlain 4 = .ok (.iconst 1, 1) := by decide +kernel
theorem dX0_addPlain_5 : decode cX0_addPlain 5 = .ok (.if_icmp .ge 37, 3) := by decide +kernel
theorem dX0_addPlain_8 : decode cX0_addPlain 8 = .ok (.aload_n 0, 1) := by decide +kernel
theorem dX0_addPlain_9 : decode cX0_addPlain 9 = .ok (.ldc 57, 2) := by decide +kernel
theorem dX0_addPlain_11 : decode cX0_addPlain 11 = .ok (.invokevirtual 59, 3) := by decide +kernel
theorem dX0_addPlain_14 : decode cX0_addPlain 14 = .ok (.aload_n 1, 1) := by decide +kernel
theorem dX0_addPlain_15 : decode cX0_addPlain 15 = .ok (.getfield 51, 3) := by decide +kernel
theorem dX0_addPlain_18 : decode cX0_addPlain 18 = .ok (.istore_n 2, 1) := by decide +kernel
theorem dX0_addPlain_19 : decode cX0_addPlain 19 = .ok (.iload_n 2, 1) := by decide +kernel
theorem dX0_addPlain_20 : decode cX0_addPlain 20 = .ok (.ifCond .ge 15, 3) := by decide +kernel
theorem dX0_addPlain_23 : decode cX0_addPlain 23 = .ok (.aload_n 0, 1) := by decide +kernel
theorem dX0_addPlain_24 : decode cX0_addPlain 24 = .ok (.bipush 48, 2) := by decide +kernel
theorem dX0_addPlain_26 : decode cX0_addPlain 26 = .ok (.invokevirtual 34, 3) := by decide +kernel
theorem dX0_addPlain_29 : decode cX0_addPlain 29 = .ok (.iinc 2 1, 3) := by decide +kernel
theorem dX0_addPlain_32 : decode cX0_addPlain 32 = .ok (.goto (-13), 3) := by decide +kernel
theorem dX0_addPlain_35 : decode cX0_addPlain 35 = .ok (.aload_n 0, 1) := by decide +kernel
theorem dX0_addPlain_36 : decode cX0_addPlain 36 = .ok (.aload_n 1, 1) := by decide +kernel
theorem dX0_addPlain_37 : decode cX0_addPlain 37 = .ok (.iconst 0, 1) := by decide +kernel
theorem dX0_addPlain_38 : decode cX0_addPlain 38 = .ok (.invokevirtual 47, 3) := by decide +kernel
theorem dX0_addPlain_41 : decode cX0_addPlain 41 = .ok (.return_, 1) := by decide +kernel
theorem dX0_addPlain_42 : decode cX0_addPlain 42 = .ok (.iconst 0, 1) := by decide +kernel
theorem dX0_addPlain_43 : decode cX0_addPlain 43 = .ok (.istore_n 2, 1) := by decide +kernel
theorem dX0_addPlain_44 : decode cX0_addPlain 44 = .ok (.iload_n 2, 1) := by decide +kernel
theorem dX0_addPlain_45 : decode cX0_addPlain 45 = .ok (.aload_n 1, 1) := by decide +kernel
theorem dX0_addPlain_46 : decode cX0_addPlain 46 = .ok (.getfield 51, 3) := by decide +kernel
theorem dX0_addPlain_49 : decode cX0_addPlain 49 = .ok (.if_icmp .ge 21, 3) := by decide +kernel
theorem dX0_addPlain_52 : decode cX0_addPlain 52 = .ok (.aload_n 0, 1) := by decide +kernel
theorem dX0_addPlain_53 : decode cX0_addPlain 53 = .ok (.bipush 48, 2) := by decide +kernel
theorem dX0_addPlain_55 : decode cX0_addPlain 55 = .ok (.aload_n 1, 1) := by decide +kernel
theorem dX0_addPlain_56 : decode cX0_addPlain 56 = .ok (.iload_n 2, 1) := by decide +kernel
theorem dX0_addPlain_57 : decode cX0_addPlain 57 = .ok (.invokevirtual 38, 3) := by decide +kernel
theorem dX0_addPlain_60 : decode cX0_addPlain 60 = .ok (.iadd, 1) := by decide +kernel
theorem dX0_addPlain_61 : decode cX0_addPlain 61 = .ok (.invokevirtual 34, 3) := by decide +kernel
theorem dX0_addPlain_64 : decode cX0_addPlain 64 = .ok (.iinc 2 1, 3) := by decide +kernel
theorem dX0_addPlain_67 : decode cX0_addPlain 67 = .ok (.goto (-23), 3) := by decide +kernel
theorem dX0_addPlain_70 : decode cX0_addPlain 70 = .ok (.aload_n 1, 1) := by decide +kernel
theorem dX0_addPlain_71 : decode cX0_addPlain 71 = .ok (.getfield 44, 3) := by decide +kernel
theorem dX0_addPlain_74 : decode cX0_addPlain 74 = .ok (.aload_n 1, 1) := by decide +kernel
theorem dX0_addPlain_75 : decode cX0_addPlain 75 = .ok (.getfield 51, 3) := by decide +kernel
theorem dX0_addPlain_78 : decode cX0_addPlain 78 = .ok (.if_icmp .le 9, 3) := by decide +kernel
theorem dX0_addPlain_81 : decode cX0_addPlain 81 = .ok (.aload_n 0, 1) := by decide +kernel
theorem dX0_addPlain_82 : decode cX0_addPlain 82 = .ok (.bipush 46, 2) := by decide +kernel
theorem dX0_addPlain_84 : decode cX0_addPlain 84 = .ok (.invokevirtual 34, 3) := by decide +kernel
theorem dX0_addPlain_87 : decode cX0_addPlain 87 = .ok (.aload_n 0, 1) := by decide +kernel
theorem dX0_addPlain_88 : decode cX0_addPlain 88 = .ok (.aload_n 1, 1) := by decide +kernel
theorem dX0_addPlain_89 : decode cX0_addPlain 89 = .ok (.aload_n 1, 1) := by decide +kernel
theorem dX0_addPlain_90 : decode cX0_addPlain 90 = .ok (.getfield 51, 3) := by decide +kernel
theorem dX0_addPlain_93 : decode cX0_addPlain 93 = .ok (.invokevirtual 47, 3) := by decide +kernel
theorem dX0_addPlain_96 : decode cX0_addPlain 96 = .ok (.return_, 1) := by decide +kernel
theorem dX0_addDigits_0 : decode cX0_addDigits 0 = .ok (.iload_n 2, 1) := by decide +kernel
theorem dX0_addDigits_1 : decode cX0_addDigits 1 = .ok (.istore_n 3, 1) := by decide +kernel
theorem dX0_addDigits_2 : decode cX0_addDigits 2 = .ok (.iload_n 3, 1) := by decide +kernel
theorem dX0_addDigits_3 : decode cX0_addDigits 3 = .ok (.aload_n 1, 1) := by decide +kernel
theorem dX0_addDigits_4 : decode cX0_addDigits 4 = .ok (.getfield 44, 3) := by decide +kernel
theorem dX0_addDigits_7 : decode cX0_addDigits 7 = .ok (.if_icmp .ge 21, 3) := by decide +kernel
theorem dX0_addDigits_10 : decode cX0_addDigits 10 = .ok (.aload_n 0, 1) := by decide +kernel
theorem dX0_addDigits_11 : decode cX0_addDigits 11 = .ok (.bipush 48, 2) := by decide +kernel
theorem dX0_addDigits_13 : decode cX0_addDigits 13 = .ok (.aload_n 1, 1) := by decide +kernel
theorem dX0_addDigits_14 : decode cX0_addDigits 14 = .ok (.iload_n 3, 1) := by decide +kernel
theorem dX0_addDigits_15 : decode cX0_addDigits 15 = .ok (.invokevirtual 38, 3) := by decide +kernel
theorem dX0_addDigits_18 : decode cX0_addDigits 18 = .ok (.iadd, 1) := by decide +kernel
theorem dX0_addDigits_19 : decode cX0_addDigits 19 = .ok (.invokevirtual 34, 3) := by decide +kernel
theorem dX0_addDigits_22 : decode cX0_addDigits 22 = .ok (.iinc 3 1, 3) := by decide +kernel
theorem dX0_addDigits_25 : decode cX0_addDigits 25 = .ok (.goto (-23), 3) := by decide +kernel
theorem dX0_addDigits_28 : decode cX0_addDigits 28 = .ok (.return_, 1) := by decide +kernel
theorem dX0_addNumber_0 : decode cX0_addNumber 0 = .ok (.iload_n 1, 1) := by decide +kernel
theorem dX0_addNumber_1 : decode cX0_addNumber 1 = .ok (.istore_n 2, 1) := by decide +kernel
theorem dX0_addNumber_2 : decode cX0_addNumber 2 = .ok (.iload_n 1, 1) := by decide +kernel
theorem dX0_addNumber_3 : decode cX0_addNumber 3 = .ok (.ifCond .ge 12, 3) := by decide +kernel
theorem dX0_addNumber_6 : decode cX0_addNumber 6 = .ok (.aload_n 0, 1) := by decide +kernel
theorem dX0_addNumber_7 : decode cX0_addNumber 7 = .ok (.bipush 45, 2) := by decide +kernel
theorem dX0_addNumber_9 : decode cX0_addNumber 9 = .ok (.invokevirtual 34, 3) := by decide +kernel
theorem dX0_addNumber_12 : decode cX0_addNumber 12 = .ok (.iload_n 1, 1) := by decide +kernel
theorem dX0_addNumber_13 : decode cX0_addNumber 13 = .ok (.ineg, 1) := by decide +kernel
theorem dX0_addNumber_14 : decode cX0_addNumber 14 = .ok (.istore_n 2, 1) := by decide +kernel
theorem dX0_addNumber_15 : decode cX0_addNumber 15 = .ok (.sipush 1000, 3) := by decide +kernel
theorem dX0_addNumber_18 : decode cX0_addNumber 18 = .ok (.istore_n 3, 1) := by decide +kernel
theorem dX0_addNumber_19 : decode cX0_addNumber 19 = .ok (.iload_n 3, 1) := by decide +kernel
theorem dX0_addNumber_20 : decode cX0_addNumber 20 = .ok (.ifCond .le 34, 3) := by decide +kernel
theorem dX0_addNumber_23 : decode cX0_addNumber 23 = .ok (.iload_n 2, 1) := by decide +kernel
theorem dX0_addNumber_24 : decode cX0_addNumber 24 = .ok (.iload_n 3, 1) := by decide +kernel
theorem dX0_addNumber_25 : decode cX0_addNumber 25 = .ok (.if_icmp .ge 8, 3) := by decide +kernel
theorem dX0_addNumber_28 : decode cX0_addNumber 28 = .ok (.iload_n 3, 1) := by decide +kernel
theorem dX0_addNumber_29 : decode cX0_addNumber 29 = .ok (.iconst 1, 1) := by decide +kernel
theorem dX0_addNumber_30 : decode cX0_addNumber 30 = .ok (.if_icmp .ne 16, 3) := by decide +kernel
theorem dX0_addNumber_33 : decode cX0_addNumber 33 = .ok (.aload_n 0, 1) := by decide +kernel
theorem dX0_addNumber_34 : decode cX0_addNumber 34 = .ok (.bipush 48, 2) := by decide +kernel
theorem dX0_addNumber_36 : decode cX0_addNumber 36 = .ok (.iload_n 2, 1) := by decide +kernel
theorem dX0_addNumber_37 : decode cX0_addNumber 37 = .ok (.iload_n 3, 1) := by decide +kernel
theorem dX0_addNumber_38 : decode cX0_addNumber 38 = .ok (.idiv, 1) := by decide +kernel
theorem dX0_addNumber_39 : decode cX0_addNumber 39 = .ok (.bipush 10, 2) := by decide +kernel
theorem dX0_addNumber_41 : decode cX0_addNumber 41 = .ok (.irem, 1) := by decide +kernel
theorem dX0_addNumber_42 : decode cX0_addNumber 42 = .ok (.iadd, 1) := by decide +kernel
theorem dX0_addNumber_43 : decode cX0_addNumber 43 = .ok (.invokevirtual 34, 3) := by decide +kernel
theorem dX0_addNumber_46 : decode cX0_addNumber 46 = .ok (.iload_n 3, 1) := by decide +kernel
theorem dX0_addNumber_47 : decode cX0_addNumber 47 = .ok (.bipush 10, 2) := by decide +kernel
theorem dX0_addNumber_49 : decode cX0_addNumber 49 = .ok (.idiv, 1) := by decide +kernel
theorem dX0_addNumber_50 : decode cX0_addNumber 50 = .ok (.istore_n 3, 1) := by decide +kernel
theorem dX0_addNumber_51 : decode cX0_addNumber 51 = .ok (.goto (-32), 3) := by decide +kernel
theorem dX0_addNumber_54 : decode cX0_addNumber 54 = .ok (.return_, 1) := by decide +kernel
theorem dX0_addHexadecimal_0 : decode cX0_addHexadecimal 0 = .ok (.lload_n 1, 1) := by decide +kernel
theorem dX0_addHexadecimal_1 : decode cX0_addHexadecimal 1 = .ok (.lconst 0, 1) := by decide +kernel
theorem dX0_addHexadecimal_2 : decode cX0_addHexadecimal 2 = .ok (.lcmp, 1) := by decide +kernel
theorem dX0_addHexadecimal_3 : decode cX0_addHexadecimal 3 = .ok (.ifCond .ne 10, 3) := by decide +kernel
theorem dX0_addHexadecimal_6 : decode cX0_addHexadecimal 6 = .ok (.aload_n 0, 1) := by decide +kernel
theorem dX0_addHexadecimal_7 : decode cX0_addHexadecimal 7 = .ok (.ldc 63, 2) := by decide +kernel
theorem dX0_addHexadecimal_9 : decode cX0_addHexadecimal 9 = .ok (.invokevirtual 59, 3) := by decide +kernel
theorem dX0_addHexadecimal_12 : decode cX0_addHexadecimal 12 = .ok (.return_, 1) := by decide +kernel
theorem dX0_addHexadecimal_13 : decode cX0_addHexadecimal 13 = .ok (.lload_n 1, 1) := by decide +kernel
theorem dX0_addHexadecimal_14 : decode cX0_addHexadecimal 14 = .ok (.invokestatic 65, 3) := by decide +kernel
theorem dX0_addHexadecimal_17 : decode cX0_addHexadecimal 17 = .ok (.istore 4, 2) := by decide +kernel
theorem dX0_addHexadecimal_19 : decode cX0_addHexadecimal 19 = .ok (.aload_n 0, 1) := by decide +kernel
theorem dX0_addHexadecimal_20 : decode cX0_addHexadecimal 20 = .ok (.ldc 71, 2) := by decide +kernel
theorem dX0_addHexadecimal_22 : decode cX0_addHexadecimal 22 = .ok (.invokevirtual 59, 3) := by decide +kernel
theorem dX0_addHexadecimal_25 : decode cX0_addHexadecimal 25 = .ok (.lload_n 1, 1) := by decide +kernel
theorem dX0_addHexadecimal_26 : decode cX0_addHexadecimal 26 = .ok (.bipush 64, 2) := by decide +kernel
theorem dX0_addHexadecimal_28 : decode cX0_addHexadecimal 28 = .ok (.iload 4, 2) := by decide +kernel
theorem dX0_addHexadecimal_30 : decode cX0_addHexadecimal 30 = .ok (.isub, 1) := by decide +kernel
theorem dX0_addHexadecimal_31 : decode cX0_addHexadecimal 31 = .ok (.lshl, 1) := by decide +kernel
theorem dX0_addHexadecimal_32 : decode cX0_addHexadecimal 32 = .ok (.iconst 1, 1) := by decide +kernel
theorem dX0_addHexadecimal_33 : decode cX0_addHexadecimal 33 = .ok (.lshl, 1) := by decide +kernel
theorem dX0_addHexadecimal_34 : decode cX0_addHexadecimal 34 = .ok (.lstore 5, 2) := by decide +kernel
theorem dX0_addHexadecimal_36 : decode cX0_addHexadecimal 36 = .ok (.lload 5, 2) := by decide +kernel
theorem dX0_addHexadecimal_38 : decode cX0_addHexadecimal 38 = .ok (.lconst 0, 1) := by decide +kernel
theorem dX0_addHexadecimal_39 : decode cX0_addHexadecimal 39 = .ok (.lcmp, 1) := by decide +kernel
theorem dX0_addHexadecimal_40 : decode cX0_addHexadecimal 40 = .ok (.ifCond .eq 9, 3) := by decide +kernel
theorem dX0_addHexadecimal_43 : decode cX0_addHexadecimal 43 = .ok (.aload_n 0, 1) := by decide +kernel
theorem dX0_addHexadecimal_44 : decode cX0_addHexadecimal 44 = .ok (.bipush 46, 2) := by decide +kernel
theorem dX0_addHexadecimal_46 : decode cX0_addHexadecimal 46 = .ok (.invokevirtual 34, 3) := by decide +kernel
theorem dX0_addHexadecimal_49 : decode cX0_addHexadecimal 49 = .ok (.iconst 0, 1) := by decide +kernel
theorem dX0_addHexadecimal_50 : decode cX0_addHexadecimal 50 = .ok (.istore 7, 2) := by decide +kernel
theorem dX0_addHexadecimal_52 : decode cX0_addHexadecimal 52 = .ok (.iload 7, 2) := by decide +kernel
theorem dX0_addHexadecimal_54 : decode cX0_addHexadecimal 54 = .ok (.bipush 16, 2) := by decide +kernel
theorem dX0_addHexadecimal_56 : decode cX0_addHexadecimal 56 = .ok (.if_icmp .ge 57, 3) := by decide +kernel
theorem dX0_addHexadecimal_59 : decode cX0_addHexadecimal 59 = .ok (.lload 5, 2) := by decide +kernel
theorem dX0_addHexadecimal_61 : decode cX0_addHexadecimal 61 = .ok (.lconst 0, 1) := by decide +kernel
theorem dX0_addHexadecimal_62 : decode cX0_addHexadecimal 62 = .ok (.lcmp, 1) := by decide +kernel
theorem dX0_addHexadecimal_63 : decode cX0_addHexadecimal 63 = .ok (.ifCond .eq 50, 3) := by decide +kernel
theorem dX0_addHexadecimal_66 : decode cX0_addHexadecimal 66 = .ok (.lload 5, 2) := by decide +kernel
theorem dX0_addHexadecimal_68 : decode cX0_addHexadecimal 68 = .ok (.bipush 60, 2) := by decide +kernel
theorem dX0_addHexadecimal_70 : decode cX0_addHexadecimal 70 = .ok (.lushr, 1) := by decide +kernel
theorem dX0_addHexadecimal_71 : decode cX0_addHexadecimal 71 = .ok (.l2i, 1) := by decide +kernel
theorem dX0_addHexadecimal_72 : decode cX0_addHexadecimal 72 = .ok (.istore 8, 2) := by decide +kernel
theorem dX0_addHexadecimal_74 : decode cX0_addHexadecimal 74 = .ok (.aload_n 0, 1) := by decide +kernel
theorem dX0_addHexadecimal_75 : decode cX0_addHexadecimal 75 = .ok (.iload 8, 2) := by decide +kernel
theorem dX0_addHexadecimal_77 : decode cX0_addHexadecimal 77 = .ok (.bipush 10, 2) := by decide +kernel
theorem dX0_addHexadecimal_79 : decode cX0_addHexadecimal 79 = .ok (.if_icmp .ge 11, 3) := by decide +kernel
theorem dX0_addHexadecimal_82 : decode cX0_addHexadecimal 82 = .ok (.bipush 48, 2) := by decide +kernel
theorem dX0_addHexadecimal_84 : decode cX0_addHexadecimal 84 = .ok (.iload 8, 2) := by decide +kernel
theorem dX0_addHexadecimal_86 : decode cX0_addHexadecimal 86 = .ok (.iadd, 1) := by decide +kernel
theorem dX0_addHexadecimal_87 : decode cX0_addHexadecimal 87 = .ok (.goto 11, 3) := by decide +kernel
theorem dX0_addHexadecimal_90 : decode cX0_addHexadecimal 90 = .ok (.bipush 97, 2) := by decide +kernel
theorem dX0_addHexadecimal_92 : decode cX0_addHexadecimal 92 = .ok (.iload 8, 2) := by decide +kernel
theorem dX0_addHexadecimal_94 : decode cX0_addHexadecimal 94 = .ok (.iadd, 1) := by decide +kernel
theorem dX0_addHexadecimal_95 : decode cX0_addHexadecimal 95 = .ok (.bipush 10, 2) := by decide +kernel
theorem dX0_addHexadecimal_97 : decode cX0_addHexadecimal 97 = .ok (.isub, 1) := by decide +kernel
theorem dX0_addHexadecimal_98 : decode cX0_addHexadecimal 98 = .ok (.invokevirtual 34, 3) := by decide +kernel
theorem dX0_addHexadecimal_101 : decode cX0_addHexadecimal 101 = .ok (.lload 5, 2) := by decide +kernel
theorem dX0_addHexadecimal_103 : decode cX0_addHexadecimal 103 = .ok (.iconst 4, 1) := by decide +kernel
theorem dX0_addHexadecimal_104 : decode cX0_addHexadecimal 104 = .ok (.lshl, 1) := by decide +kernel
theorem dX0_addHexadecimal_105 : decode cX0_addHexadecimal 105 = .ok (.lstore 5, 2) := by decide +kernel
theorem dX0_addHexadecimal_107 : decode cX0_addHexadecimal 107 = .ok (.iinc 7 1, 3) := by decide +kernel
theorem dX0_addHexadecimal_110 : decode cX0_addHexadecimal 110 = .ok (.goto (-58), 3) := by decide +kernel
theorem dX0_addHexadecimal_113 : decode cX0_addHexadecimal 113 = .ok (.aload_n 0, 1) := by decide +kernel
theorem dX0_addHexadecimal_114 : decode cX0_addHexadecimal 114 = .ok (.bipush 112, 2) := by decide +kernel
theorem dX0_addHexadecimal_116 : decode cX0_addHexadecimal 116 = .ok (.invokevirtual 34, 3) := by decide +kernel
theorem dX0_addHexadecimal_119 : decode cX0_addHexadecimal 119 = .ok (.aload_n 0, 1) := by decide +kernel
theorem dX0_addHexadecimal_120 : decode cX0_addHexadecimal 120 = .ok (.iload_n 3, 1) := by decide +kernel
theorem dX0_addHexadecimal_121 : decode cX0_addHexadecimal 121 = .ok (.iload 4, 2) := by decide +kernel
theorem dX0_addHexadecimal_123 : decode cX0_addHexadecimal 123 = .ok (.iadd, 1) := by decide +kernel
theorem dX0_addHexadecimal_124 : decode cX0_addHexadecimal 124 = .ok (.iconst 1, 1) := by decide +kernel
theorem dX0_addHexadecimal_125 : decode cX0_addHexadecimal 125 = .ok (.isub, 1) := by decide +kernel
theorem dX0_addHexadecimal_126 : decode cX0_addHexadecimal 126 = .ok (.invokevirtual 54, 3) := by decide +kernel
theorem dX0_addHexadecimal_129 : decode cX0_addHexadecimal 129 = .ok (.return_, 1) := by decide +kernel
theorem dX1_init_0 : decode cX1_init 0 = .ok (.aload_n 0, 1) := by decide +kernel
theorem dX1_init_1 : decode cX1_init 1 = .ok (.invokespecial 1, 3) := by decide +kernel
theorem dX1_init_4 : decode cX1_init 4 = .ok (.aload_n 0, 1) := by decide +kernel
theorem dX1_init_5 : decode cX1_init 5 = .ok (.sipush 1420, 3) := by decide +kernel
theorem dX1_init_8 : decode cX1_init 8 = .ok (.newarray .byte, 2) := by decide +kernel
theorem dX1_init_10 : decode cX1_init 10 = .ok (.putfield 9, 3) := by decide +kernel
theorem dX1_init_13 : decode cX1_init 13 = .ok (.aload_n 0, 1) := by decide +kernel
theorem dX1_init_14 : decode cX1_init 14 = .ok (.iconst 0, 1) := by decide +kernel
theorem dX1_init_15 : decode cX1_init 15 = .ok (.putfield 13, 3) := by decide +kernel
theorem dX1_init_18 : decode cX1_init 18 = .ok (.aload_n 0, 1) := by decide +kernel
theorem dX1_init_19 : decode cX1_init 19 = .ok (.iconst 0, 1) := by decide +kernel
theorem dX1_init_20 : decode cX1_init 20 = .ok (.putfield 17, 3) := by decide +kernel
theorem dX1_init_23 : decode cX1_init 23 = .ok (.aload_n 0, 1) := by decide +kernel
theorem dX1_init_24 : decode cX1_init 24 = .ok (.iconst 0, 1) := by decide +kernel
theorem dX1_init_25 : decode cX1_init 25 = .ok (.putfield 21, 3) := by decide +kernel
theorem dX1_init_28 : decode cX1_init 28 = .ok (.return_, 1) := by decide +kernel
theorem dX1_takeNone_0 : decode cX1_takeNone 0 = .ok (.aload_n 0, 1) := by decide +kernel
theorem dX1_takeNone_1 : decode cX1_takeNone 1 = .ok (.iload_n 1, 1) := by decide +kernel
theorem dX1_takeNone_2 : decode cX1_takeNone 2 = .ok (.putfield 13, 3) := by decide +kernel
theorem dX1_takeNone_5 : decode cX1_takeNone 5 = .ok (.aload_n 0, 1) := by decide +kernel
theorem dX1_takeNone_6 : decode cX1_takeNone 6 = .ok (.iconst 0, 1) := by decide +kernel
theorem dX1_takeNone_7 : decode cX1_takeNone 7 = .ok (.putfield 17, 3) := by decide +kernel
theorem dX1_takeNone_10 : decode cX1_takeNone 10 = .ok (.aload_n 0, 1) := by decide +kernel
theorem dX1_takeNone_11 : decode cX1_takeNone 11 = .ok (.iconst 0, 1) := by decide +kernel
theorem dX1_takeNone_12 : decode cX1_takeNone 12 = .ok (.putfield 21, 3) := by decide +kernel
theorem dX1_takeNone_15 : decode cX1_takeNone 15 = .ok (.return_, 1) := by decide +kernel
theorem dX1_take_0 : decode cX1_take 0 = .ok (.aload_n 0, 1) := by decide +kernel
theorem dX1_take_1 : decode cX1_take 1 = .ok (.iload_n 2, 1) := by decide +kernel
theorem dX1_take_2 : decode cX1_take 2 = .ok (.putfield 13, 3) := by decide +kernel
theorem dX1_take_5 : decode cX1_take 5 = .ok (.aload_n 0, 1) := by decide +kernel
theorem dX1_take_6 : decode cX1_take 6 = .ok (.iload_n 3, 1) := by decide +kernel
theorem dX1_take_7 : decode cX1_take 7 = .ok (.sipush 1420, 3) := by decide +kernel
theorem dX1_take_10 : decode cX1_take 10 = .ok (.invokestatic 24, 3) := by decide +kernel
theorem dX1_take_13 : decode cX1_take 13 = .ok (.putfield 17, 3) := by decide +kernel
theorem dX1_take_16 : decode cX1_take 16 = .ok (.aload_n 0, 1) := by decide +kernel
theorem dX1_take_17 : decode cX1_take 17 = .ok (.aload_n 1, 1) := by decide +kernel
theorem dX1_take_18 : decode cX1_take 18 = .ok (.invokevirtual 30, 3) := by decide +kernel
theorem dX1_take_21 : decode cX1_take 21 = .ok (.putfield 21, 3) := by decide +kernel
theorem dX1_take_24 : decode cX1_take 24 = .ok (.aload_n 1, 1) := by decide +kernel
theorem dX1_take_25 : decode cX1_take 25 = .ok (.aload_n 0, 1) := by decide +kernel
theorem dX1_take_26 : decode cX1_take 26 = .ok (.getfield 9, 3) := by decide +kernel
theorem dX1_take_29 : decode cX1_take 29 = .ok (.aload_n 0, 1) := by decide +kernel
theorem dX1_take_30 : decode cX1_take 30 = .ok (.getfield 17, 3) := by decide +kernel
theorem dX1_take_33 : decode cX1_take 33 = .ok (.invokevirtual 35, 3) := by decide +kernel
theorem dX1_take_36 : decode cX1_take 36 = .ok (.return_, 1) := by decide +kernel
theorem dX1_digitAt_0 : decode cX1_digitAt 0 = .ok (.iload_n 1, 1) := by decide +kernel
theorem dX1_digitAt_1 : decode cX1_digitAt 1 = .ok (.ifCond .lt 18, 3) := by decide +kernel
theorem dX1_digitAt_4 : decode cX1_digitAt 4 = .ok (.iload_n 1, 1) := by decide +kernel
theorem dX1_digitAt_5 : decode cX1_digitAt 5 = .ok (.aload_n 0, 1) := by decide +kernel
theorem dX1_digitAt_6 : decode cX1_digitAt 6 = .ok (.getfield 17, 3) := by decide +kernel
theorem dX1_digitAt_9 : decode cX1_digitAt 9 = .ok (.if_icmp .ge 10, 3) := by decide +kernel
theorem dX1_digitAt_12 : decode cX1_digitAt 12 = .ok (.iload_n 1, 1) := by decide +kernel
theorem dX1_digitAt_13 : decode cX1_digitAt 13 = .ok (.sipush 1420, 3) := by decide +kernel
theorem dX1_digitAt_16 : decode cX1_digitAt 16 = .ok (.if_icmp .lt 7, 3) := by decide +kernel
theorem dX1_digitAt_19 : decode cX1_digitAt 19 = .ok (.iconst 0, 1) := by decide +kernel
theorem dX1_digitAt_20 : decode cX1_digitAt 20 = .ok (.goto 9, 3) := by decide +kernel
theorem dX1_digitAt_23 : decode cX1_digitAt 23 = .ok (.aload_n 0, 1) := by decide +kernel
theorem dX1_digitAt_24 : decode cX1_digitAt 24 = .ok (.getfield 9, 3) := by decide +kernel
theorem dX1_digitAt_27 : decode cX1_digitAt 27 = .ok (.iload_n 1, 1) := by decide +kernel
theorem dX1_digitAt_28 : decode cX1_digitAt 28 = .ok (.baload, 1) := by decide +kernel
theorem dX1_digitAt_29 : decode cX1_digitAt 29 = .ok (.ireturn, 1) := by decide +kernel
theorem dX2_owns_0 : decode cX2_owns 0 = .ok (.aload_n 0, 1) := by decide +kernel
theorem dX2_owns_1 : decode cX2_owns 1 = .ok (.getfield 35, 3) := by decide +kernel
theorem dX2_owns_4 : decode cX2_owns 4 = .ok (.bipush 64, 2) := by decide +kernel
theorem dX2_owns_6 : decode cX2_owns 6 = .ok (.if_icmp .eq 14, 3) := by decide +kernel
theorem dX2_owns_9 : decode cX2_owns 9 = .ok (.lload_n 1, 1) := by decide +kernel
theorem dX2_owns_10 : decode cX2_owns 10 = .ok (.aload_n 0, 1) := by decide +kernel
theorem dX2_owns_11 : decode cX2_owns 11 = .ok (.getfield 35, 3) := by decide +kernel
theorem dX2_owns_14 : decode cX2_owns 14 = .ok (.lushr, 1) := by decide +kernel
theorem dX2_owns_15 : decode cX2_owns 15 = .ok (.lconst 0, 1) := by decide +kernel
theorem dX2_owns_16 : decode cX2_owns 16 = .ok (.lcmp, 1) := by decide +kernel
theorem dX2_owns_17 : decode cX2_owns 17 = .ok (.ifCond .ne 7, 3) := by decide +kernel
theorem dX2_owns_20 : decode cX2_owns 20 = .ok (.iconst 1, 1) := by decide +kernel
theorem dX2_owns_21 : decode cX2_owns 21 = .ok (.goto 4, 3) := by decide +kernel
theorem dX2_owns_24 : decode cX2_owns 24 = .ok (.iconst 0, 1) := by decide +kernel
theorem dX2_owns_25 : decode cX2_owns 25 = .ok (.ireturn, 1) := by decide +kernel
theorem dX2_signBit_0 : decode cX2_signBit 0 = .ok (.lconst 1, 1) := by decide +kernel
theorem dX2_signBit_1 : decode cX2_signBit 1 = .ok (.aload_n 0, 1) := by decide +kernel
theorem dX2_signBit_2 : decode cX2_signBit 2 = .ok (.getfield 35, 3) := by decide +kernel
theorem dX2_signBit_5 : decode cX2_signBit 5 = .ok (.iconst 1, 1) := by decide +kernel
theorem dX2_signBit_6 : decode cX2_signBit 6 = .ok (.isub, 1) := by decide +kernel
theorem dX2_signBit_7 : decode cX2_signBit 7 = .ok (.lshl, 1) := by decide +kernel
theorem dX2_signBit_8 : decode cX2_signBit 8 = .ok (.lreturn, 1) := by decide +kernel
theorem dX2_hiddenBit_0 : decode cX2_hiddenBit 0 = .ok (.lconst 1, 1) := by decide +kernel
theorem dX2_hiddenBit_1 : decode cX2_hiddenBit 1 = .ok (.aload_n 0, 1) := by decide +kernel
theorem dX2_hiddenBit_2 : decode cX2_hiddenBit 2 = .ok (.getfield 39, 3) := by decide +kernel
theorem dX2_hiddenBit_5 : decode cX2_hiddenBit 5 = .ok (.iconst 1, 1) := by decide +kernel
theorem dX2_hiddenBit_6 : decode cX2_hiddenBit 6 = .ok (.isub, 1) := by decide +kernel
theorem dX2_hiddenBit_7 : decode cX2_hiddenBit 7 = .ok (.lshl, 1) := by decide +kernel
theorem dX2_hiddenBit_8 : decode cX2_hiddenBit 8 = .ok (.lreturn, 1) := by decide +kernel
theorem dX2_infinite_0 : decode cX2_infinite 0 = .ok (.aload_n 0, 1) := by decide +kernel
theorem dX2_infinite_1 : decode cX2_infinite 1 = .ok (.invokevirtual 45, 3) := by decide +kernel
theorem dX2_infinite_4 : decode cX2_infinite 4 = .ok (.aload_n 0, 1) := by decide +kernel
theorem dX2_infinite_5 : decode cX2_infinite 5 = .ok (.invokevirtual 49, 3) := by decide +kernel
theorem dX2_infinite_8 : decode cX2_infinite 8 = .ok (.lsub, 1) := by decide +kernel
theorem dX2_infinite_9 : decode cX2_infinite 9 = .ok (.lreturn, 1) := by decide +kernel
theorem dX2_isMinus_0 : decode cX2_isMinus 0 = .ok (.lload_n 1, 1) := by decide +kernel
theorem dX2_isMinus_1 : decode cX2_isMinus 1 = .ok (.aload_n 0, 1) := by decide +kernel
theorem dX2_isMinus_2 : decode cX2_isMinus 2 = .ok (.invokevirtual 45, 3) := by decide +kernel
theorem dX2_isMinus_5 : decode cX2_isMinus 5 = .ok (.land, 1) := by decide +kernel
theorem dX2_isMinus_6 : decode cX2_isMinus 6 = .ok (.lconst 0, 1) := by decide +kernel
theorem dX2_isMinus_7 : decode cX2_isMinus 7 = .ok (.lcmp, 1) := by decide +kernel
theorem dX2_isMinus_8 : decode cX2_isMinus 8 = .ok (.ifCond .eq 7, 3) := by decide +kernel
theorem dX2_isMinus_11 : decode cX2_isMinus 11 = .ok (.iconst 1, 1) := by decide +kernel
theorem dX2_isMinus_12 : decode cX2_isMinus 12 = .ok (.goto 4, 3) := by decide +kernel
theorem dX2_isMinus_15 : decode cX2_isMinus 15 = .ok (.iconst 0, 1) := by decide +kernel
theorem dX2_isMinus_16 : decode cX2_isMinus 16 = .ok (.ireturn, 1) := by decide +kernel
theorem dX2_sizeOf_0 : decode cX2_sizeOf 0 = .ok (.lload_n 1, 1) := by decide +kernel
theorem dX2_sizeOf_1 : decode cX2_sizeOf 1 = .ok (.aload_n 0, 1) := by decide +kernel
theorem dX2_sizeOf_2 : decode cX2_sizeOf 2 = .ok (.invokevirtual 45, 3) := by decide +kernel
theorem dX2_sizeOf_5 : decode cX2_sizeOf 5 = .ok (.lconst 1, 1) := by decide +kernel
theorem dX2_sizeOf_6 : decode cX2_sizeOf 6 = .ok (.lsub, 1) := by decide +kernel
theorem dX2_sizeOf_7 : decode cX2_sizeOf 7 = .ok (.land, 1) := by decide +kernel
theorem dX2_sizeOf_8 : decode cX2_sizeOf 8 = .ok (.lreturn, 1) := by decide +kernel
theorem dX2_signed_0 : decode cX2_signed 0 = .ok (.iload_n 1, 1) := by decide +kernel
theorem dX2_signed_1 : decode cX2_signed 1 = .ok (.ifCond .eq 12, 3) := by decide +kernel
theorem dX2_signed_4 : decode cX2_signed 4 = .ok (.lload_n 2, 1) := by decide +kernel
theorem dX2_signed_5 : decode cX2_signed 5 = .ok (.aload_n 0, 1) := by decide +kernel
theorem dX2_signed_6 : decode cX2_signed 6 = .ok (.invokevirtual 45, 3) := by decide +kernel
theorem dX2_signed_9 : decode cX2_signed 9 = .ok (.lor, 1) := by decide +kernel
theorem dX2_signed_10 : decode cX2_signed 10 = .ok (.goto 4, 3) := by decide +kernel
theorem dX2_signed_13 : decode cX2_signed 13 = .ok (.lload_n 2, 1) := by decide +kernel
theorem dX2_signed_14 : decode cX2_signed 14 = .ok (.lreturn, 1) := by decide +kernel
theorem dX2_isZero_0 : decode cX2_isZero 0 = .ok (.aload_n 0, 1) := by decide +kernel
theorem dX2_isZero_1 : decode cX2_isZero 1 = .ok (.lload_n 1, 1) := by decide +kernel
theorem dX2_isZero_2 : decode cX2_isZero 2 = .ok (.invokevirtual 52, 3) := by decide +kernel
theorem dX2_isZero_5 : decode cX2_isZero 5 = .ok (.lconst 0, 1) := by decide +kernel
theorem dX2_isZero_6 : decode cX2_isZero 6 = .ok (.lcmp, 1) := by decide +kernel
theorem dX2_isZero_7 : decode cX2_isZero 7 = .ok (.ifCond .ne 7, 3) := by decide +kernel
theorem dX2_isZero_10 : decode cX2_isZero 10 = .ok (.iconst 1, 1) := by decide +kernel
theorem dX2_isZero_11 : decode cX2_isZero 11 = .ok (.goto 4, 3) := by decide +kernel
theorem dX2_isZero_14 : decode cX2_isZero 14 = .ok (.iconst 0, 1) := by decide +kernel
theorem dX2_isZero_15 : decode cX2_isZero 15 = .ok (.ireturn, 1) := by decide +kernel
theorem dX2_isFinite_0 : decode cX2_isFinite 0 = .ok (.aload_n 0, 1) := by decide +kernel
theorem dX2_isFinite_1 : decode cX2_isFinite 1 = .ok (.lload_n 1, 1) := by decide +kernel
theorem dX2_isFinite_2 : decode cX2_isFinite 2 = .ok (.invokevirtual 52, 3) := by decide +kernel
theorem dX2_isFinite_5 : decode cX2_isFinite 5 = .ok (.aload_n 0, 1) := by decide +kernel
theorem dX2_isFinite_6 : decode cX2_isFinite 6 = .ok (.invokevirtual 56, 3) := by decide +kernel
theorem dX2_isFinite_9 : decode cX2_isFinite 9 = .ok (.lcmp, 1) := by decide +kernel
theorem dX2_isFinite_10 : decode cX2_isFinite 10 = .ok (.ifCond .ge 7, 3) := by decide +kernel
theorem dX2_isFinite_13 : decode cX2_isFinite 13 = .ok (.iconst 1, 1) := by decide +kernel
theorem dX2_isFinite_14 : decode cX2_isFinite 14 = .ok (.goto 4, 3) := by decide +kernel
theorem dX2_isFinite_17 : decode cX2_isFinite 17 = .ok (.iconst 0, 1) := by decide +kernel
theorem dX2_isFinite_18 : decode cX2_isFinite 18 = .ok (.ireturn, 1) := by decide +kernel
theorem dX2_isNan_0 : decode cX2_isNan 0 = .ok (.aload_n 0, 1) := by decide +kernel
theorem dX2_isNan_1 : decode cX2_isNan 1 = .ok (.lload_n 1, 1) := by decide +kernel
theorem dX2_isNan_2 : decode cX2_isNan 2 = .ok (.invokevirtual 52, 3) := by decide +kernel
theorem dX2_isNan_5 : decode cX2_isNan 5 = .ok (.aload_n 0, 1) := by decide +kernel
theorem dX2_isNan_6 : decode cX2_isNan 6 = .ok (.invokevirtual 56, 3) := by decide +kernel
theorem dX2_isNan_9 : decode cX2_isNan 9 = .ok (.lcmp, 1) := by decide +kernel
theorem dX2_isNan_10 : decode cX2_isNan 10 = .ok (.ifCond .le 7, 3) := by decide +kernel
theorem dX2_isNan_13 : decode cX2_isNan 13 = .ok (.iconst 1, 1) := by decide +kernel
theorem dX2_isNan_14 : decode cX2_isNan 14 = .ok (.goto 4, 3) := by decide +kernel
theorem dX2_isNan_17 : decode cX2_isNan 17 = .ok (.iconst 0, 1) := by decide +kernel
theorem dX2_isNan_18 : decode cX2_isNan 18 = .ok (.ireturn, 1) := by decide +kernel
theorem dX2_exponentOf_0 : decode cX2_exponentOf 0 = .ok (.aload_n 0, 1) := by decide +kernel
theorem dX2_exponentOf_1 : decode cX2_exponentOf 1 = .ok (.lload_n 1, 1) := by decide +kernel
theorem dX2_exponentOf_2 : decode cX2_exponentOf 2 = .ok (.invokevirtual 52, 3) := by decide +kernel
theorem dX2_exponentOf_5 : decode cX2_exponentOf 5 = .ok (.aload_n 0, 1) := by decide +kernel
theorem dX2_exponentOf_6 : decode cX2_exponentOf 6 = .ok (.getfield 39, 3) := by decide +kernel
theorem dX2_exponentOf_9 : decode cX2_exponentOf 9 = .ok (.iconst 1, 1) := by decide +kernel
theorem dX2_exponentOf_10 : decode cX2_exponentOf 10 = .ok (.isub, 1) := by decide +kernel
theorem dX2_exponentOf_11 : decode cX2_exponentOf 11 = .ok (.lushr, 1) := by decide +kernel
theorem dX2_exponentOf_12 : decode cX2_exponentOf 12 = .ok (.l2i, 1) := by decide +kernel
theorem dX2_exponentOf_13 : decode cX2_exponentOf 13 = .ok (.ireturn, 1) := by decide +kernel
theorem dX2_fractionOf_0 : decode cX2_fractionOf 0 = .ok (.lload_n 1, 1) := by decide +kernel
theorem dX2_fractionOf_1 : decode cX2_fractionOf 1 = .ok (.aload_n 0, 1) := by decide +kernel
theorem dX2_fractionOf_2 : decode cX2_fractionOf 2 = .ok (.invokevirtual 49, 3) := by decide +kernel
theorem dX2_fractionOf_5 : decode cX2_fractionOf 5 = .ok (.lconst 1, 1) := by decide +kernel
theorem dX2_fractionOf_6 : decode cX2_fractionOf 6 = .ok (.lsub, 1) := by decide +kernel
theorem dX2_fractionOf_7 : decode cX2_fractionOf 7 = .ok (.land, 1) := by decide +kernel
theorem dX2_fractionOf_8 : decode cX2_fractionOf 8 = .ok (.lreturn, 1) := by decide +kernel
theorem dX2_wholeOf_0 : decode cX2_wholeOf 0 = .ok (.aload_n 0, 1) := by decide +kernel
theorem dX2_wholeOf_1 : decode cX2_wholeOf 1 = .ok (.lload_n 1, 1) := by decide +kernel
theorem dX2_wholeOf_2 : decode cX2_wholeOf 2 = .ok (.invokevirtual 59, 3) := by decide +kernel
theorem dX2_wholeOf_5 : decode cX2_wholeOf 5 = .ok (.ifCond .ne 11, 3) := by decide +kernel
theorem dX2_wholeOf_8 : decode cX2_wholeOf 8 = .ok (.aload_n 0, 1) := by decide +kernel
theorem dX2_wholeOf_9 : decode cX2_wholeOf 9 = .ok (.lload_n 1, 1) := by decide +kernel
theorem dX2_wholeOf_10 : decode cX2_wholeOf 10 = .ok (.invokevirtual 63, 3) := by decide +kernel
theorem dX2_wholeOf_13 : decode cX2_wholeOf 13 = .ok (.goto 13, 3) := by decide +kernel
theorem dX2_wholeOf_16 : decode cX2_wholeOf 16 = .ok (.aload_n 0, 1) := by decide +kernel
theorem dX2_wholeOf_17 : decode cX2_wholeOf 17 = .ok (.invokevirtual 49, 3) := by decide +kernel
theorem dX2_wholeOf_20 : decode cX2_wholeOf 20 = .ok (.aload_n 0, 1) := by decide +kernel
theorem dX2_wholeOf_21 : decode cX2_wholeOf 21 = .ok (.lload_n 1, 1) := by decide +kernel
theorem dX2_wholeOf_22 : decode cX2_wholeOf 22 = .ok (.invokevirtual 63, 3) := by decide +kernel
theorem dX2_wholeOf_25 : decode cX2_wholeOf 25 = .ok (.ladd, 1) := by decide +kernel
theorem dX2_wholeOf_26 : decode cX2_wholeOf 26 = .ok (.lreturn, 1) := by decide +kernel
theorem dX2_unitOf_0 : decode cX2_unitOf 0 = .ok (.aload_n 0, 1) := by decide +kernel
theorem dX2_unitOf_1 : decode cX2_unitOf 1 = .ok (.invokevirtual 66, 3) := by decide +kernel
theorem dX2_unitOf_4 : decode cX2_unitOf 4 = .ok (.aload_n 0, 1) := by decide +kernel
theorem dX2_unitOf_5 : decode cX2_unitOf 5 = .ok (.lload_n 1, 1) := by decide +kernel
theorem dX2_unitOf_6 : decode cX2_unitOf 6 = .ok (.invokevirtual 59, 3) := by decide +kernel
theorem dX2_unitOf_9 : decode cX2_unitOf 9 = .ok (.iconst 1, 1) := by decide +kernel
theorem dX2_unitOf_10 : decode cX2_unitOf 10 = .ok (.isub, 1) := by decide +kernel
theorem dX2_unitOf_11 : decode cX2_unitOf 11 = .ok (.iconst 0, 1) := by decide +kernel
theorem dX2_unitOf_12 : decode cX2_unitOf 12 = .ok (.invokestatic 70, 3) := by decide +kernel
theorem dX2_unitOf_15 : decode cX2_unitOf 15 = .ok (.iadd, 1) := by decide +kernel
theorem dX2_unitOf_16 : decode cX2_unitOf 16 = .ok (.ireturn, 1) := by decide +kernel
theorem dX2_leastUnit_0 : decode cX2_leastUnit 0 = .ok (.iconst 2, 1) := by decide +kernel
theorem dX2_leastUnit_1 : decode cX2_leastUnit 1 = .ok (.aload_n 0, 1) := by decide +kernel
theorem dX2_leastUnit_2 : decode cX2_leastUnit 2 = .ok (.getfield 42, 3) := by decide +kernel
theorem dX2_leastUnit_5 : decode cX2_leastUnit 5 = .ok (.isub, 1) := by decide +kernel
theorem dX2_leastUnit_6 : decode cX2_leastUnit 6 = .ok (.aload_n 0, 1) := by decide +kernel
theorem dX2_leastUnit_7 : decode cX2_leastUnit 7 = .ok (.getfield 39, 3) := by decide +kernel
theorem dX2_leastUnit_10 : decode cX2_leastUnit 10 = .ok (.isub, 1) := by decide +kernel
theorem dX2_leastUnit_11 : decode cX2_leastUnit 11 = .ok (.ireturn, 1) := by decide +kernel
theorem dX2_isNearBelow_0 : decode cX2_isNearBelow 0 = .ok (.aload_n 0, 1) := by decide +kernel
theorem dX2_isNearBelow_1 : decode cX2_isNearBelow 1 = .ok (.lload_n 1, 1) := by decide +kernel
theorem dX2_isNearBelow_2 : decode cX2_isNearBelow 2 = .ok (.invokevirtual 63, 3) := by decide +kernel
theorem dX2_isNearBelow_5 : decode cX2_isNearBelow 5 = .ok (.lconst 0, 1) := by decide +kernel
theorem dX2_isNearBelow_6 : decode cX2_isNearBelow 6 = .ok (.lcmp, 1) := by decide +kernel
theorem dX2_isNearBelow_7 : decode cX2_isNearBelow 7 = .ok (.ifCond .ne 16, 3) := by decide +kernel
theorem dX2_isNearBelow_10 : decode cX2_isNearBelow 10 = .ok (.aload_n 0, 1) := by decide +kernel
theorem dX2_isNearBelow_11 : decode cX2_isNearBelow 11 = .ok (.lload_n 1, 1) := by decide +kernel
theorem dX2_isNearBelow_12 : decode cX2_isNearBelow 12 = .ok (.invokevirtual 59, 3) := by decide +kernel
theorem dX2_isNearBelow_15 : decode cX2_isNearBelow 15 = .ok (.iconst 1, 1) := by decide +kernel
theorem dX2_isNearBelow_16 : decode cX2_isNearBelow 16 = .ok (.if_icmp .le 7, 3) := by decide +kernel
theorem dX2_isNearBelow_19 : decode cX2_isNearBelow 19 = .ok (.iconst 1, 1) := by decide +kernel
theorem dX2_isNearBelow_20 : decode cX2_isNearBelow 20 = .ok (.goto 4, 3) := by decide +kernel
theorem dX2_isNearBelow_23 : decode cX2_isNearBelow 23 = .ok (.iconst 0, 1) := by decide +kernel
theorem dX2_isNearBelow_24 : decode cX2_isNearBelow 24 = .ok (.ireturn, 1) := by decide +kernel
theorem dX2_placeOf_0 : decode cX2_placeOf 0 = .ok (.aload_n 0, 1) := by decide +kernel
theorem dX2_placeOf_1 : decode cX2_placeOf 1 = .ok (.lload_n 1, 1) := by decide +kernel
theorem dX2_placeOf_2 : decode cX2_placeOf 2 = .ok (.invokevirtual 76, 3) := by decide +kernel
theorem dX2_placeOf_5 : decode cX2_placeOf 5 = .ok (.ifCond .eq 12, 3) := by decide +kernel
theorem dX2_placeOf_8 : decode cX2_placeOf 8 = .ok (.aload_n 0, 1) := by decide +kernel
theorem dX2_placeOf_9 : decode cX2_placeOf 9 = .ok (.lload_n 1, 1) := by decide +kernel
theorem dX2_placeOf_10 : decode cX2_placeOf 10 = .ok (.invokevirtual 52, 3) := by decide +kernel
theorem dX2_placeOf_13 : decode cX2_placeOf 13 = .ok (.lneg, 1) := by decide +kernel
theorem dX2_placeOf_14 : decode cX2_placeOf 14 = .ok (.goto 8, 3) := by decide +kernel
theorem dX2_placeOf_17 : decode cX2_placeOf 17 = .ok (.aload_n 0, 1) := by decide +kernel
theorem dX2_placeOf_18 : decode cX2_placeOf 18 = .ok (.lload_n 1, 1) := by decide +kernel
theorem dX2_placeOf_19 : decode cX2_placeOf 19 = .ok (.invokevirtual 52, 3) := by decide +kernel
theorem dX2_placeOf_22 : decode cX2_placeOf 22 = .ok (.lreturn, 1) := by decide +kernel
theorem dX2_payloadOf_0 : decode cX2_payloadOf 0 = .ok (.aload_n 0, 1) := by decide +kernel
theorem dX2_payloadOf_1 : decode cX2_payloadOf 1 = .ok (.lload_n 1, 1) := by decide +kernel
theorem dX2_payloadOf_2 : decode cX2_payloadOf 2 = .ok (.invokevirtual 63, 3) := by decide +kernel
theorem dX2_payloadOf_5 : decode cX2_payloadOf 5 = .ok (.bipush 66, 2) := by decide +kernel
theorem dX2_payloadOf_7 : decode cX2_payloadOf 7 = .ok (.aload_n 0, 1) := by decide +kernel
theorem dX2_payloadOf_8 : decode cX2_payloadOf 8 = .ok (.getfield 39, 3) := by decide +kernel
theorem dX2_payloadOf_11 : decode cX2_payloadOf 11 = .ok (.isub, 1) := by decide +kernel
theorem dX2_payloadOf_12 : decode cX2_payloadOf 12 = .ok (.lshl, 1) := by decide +kernel
theorem dX2_payloadOf_13 : decode cX2_payloadOf 13 = .ok (.lreturn, 1) := by decide +kernel
theorem dX2_nanWith_0 : decode cX2_nanWith 0 = .ok (.aload_n 0, 1) := by decide +kernel
theorem dX2_nanWith_1 : decode cX2_nanWith 1 = .ok (.invokevirtual 56, 3) := by decide +kernel
theorem dX2_nanWith_4 : decode cX2_nanWith 4 = .ok (.aload_n 0, 1) := by decide +kernel
theorem dX2_nanWith_5 : decode cX2_nanWith 5 = .ok (.invokevirtual 49, 3) := by decide +kernel
theorem dX2_nanWith_8 : decode cX2_nanWith 8 = .ok (.ldc2_w 80, 3) := by decide +kernel
theorem dX2_nanWith_11 : decode cX2_nanWith 11 = .ok (.ldiv, 1) := by decide +kernel
theorem dX2_nanWith_12 : decode cX2_nanWith 12 = .ok (.ladd, 1) := by decide +kernel
theorem dX2_nanWith_13 : decode cX2_nanWith 13 = .ok (.lload_n 1, 1) := by decide +kernel
theorem dX2_nanWith_14 : decode cX2_nanWith 14 = .ok (.bipush 66, 2) := by decide +kernel
theorem dX2_nanWith_16 : decode cX2_nanWith 16 = .ok (.aload_n 0, 1) := by decide +kernel
theorem dX2_nanWith_17 : decode cX2_nanWith 17 = .ok (.getfield 39, 3) := by decide +kernel
theorem dX2_nanWith_20 : decode cX2_nanWith 20 = .ok (.isub, 1) := by decide +kernel
theorem dX2_nanWith_21 : decode cX2_nanWith 21 = .ok (.lushr, 1) := by decide +kernel
theorem dX2_nanWith_22 : decode cX2_nanWith 22 = .ok (.ladd, 1) := by decide +kernel
theorem dX2_nanWith_23 : decode cX2_nanWith 23 = .ok (.lreturn, 1) := by decide +kernel
theorem dX3_init_0 : decode cX3_init 0 = .ok (.aload_n 0, 1) := by decide +kernel
theorem dX3_init_1 : decode cX3_init 1 = .ok (.invokespecial 3, 3) := by decide +kernel
theorem dX3_init_4 : decode cX3_init 4 = .ok (.aload_n 0, 1) := by decide +kernel
theorem dX3_init_5 : decode cX3_init 5 = .ok (.lconst 0, 1) := by decide +kernel
theorem dX3_init_6 : decode cX3_init 6 = .ok (.putfield 9, 3) := by decide +kernel
theorem dX3_init_9 : decode cX3_init 9 = .ok (.aload_n 0, 1) := by decide +kernel
theorem dX3_init_10 : decode cX3_init 10 = .ok (.iconst 0, 1) := by decide +kernel
theorem dX3_init_11 : decode cX3_init 11 = .ok (.putfield 15, 3) := by decide +kernel
theorem dX3_init_14 : decode cX3_init 14 = .ok (.return_, 1) := by decide +kernel
theorem dX3_become_0 : decode cX3_become 0 = .ok (.aload_n 0, 1) := by decide +kernel
theorem dX3_become_1 : decode cX3_become 1 = .ok (.lload_n 1, 1) := by decide +kernel
theorem dX3_become_2 : decode cX3_become 2 = .ok (.putfield 9, 3) := by decide +kernel
theorem dX3_become_5 : decode cX3_become 5 = .ok (.aload_n 0, 1) := by decide +kernel
theorem dX3_become_6 : decode cX3_become 6 = .ok (.iconst 0, 1) := by decide +kernel
theorem dX3_become_7 : decode cX3_become 7 = .ok (.putfield 15, 3) := by decide +kernel
theorem dX3_become_10 : decode cX3_become 10 = .ok (.return_, 1) := by decide +kernel
theorem dX3_round_0 : decode cX3_round 0 = .ok (.lload 5, 2) := by decide +kernel
theorem dX3_round_2 : decode cX3_round 2 = .ok (.lload_n 3, 1) := by decide +kernel
theorem dX3_round_3 : decode cX3_round 3 = .ok (.invokestatic 19, 3) := by decide +kernel
theorem dX3_round_6 : decode cX3_round 6 = .ok (.i2l, 1) := by decide +kernel
theorem dX3_round_7 : decode cX3_round 7 = .ok (.ladd, 1) := by decide +kernel
theorem dX3_round_8 : decode cX3_round 8 = .ok (.lstore 9, 2) := by decide +kernel
theorem dX3_round_10 : decode cX3_round 10 = .ok (.lload 9, 2) := by decide +kernel
theorem dX3_round_12 : decode cX3_round 12 = .ok (.aload_n 1, 1) := by decide +kernel
theorem dX3_round_13 : decode cX3_round 13 = .ok (.getfield 23, 3) := by decide +kernel
theorem dX3_round_16 : decode cX3_round 16 = .ok (.i2l, 1) := by decide +kernel
theorem dX3_round_17 : decode cX3_round 17 = .ok (.lsub, 1) := by decide +kernel
theorem dX3_round_18 : decode cX3_round 18 = .ok (.aload_n 1, 1) := by decide +kernel
theorem dX3_round_19 : decode cX3_round 19 = .ok (.invokevirtual 28, 3) := by decide +kernel
theorem dX3_round_22 : decode cX3_round 22 = .ok (.i2l, 1) := by decide +kernel
theorem dX3_round_23 : decode cX3_round 23 = .ok (.invokestatic 32, 3) := by decide +kernel
theorem dX3_round_26 : decode cX3_round 26 = .ok (.lstore 11, 2) := by decide +kernel
theorem dX3_round_28 : decode cX3_round 28 = .ok (.lload 11, 2) := by decide +kernel
theorem dX3_round_30 : decode cX3_round 30 = .ok (.lload 5, 2) := by decide +kernel
theorem dX3_round_32 : decode cX3_round 32 = .ok (.lsub, 1) := by decide +kernel
theorem dX3_round_33 : decode cX3_round 33 = .ok (.lstore 13, 2) := by decide +kernel
theorem dX3_round_35 : decode cX3_round 35 = .ok (.lload_n 3, 1) := by decide +kernel
theorem dX3_round_36 : decode cX3_round 36 = .ok (.lload 13, 2) := by decide +kernel
theorem dX3_round_38 : decode cX3_round 38 = .ok (.invokestatic 38, 3) := by decide +kernel
theorem dX3_round_41 : decode cX3_round 41 = .ok (.lstore 15, 2) := by decide +kernel
theorem dX3_round_43 : decode cX3_round 43 = .ok (.lload_n 3, 1) := by decide +kernel
theorem dX3_round_44 : decode cX3_round 44 = .ok (.lload 13, 2) := by decide +kernel
theorem dX3_round_46 : decode cX3_round 46 = .ok (.iload 7, 2) := by decide +kernel
theorem dX3_round_48 : decode cX3_round 48 = .ok (.invokestatic 41, 3) := by decide +kernel
theorem dX3_round_51 : decode cX3_round 51 = .ok (.istore 17, 2) := by decide +kernel
theorem dX3_round_53 : decode cX3_round 53 = .ok (.iload 8, 2) := by decide +kernel
theorem dX3_round_55 : decode cX3_round 55 = .ok (.iload_n 2, 1) := by decide +kernel
theorem dX3_round_56 : decode cX3_round 56 = .ok (.lload 15, 2) := by decide +kernel
theorem dX3_round_58 : decode cX3_round 58 = .ok (.lconst 1, 1) := by decide +kernel
theorem dX3_round_59 : decode cX3_round 59 = .ok (.land, 1) := by decide +kernel
theorem dX3_round_60 : decode cX3_round 60 = .ok (.lconst 0, 1) := by decide +kernel
theorem dX3_round_61 : decode cX3_round 61 = .ok (.lcmp, 1) := by decide +kernel
theorem dX3_round_62 : decode cX3_round 62 = .ok (.ifCond .eq 7, 3) := by decide +kernel
theorem dX3_round_65 : decode cX3_round 65 = .ok (.iconst 1, 1) := by decide +kernel
theorem dX3_round_66 : decode cX3_round 66 = .ok (.goto 4, 3) := by decide +kernel
theorem dX3_round_69 : decode cX3_round 69 = .ok (.iconst 0, 1) := by decide +kernel
theorem dX3_round_70 : decode cX3_round 70 = .ok (.iload 17, 2) := by decide +kernel
theorem dX3_round_72 : decode cX3_round 72 = .ok (.invokestatic 45, 3) := by decide +kernel
theorem dX3_round_75 : decode cX3_round 75 = .ok (.ifCond .eq 9, 3) := by decide +kernel
theorem dX3_round_78 : decode cX3_round 78 = .ok (.lload 15, 2) := by decide +kernel
theorem dX3_round_80 : decode cX3_round 80 = .ok (.lconst 1, 1) := by decide +kernel
theorem dX3_round_81 : decode cX3_round 81 = .ok (.ladd, 1) := by decide +kernel
theorem dX3_round_82 : decode cX3_round 82 = .ok (.lstore 15, 2) := by decide +kernel
theorem dX3_round_84 : decode cX3_round 84 = .ok (.lload 15, 2) := by decide +kernel
theorem dX3_round_86 : decode cX3_round 86 = .ok (.ldc2_w 49, 3) := by decide +kernel
theorem dX3_round_89 : decode cX3_round 89 = .ok (.aload_n 1, 1) := by decide +kernel
theorem dX3_round_90 : decode cX3_round 90 = .ok (.invokevirtual 51, 3) := by decide +kernel
theorem dX3_round_93 : decode cX3_round 93 = .ok (.lmul, 1) := by decide +kernel
theorem dX3_round_94 : decode cX3_round 94 = .ok (.lcmp, 1) := by decide +kernel
theorem dX3_round_95 : decode cX3_round 95 = .ok (.ifCond .ne 15, 3) := by decide +kernel
theorem dX3_round_98 : decode cX3_round 98 = .ok (.aload_n 1, 1) := by decide +kernel
theorem dX3_round_99 : decode cX3_round 99 = .ok (.invokevirtual 51, 3) := by decide +kernel
theorem dX3_round_102 : decode cX3_round 102 = .ok (.lstore 15, 2) := by decide +kernel
theorem dX3_round_104 : decode cX3_round 104 = .ok (.lload 11, 2) := by decide +kernel
theorem dX3_round_106 : decode cX3_round 106 = .ok (.lconst 1, 1) := by decide +kernel
theorem dX3_round_107 : decode cX3_round 107 = .ok (.ladd, 1) := by decide +kernel
theorem dX3_round_108 : decode cX3_round 108 = .ok (.lstore 11, 2) := by decide +kernel
theorem dX3_round_110 : decode cX3_round 110 = .ok (.aload_n 0, 1) := by decide +kernel
theorem dX3_round_111 : decode cX3_round 111 = .ok (.aload_n 1, 1) := by decide +kernel
theorem dX3_round_112 : decode cX3_round 112 = .ok (.iload_n 2, 1) := by decide +kernel
theorem dX3_round_113 : decode cX3_round 113 = .ok (.lload 15, 2) := by decide +kernel
theorem dX3_round_115 : decode cX3_round 115 = .ok (.lload 11, 2) := by decide +kernel
theorem dX3_round_117 : decode cX3_round 117 = .ok (.iload 8, 2) := by decide +kernel
theorem dX3_round_119 : decode cX3_round 119 = .ok (.invokevirtual 55, 3) := by decide +kernel
theorem dX3_round_122 : decode cX3_round 122 = .ok (.iload 17, 2) := by decide +kernel
theorem dX3_round_124 : decode cX3_round 124 = .ok (.ifCond .eq 28, 3) := by decide +kernel
theorem dX3_round_127 : decode cX3_round 127 = .ok (.aload_n 0, 1) := by decide +kernel
theorem dX3_round_128 : decode cX3_round 128 = .ok (.dup, 1) := by decide +kernel
theorem dX3_round_129 : decode cX3_round 129 = .ok (.getfield 15, 3) := by decide +kernel
theorem dX3_round_132 : decode cX3_round 132 = .ok (.aload_n 1, 1) := by decide +kernel
theorem dX3_round_133 : decode cX3_round 133 = .ok (.aload_n 0, 1) := by decide +kernel
theorem dX3_round_134 : decode cX3_round 134 = .ok (.getfield 9, 3) := by decide +kernel
theorem dX3_round_137 : decode cX3_round 137 = .ok (.invokevirtual 59, 3) := by decide +kernel
theorem dX3_round_140 : decode cX3_round 140 = .ok (.ifCond .ne 7, 3) := by decide +kernel
theorem dX3_round_143 : decode cX3_round 143 = .ok (.iconst 5, 1) := by decide +kernel
theorem dX3_round_144 : decode cX3_round 144 = .ok (.goto 4, 3) := by decide +kernel
theorem dX3_round_147 : decode cX3_round 147 = .ok (.iconst 1, 1) := by decide +kernel
theorem dX3_round_148 : decode cX3_round 148 = .ok (.ior, 1) := by decide +kernel
theorem dX3_round_149 : decode cX3_round 149 = .ok (.putfield 15, 3) := by decide +kernel
theorem dX3_round_152 : decode cX3_round 152 = .ok (.return_, 1) := by decide +kernel
theorem dX3_settle_0 : decode cX3_settle 0 = .ok (.lload_n 3, 1) := by decide +kernel
theorem dX3_settle_1 : decode cX3_settle 1 = .ok (.aload_n 1, 1) := by decide +kernel
theorem dX3_settle_2 : decode cX3_settle 2 = .ok (.invokevirtual 51, 3) := by decide +kernel
theorem dX3_settle_5 : decode cX3_settle 5 = .ok (.lcmp, 1) := by decide +kernel
theorem dX3_settle_6 : decode cX3_settle 6 = .ok (.ifCond .ge 7, 3) := by decide +kernel
theorem dX3_settle_9 : decode cX3_settle 9 = .ok (.lconst 0, 1) := by decide +kernel
theorem dX3_settle_10 : decode cX3_settle 10 = .ok (.goto 13, 3) := by decide +kernel
theorem dX3_settle_13 : decode cX3_settle 13 = .ok (.lload 5, 2) := by decide +kernel
theorem dX3_settle_15 : decode cX3_settle 15 = .ok (.aload_n 1, 1) := by decide +kernel
theorem dX3_settle_16 : decode cX3_settle 16 = .ok (.invokevirtual 28, 3) := by decide +kernel
theorem dX3_settle_19 : decode cX3_settle 19 = .ok (.i2l, 1) := by decide +kernel
theorem dX3_settle_20 : decode cX3_settle 20 = .ok (.lsub, 1) := by decide +kernel
theorem dX3_settle_21 : decode cX3_settle 21 = .ok (.lconst 1, 1) := by decide +kernel
theorem dX3_settle_22 : decode cX3_settle 22 = .ok (.ladd, 1) := by decide +kernel
theorem dX3_settle_23 : decode cX3_settle 23 = .ok (.lstore 8, 2) := by decide +kernel
theorem dX3_settle_25 : decode cX3_settle 25 = .ok (.lload 8, 2) := by decide +kernel
theorem dX3_settle_27 : decode cX3_settle 27 = .ok (.ldc2_w 49, 3) := by decide +kernel
theorem dX3_settle_30 : decode cX3_settle 30 = .ok (.aload_n 1, 1) := by decide +kernel
theorem dX3_settle_31 : decode cX3_settle 31 = .ok (.getfield 62, 3) := by decide +kernel
theorem dX3_settle_34 : decode cX3_settle 34 = .ok (.i2l, 1) := by decide +kernel
theorem dX3_settle_35 : decode cX3_settle 35 = .ok (.lmul, 1) := by decide +kernel
theorem dX3_settle_36 : decode cX3_settle 36 = .ok (.lcmp, 1) := by decide +kernel
theorem dX3_settle_37 : decode cX3_settle 37 = .ok (.ifCond .le 48, 3) := by decide +kernel
theorem dX3_settle_40 : decode cX3_settle 40 = .ok (.iload 7, 2) := by decide +kernel
theorem dX3_settle_42 : decode cX3_settle 42 = .ok (.iload_n 2, 1) := by decide +kernel
theorem dX3_settle_43 : decode cX3_settle 43 = .ok (.iconst 1, 1) := by decide +kernel
theorem dX3_settle_44 : decode cX3_settle 44 = .ok (.iconst 3, 1) := by decide +kernel
theorem dX3_settle_45 : decode cX3_settle 45 = .ok (.invokestatic 45, 3) := by decide +kernel
theorem dX3_settle_48 : decode cX3_settle 48 = .ok (.istore 10, 2) := by decide +kernel
theorem dX3_settle_50 : decode cX3_settle 50 = .ok (.aload_n 0, 1) := by decide +kernel
theorem dX3_settle_51 : decode cX3_settle 51 = .ok (.aload_n 1, 1) := by decide +kernel
theorem dX3_settle_52 : decode cX3_settle 52 = .ok (.iload_n 2, 1) := by decide +kernel
theorem dX3_settle_53 : decode cX3_settle 53 = .ok (.iload 10, 2) := by decide +kernel
theorem dX3_settle_55 : decode cX3_settle 55 = .ok (.ifCond .eq 10, 3) := by decide +kernel
theorem dX3_settle_58 : decode cX3_settle 58 = .ok (.aload_n 1, 1) := by decide +kernel
theorem dX3_settle_59 : decode cX3_settle 59 = .ok (.invokevirtual 65, 3) := by decide +kernel
theorem dX3_settle_62 : decode cX3_settle 62 = .ok (.goto 9, 3) := by decide +kernel
theorem dX3_settle_65 : decode cX3_settle 65 = .ok (.aload_n 1, 1) := by decide +kernel
theorem dX3_settle_66 : decode cX3_settle 66 = .ok (.invokevirtual 65, 3) := by decide +kernel
theorem dX3_settle_69 : decode cX3_settle 69 = .ok (.lconst 1, 1) := by decide +kernel
theorem dX3_settle_70 : decode cX3_settle 70 = .ok (.lsub, 1) := by decide +kernel
theorem dX3_settle_71 : decode cX3_settle 71 = .ok (.invokevirtual 68, 3) := by decide +kernel
theorem dX3_settle_74 : decode cX3_settle 74 = .ok (.putfield 9, 3) := by decide +kernel
theorem dX3_settle_77 : decode cX3_settle 77 = .ok (.aload_n 0, 1) := by decide +kernel
theorem dX3_settle_78 : decode cX3_settle 78 = .ok (.iconst 3, 1) := by decide +kernel
theorem dX3_settle_79 : decode cX3_settle 79 = .ok (.putfield 15, 3) := by decide +kernel
theorem dX3_settle_82 : decode cX3_settle 82 = .ok (.goto 37, 3) := by decide +kernel
theorem dX3_settle_85 : decode cX3_settle 85 = .ok (.lload_n 3, 1) := by decide +kernel
theorem dX3_settle_86 : decode cX3_settle 86 = .ok (.aload_n 1, 1) := by decide +kernel
theorem dX3_settle_87 : decode cX3_settle 87 = .ok (.invokevirtual 51, 3) := by decide +kernel
theorem dX3_settle_90 : decode cX3_settle 90 = .ok (.lconst 1, 1) := by decide +kernel
theorem dX3_settle_91 : decode cX3_settle 91 = .ok (.lsub, 1) := by decide +kernel
theorem dX3_settle_92 : decode cX3_settle 92 = .ok (.land, 1) := by decide +kernel
theorem dX3_settle_93 : decode cX3_settle 93 = .ok (.lstore 10, 2) := by decide +kernel
theorem dX3_settle_95 : decode cX3_settle 95 = .ok (.aload_n 0, 1) := by decide +kernel
theorem dX3_settle_96 : decode cX3_settle 96 = .ok (.aload_n 1, 1) := by decide +kernel
theorem dX3_settle_97 : decode cX3_settle 97 = .ok (.iload_n 2, 1) := by decide +kernel
theorem dX3_settle_98 : decode cX3_settle 98 = .ok (.lload 8, 2) := by decide +kernel
theorem dX3_settle_100 : decode cX3_settle 100 = .ok (.aload_n 1, 1) := by decide +kernel
theorem dX3_settle_101 : decode cX3_settle 101 = .ok (.invokevirtual 51, 3) := by decide +kernel
theorem dX3_settle_104 : decode cX3_settle 104 = .ok (.lmul, 1) := by decide +kernel
theorem dX3_settle_105 : decode cX3_settle 105 = .ok (.lload 10, 2) := by decide +kernel
theorem dX3_settle_107 : decode cX3_settle 107 = .ok (.ladd, 1) := by decide +kernel
theorem dX3_settle_108 : decode cX3_settle 108 = .ok (.invokevirtual 68, 3) := by decide +kernel
theorem dX3_settle_111 : decode cX3_settle 111 = .ok (.putfield 9, 3) := by decide +kernel
theorem dX3_settle_114 : decode cX3_settle 114 = .ok (.aload_n 0, 1) := by decide +kernel
theorem dX3_settle_115 : decode cX3_settle 115 = .ok (.iconst 0, 1) := by decide +kernel
theorem dX3_settle_116 : decode cX3_settle 116 = .ok (.putfield 15, 3) := by decide +kernel
theorem dX3_settle_119 : decode cX3_settle 119 = .ok (.return_, 1) := by decide +kernel
theorem dX3_bitsOf_0 : decode cX3_bitsOf 0 = .ok (.iconst 0, 1) := by decide +kernel
theorem dX3_bitsOf_1 : decode cX3_bitsOf 1 = .ok (.istore_n 2, 1) := by decide +kernel
theorem dX3_bitsOf_2 : decode cX3_bitsOf 2 = .ok (.lload_n 0, 1) := by decide +kernel
theorem dX3_bitsOf_3 : decode cX3_bitsOf 3 = .ok (.lstore_n 3, 1) := by decide +kernel
theorem dX3_bitsOf_4 : decode cX3_bitsOf 4 = .ok (.bipush 32, 2) := by decide +kernel
theorem dX3_bitsOf_6 : decode cX3_bitsOf 6 = .ok (.istore 5, 2) := by decide +kernel
theorem dX3_bitsOf_8 : decode cX3_bitsOf 8 = .ok (.iload 5, 2) := by decide +kernel
theorem dX3_bitsOf_10 : decode cX3_bitsOf 10 = .ok (.ifCond .le 31, 3) := by decide +kernel
theorem dX3_bitsOf_13 : decode cX3_bitsOf 13 = .ok (.lload_n 3, 1) := by decide +kernel
theorem dX3_bitsOf_14 : decode cX3_bitsOf 14 = .ok (.iload 5, 2) := by decide +kernel
theorem dX3_bitsOf_16 : decode cX3_bitsOf 16 = .ok (.lushr, 1) := by decide +kernel
theorem dX3_bitsOf_17 : decode cX3_bitsOf 17 = .ok (.lconst 0, 1) := by decide +kernel
theorem dX3_bitsOf_18 : decode cX3_bitsOf 18 = .ok (.lcmp, 1) := by decide +kernel
theorem dX3_bitsOf_19 : decode cX3_bitsOf 19 = .ok (.ifCond .eq 13, 3) := by decide +kernel
theorem dX3_bitsOf_22 : decode cX3_bitsOf 22 = .ok (.lload_n 3, 1) := by decide +kernel
theorem dX3_bitsOf_23 : decode cX3_bitsOf 23 = .ok (.iload 5, 2) := by decide +kernel
theorem dX3_bitsOf_25 : decode cX3_bitsOf 25 = .ok (.lushr, 1) := by decide +kernel
theorem dX3_bitsOf_26 : decode cX3_bitsOf 26 = .ok (.lstore_n 3, 1) := by decide +kernel
theorem dX3_bitsOf_27 : decode cX3_bitsOf 27 = .ok (.iload_n 2, 1) := by decide +kernel
theorem dX3_bitsOf_28 : decode cX3_bitsOf 28 = .ok (.iload 5, 2) := by decide +kernel
theorem dX3_bitsOf_30 : decode cX3_bitsOf 30 = .ok (.iadd, 1) := by decide +kernel
theorem dX3_bitsOf_31 : decode cX3_bitsOf 31 = .ok (.istore_n 2, 1) := by decide +kernel
theorem dX3_bitsOf_32 : decode cX3_bitsOf 32 = .ok (.iload 5, 2) := by decide +kernel
theorem dX3_bitsOf_34 : decode cX3_bitsOf 34 = .ok (.iconst 2, 1) := by decide +kernel
theorem dX3_bitsOf_35 : decode cX3_bitsOf 35 = .ok (.idiv, 1) := by decide +kernel
theorem dX3_bitsOf_36 : decode cX3_bitsOf 36 = .ok (.istore 5, 2) := by decide +kernel
theorem dX3_bitsOf_38 : decode cX3_bitsOf 38 = .ok (.goto (-30), 3) := by decide +kernel
theorem dX3_bitsOf_41 : decode cX3_bitsOf 41 = .ok (.lload_n 3, 1) := by decide +kernel
theorem dX3_bitsOf_42 : decode cX3_bitsOf 42 = .ok (.lconst 0, 1) := by decide +kernel
theorem dX3_bitsOf_43 : decode cX3_bitsOf 43 = .ok (.lcmp, 1) := by decide +kernel
theorem dX3_bitsOf_44 : decode cX3_bitsOf 44 = .ok (.ifCond .ne 7, 3) := by decide +kernel
theorem dX3_bitsOf_47 : decode cX3_bitsOf 47 = .ok (.iload_n 2, 1) := by decide +kernel
theorem dX3_bitsOf_48 : decode cX3_bitsOf 48 = .ok (.goto 6, 3) := by decide +kernel
theorem dX3_bitsOf_51 : decode cX3_bitsOf 51 = .ok (.iload_n 2, 1) := by decide +kernel
theorem dX3_bitsOf_52 : decode cX3_bitsOf 52 = .ok (.iconst 1, 1) := by decide +kernel
theorem dX3_bitsOf_53 : decode cX3_bitsOf 53 = .ok (.iadd, 1) := by decide +kernel
theorem dX3_bitsOf_54 : decode cX3_bitsOf 54 = .ok (.ireturn, 1) := by decide +kernel
theorem dX3_keptOf_0 : decode cX3_keptOf 0 = .ok (.lload_n 2, 1) := by decide +kernel
theorem dX3_keptOf_1 : decode cX3_keptOf 1 = .ok (.ldc2_w 72, 3) := by decide +kernel
theorem dX3_keptOf_4 : decode cX3_keptOf 4 = .ok (.lcmp, 1) := by decide +kernel
theorem dX3_keptOf_5 : decode cX3_keptOf 5 = .ok (.ifCond .le 5, 3) := by decide +kernel
theorem dX3_keptOf_8 : decode cX3_keptOf 8 = .ok (.lconst 0, 1) := by decide +kernel
theorem dX3_keptOf_9 : decode cX3_keptOf 9 = .ok (.lreturn, 1) := by decide +kernel
theorem dX3_keptOf_10 : decode cX3_keptOf 10 = .ok (.lload_n 2, 1) := by decide +kernel
theorem dX3_keptOf_11 : decode cX3_keptOf 11 = .ok (.lconst 0, 1) := by decide +kernel
theorem dX3_keptOf_12 : decode cX3_keptOf 12 = .ok (.lcmp, 1) := by decide +kernel
theorem dX3_keptOf_13 : decode cX3_keptOf 13 = .ok (.ifCond .le 10, 3) := by decide +kernel
theorem dX3_keptOf_16 : decode cX3_keptOf 16 = .ok (.lload_n 0, 1) := by decide +kernel
theorem dX3_keptOf_17 : decode cX3_keptOf 17 = .ok (.lload_n 2, 1) := by decide +kernel
theorem dX3_keptOf_18 : decode cX3_keptOf 18 = .ok (.l2i, 1) := by decide +kernel
theorem dX3_keptOf_19 : decode cX3_keptOf 19 = .ok (.lushr, 1) := by decide +kernel
theorem dX3_keptOf_20 : decode cX3_keptOf 20 = .ok (.goto 8, 3) := by decide +kernel
theorem dX3_keptOf_23 : decode cX3_keptOf 23 = .ok (.lload_n 0, 1) := by decide +kernel
theorem dX3_keptOf_24 : decode cX3_keptOf 24 = .ok (.lload_n 2, 1) := by decide +kernel
theorem dX3_keptOf_25 : decode cX3_keptOf 25 = .ok (.lneg, 1) := by decide +kernel
theorem dX3_keptOf_26 : decode cX3_keptOf 26 = .ok (.l2i, 1) := by decide +kernel
theorem dX3_keptOf_27 : decode cX3_keptOf 27 = .ok (.lshl, 1) := by decide +kernel
theorem dX3_keptOf_28 : decode cX3_keptOf 28 = .ok (.lreturn, 1) := by decide +kernel
theorem dX3_restOf_0 : decode cX3_restOf 0 = .ok (.lload_n 2, 1) := by decide +kernel
theorem dX3_restOf_1 : decode cX3_restOf 1 = .ok (.ldc2_w 74, 3) := by decide +kernel
theorem dX3_restOf_4 : decode cX3_restOf 4 = .ok (.lcmp, 1) := by decide +kernel
theorem dX3_restOf_5 : decode cX3_restOf 5 = .ok (.ifCond .le 5, 3) := by decide +kernel
theorem dX3_restOf_8 : decode cX3_restOf 8 = .ok (.iconst 1, 1) := by decide +kernel
theorem dX3_restOf_9 : decode cX3_restOf 9 = .ok (.ireturn, 1) := by decide +kernel
theorem dX3_restOf_10 : decode cX3_restOf 10 = .ok (.lload_n 2, 1) := by decide +kernel
theorem dX3_restOf_11 : decode cX3_restOf 11 = .ok (.lconst 1, 1) := by decide +kernel
theorem dX3_restOf_12 : decode cX3_restOf 12 = .ok (.lcmp, 1) := by decide +kernel
theorem dX3_restOf_13 : decode cX3_restOf 13 = .ok (.ifCond .ge 14, 3) := by decide +kernel
theorem dX3_restOf_16 : decode cX3_restOf 16 = .ok (.iload 4, 2) := by decide +kernel
theorem dX3_restOf_18 : decode cX3_restOf 18 = .ok (.ifCond .eq 7, 3) := by decide +kernel
theorem dX3_restOf_21 : decode cX3_restOf 21 = .ok (.iconst 1, 1) := by decide +kernel
theorem dX3_restOf_22 : decode cX3_restOf 22 = .ok (.goto 4, 3) := by decide +kernel
theorem dX3_restOf_25 : decode cX3_restOf 25 = .ok (.iconst 0, 1) := by decide +kernel
theorem dX3_restOf_26 : decode cX3_restOf 26 = .ok (.ireturn, 1) := by decide +kernel
theorem dX3_restOf_27 : decode cX3_restOf 27 = .ok (.lconst 1, 1) := by decide +kernel
theorem dX3_restOf_28 : decode cX3_restOf 28 = .ok (.lload_n 2, 1) := by decide +kernel
theorem dX3_restOf_29 : decode cX3_restOf 29 = .ok (.lconst 1, 1) := by decide +kernel
theorem dX3_restOf_30 : decode cX3_restOf 30 = .ok (.lsub, 1) := by decide +kernel
theorem dX3_restOf_31 : decode cX3_restOf 31 = .ok (.l2i, 1) := by decide +kernel
theorem dX3_restOf_32 : decode cX3_restOf 32 = .ok (.lshl, 1) := by decide +kernel
theorem dX3_restOf_33 : decode cX3_restOf 33 = .ok (.lstore 5, 2) := by decide +kernel
theorem dX3_restOf_35 : decode cX3_restOf 35 = .ok (.iload 4, 2) := by decide +kernel
theorem dX3_restOf_37 : decode cX3_restOf 37 = .ok (.ifCond .ne 14, 3) := by decide +kernel
theorem dX3_restOf_40 : decode cX3_restOf 40 = .ok (.lload_n 0, 1) := by decide +kernel
theorem dX3_restOf_41 : decode cX3_restOf 41 = .ok (.lload 5, 2) := by decide +kernel
theorem dX3_restOf_43 : decode cX3_restOf 43 = .ok (.lconst 1, 1) := by decide +kernel
theorem dX3_restOf_44 : decode cX3_restOf 44 = .ok (.lsub, 1) := by decide +kernel
theorem dX3_restOf_45 : decode cX3_restOf 45 = .ok (.land, 1) := by decide +kernel
theorem dX3_restOf_46 : decode cX3_restOf 46 = .ok (.lconst 0, 1) := by decide +kernel
theorem dX3_restOf_47 : decode cX3_restOf 47 = .ok (.lcmp, 1) := by decide +kernel
theorem dX3_restOf_48 : decode cX3_restOf 48 = .ok (.ifCond .eq 7, 3) := by decide +kernel
theorem dX3_restOf_51 : decode cX3_restOf 51 = .ok (.iconst 1, 1) := by decide +kernel
theorem dX3_restOf_52 : decode cX3_restOf 52 = .ok (.goto 4, 3) := by decide +kernel
theorem dX3_restOf_55 : decode cX3_restOf 55 = .ok (.iconst 0, 1) := by decide +kernel
theorem dX3_restOf_56 : decode cX3_restOf 56 = .ok (.istore 7, 2) := by decide +kernel
theorem dX3_restOf_58 : decode cX3_restOf 58 = .ok (.lload_n 0, 1) := by decide +kernel
theorem dX3_restOf_59 : decode cX3_restOf 59 = .ok (.lload 5, 2) := by decide +kernel
theorem dX3_restOf_61 : decode cX3_restOf 61 = .ok (.land, 1) := by decide +kernel
theorem dX3_restOf_62 : decode cX3_restOf 62 = .ok (.lconst 0, 1) := by decide +kernel
theorem dX3_restOf_63 : decode cX3_restOf 63 = .ok (.lcmp, 1) := by decide +kernel
theorem dX3_restOf_64 : decode cX3_restOf 64 = .ok (.ifCond .eq 14, 3) := by decide +kernel
theorem dX3_restOf_67 : decode cX3_restOf 67 = .ok (.iload 7, 2) := by decide +kernel
theorem dX3_restOf_69 : decode cX3_restOf 69 = .ok (.ifCond .eq 7, 3) := by decide +kernel
theorem dX3_restOf_72 : decode cX3_restOf 72 = .ok (.iconst 3, 1) := by decide +kernel
theorem dX3_restOf_73 : decode cX3_restOf 73 = .ok (.goto 4, 3) := by decide +kernel
theorem dX3_restOf_76 : decode cX3_restOf 76 = .ok (.iconst 2, 1) := by decide +kernel
theorem dX3_restOf_77 : decode cX3_restOf 77 = .ok (.ireturn, 1) := by decide +kernel
theorem dX3_restOf_78 : decode cX3_restOf 78 = .ok (.iload 7, 2) := by decide +kernel
theorem dX3_restOf_80 : decode cX3_restOf 80 = .ok (.ifCond .eq 7, 3) := by decide +kernel
theorem dX3_restOf_83 : decode cX3_restOf 83 = .ok (.iconst 1, 1) := by decide +kernel
theorem dX3_restOf_84 : decode cX3_restOf 84 = .ok (.goto 4, 3) := by decide +kernel
theorem dX3_restOf_87 : decode cX3_restOf 87 = .ok (.iconst 0, 1) := by decide +kernel
theorem dX3_restOf_88 : decode cX3_restOf 88 = .ok (.ireturn, 1) := by decide +kernel
theorem dX4_init_0 : decode cX4_init 0 = .ok (.aload_n 0, 1) := by decide +kernel
theorem dX4_init_1 : decode cX4_init 1 = .ok (.invokespecial 5, 3) := by decide +kernel
theorem dX4_init_4 : decode cX4_init 4 = .ok (.aload_n 0, 1) := by decide +kernel
theorem dX4_init_5 : decode cX4_init 5 = .ok (.sipush 156, 3) := by decide +kernel
theorem dX4_init_8 : decode cX4_init 8 = .ok (.newarray .int, 2) := by decide +kernel
theorem dX4_init_10 : decode cX4_init 10 = .ok (.putfield 11, 3) := by decide +kernel
theorem dX4_init_13 : decode cX4_init 13 = .ok (.aload_n 0, 1) := by decide +kernel
theorem dX4_init_14 : decode cX4_init 14 = .ok (.sipush 156, 3) := by decide +kernel
theorem dX4_init_17 : decode cX4_init 17 = .ok (.putfield 15, 3) := by decide +kernel
theorem dX4_init_20 : decode cX4_init 20 = .ok (.aload_n 0, 1) := by decide +kernel
theorem dX4_init_21 : decode cX4_init 21 = .ok (.iconst (-1), 1) := by decide +kernel
theorem dX4_init_22 : decode cX4_init 22 = .ok (.putfield 19, 3) := by decide +kernel
theorem dX4_init_25 : decode cX4_init 25 = .ok (.aload_n 0, 1) := by decide +kernel
theorem dX4_init_26 : decode cX4_init 26 = .ok (.iconst 0, 1) := by decide +kernel
theorem dX4_init_27 : decode cX4_init 27 = .ok (.putfield 22, 3) := by decide +kernel
theorem dX4_init_30 : decode cX4_init 30 = .ok (.return_, 1) := by decide +kernel
theorem dX4_bitsOfTens_0 : decode cX4_bitsOfTens 0 = .ok (.iload_n 0, 1) := by decide +kernel
theorem dX4_bitsOfTens_1 : decode cX4_bitsOfTens 1 = .ok (.ldc 26, 2) := by decide +kernel
theorem dX4_bitsOfTens_3 : decode cX4_bitsOfTens 3 = .ok (.imul, 1) := by decide +kernel
theorem dX4_bitsOfTens_4 : decode cX4_bitsOfTens 4 = .ok (.ldc 27, 2) := by decide +kernel
theorem dX4_bitsOfTens_6 : decode cX4_bitsOfTens 6 = .ok (.invokestatic 28, 3) := by decide +kernel
theorem dX4_bitsOfTens_9 : decode cX4_bitsOfTens 9 = .ok (.iconst 1, 1) := by decide +kernel
theorem dX4_bitsOfTens_10 : decode cX4_bitsOfTens 10 = .ok (.iadd, 1) := by decide +kernel
theorem dX4_bitsOfTens_11 : decode cX4_bitsOfTens 11 = .ok (.ireturn, 1) := by decide +kernel
theorem dX4_empty_0 : decode cX4_empty 0 = .ok (.aload_n 0, 1) := by decide +kernel
theorem dX4_empty_1 : decode cX4_empty 1 = .ok (.getfield 19, 3) := by decide +kernel
theorem dX4_empty_4 : decode cX4_empty 4 = .ok (.sipush 155, 3) := by decide +kernel
theorem dX4_empty_7 : decode cX4_empty 7 = .ok (.invokestatic 34, 3) := by decide +kernel
theorem dX4_empty_10 : decode cX4_empty 10 = .ok (.istore_n 1, 1) := by decide +kernel
theorem dX4_empty_11 : decode cX4_empty 11 = .ok (.aload_n 0, 1) := by decide +kernel
theorem dX4_empty_12 : decode cX4_empty 12 = .ok (.getfield 15, 3) := by decide +kernel
theorem dX4_empty_15 : decode cX4_empty 15 = .ok (.iconst 0, 1) := by decide +kernel
theorem dX4_empty_16 : decode cX4_empty 16 = .ok (.invokestatic 37, 3) := by decide +kernel
theorem dX4_empty_19 : decode cX4_empty 19 = .ok (.istore_n 2, 1) := by decide +kernel
theorem dX4_empty_20 : decode cX4_empty 20 = .ok (.iload_n 2, 1) := by decide +kernel
theorem dX4_empty_21 : decode cX4_empty 21 = .ok (.iload_n 1, 1) := by decide +kernel
theorem dX4_empty_22 : decode cX4_empty 22 = .ok (.if_icmp .gt 16, 3) := by decide +kernel
theorem dX4_empty_25 : decode cX4_empty 25 = .ok (.aload_n 0, 1) := by decide +kernel
theorem dX4_empty_26 : decode cX4_empty 26 = .ok (.getfield 11, 3) := by decide +kernel
theorem dX4_empty_29 : decode cX4_empty 29 = .ok (.iload_n 2, 1) := by decide +kernel
theorem dX4_empty_30 : decode cX4_empty 30 = .ok (.iconst 0, 1) := by decide +kernel
theorem dX4_empty_31 : decode cX4_empty 31 = .ok (.iastore, 1) := by decide +kernel
theorem dX4_empty_32 : decode cX4_empty 32 = .ok (.iinc 2 1, 3) := by decide +kernel
theorem dX4_empty_35 : decode cX4_empty 35 = .ok (.goto (-15), 3) := by decide +kernel
theorem dX4_empty_38 : decode cX4_empty 38 = .ok (.aload_n 0, 1) := by decide +kernel
theorem dX4_empty_39 : decode cX4_empty 39 = .ok (.sipush 156, 3) := by decide +kernel
theorem dX4_empty_42 : decode cX4_empty 42 = .ok (.putfield 15, 3) := by decide +kernel
theorem dX4_empty_45 : decode cX4_empty 45 = .ok (.aload_n 0, 1) := by decide +kernel
theorem dX4_empty_46 : decode cX4_empty 46 = .ok (.iconst (-1), 1) := by decide +kernel
theorem dX4_empty_47 : decode cX4_empty 47 = .ok (.putfield 19, 3) := by decide +kernel
theorem dX4_empty_50 : decode cX4_empty 50 = .ok (.aload_n 0, 1) := by decide +kernel
theorem dX4_empty_51 : decode cX4_empty 51 = .ok (.iconst 0, 1) := by decide +kernel
theorem dX4_empty_52 : decode cX4_empty 52 = .ok (.putfield 22, 3) := by decide +kernel
theorem dX4_empty_55 : decode cX4_empty 55 = .ok (.return_, 1) := by decide +kernel
theorem dX4_isEmpty_0 : decode cX4_isEmpty 0 = .ok (.aload_n 0, 1) := by decide +kernel
theorem dX4_isEmpty_1 : decode cX4_isEmpty 1 = .ok (.getfield 15, 3) := by decide +kernel
theorem dX4_isEmpty_4 : decode cX4_isEmpty 4 = .ok (.aload_n 0, 1) := by decide +kernel
theorem dX4_isEmpty_5 : decode cX4_isEmpty 5 = .ok (.getfield 19, 3) := by decide +kernel
theorem dX4_isEmpty_8 : decode cX4_isEmpty 8 = .ok (.if_icmp .le 7, 3) := by decide +kernel
theorem dX4_isEmpty_11 : decode cX4_isEmpty 11 = .ok (.iconst 1, 1) := by decide +kernel
theorem dX4_isEmpty_12 : decode cX4_isEmpty 12 = .ok (.goto 4, 3) := by decide +kernel
theorem dX4_isEmpty_15 : decode cX4_isEmpty 15 = .ok (.iconst 0, 1) := by decide +kernel
theorem dX4_isEmpty_16 : decode cX4_isEmpty 16 = .ok (.ireturn, 1) := by decide +kernel
theorem dX4_setWhole_0 : decode cX4_setWhole 0 = .ok (.aload_n 0, 1) := by decide +kernel
theorem dX4_setWhole_1 : decode cX4_setWhole 1 = .ok (.invokevirtual 40, 3) := by decide +kernel
theorem dX4_setWhole_4 : decode cX4_setWhole 4 = .ok (.lload_n 1, 1) := by decide +kernel
theorem dX4_setWhole_5 : decode cX4_setWhole 5 = .ok (.lstore_n 3, 1) := by decide +kernel
theorem dX4_setWhole_6 : decode cX4_setWhole 6 = .ok (.bipush 35, 2) := by decide +kernel
theorem dX4_setWhole_8 : decode cX4_setWhole 8 = .ok (.istore 5, 2) := by decide +kernel
theorem dX4_setWhole_10 : decode cX4_setWhole 10 = .ok (.iload 5, 2) := by decide +kernel
theorem dX4_setWhole_12 : decode cX4_setWhole 12 = .ok (.ifCond .lt 33, 3) := by decide +kernel
theorem dX4_setWhole_15 : decode cX4_setWhole 15 = .ok (.lload_n 3, 1) := by decide +kernel
theorem dX4_setWhole_16 : decode cX4_setWhole 16 = .ok (.lconst 0, 1) := by decide +kernel
theorem dX4_setWhole_17 : decode cX4_setWhole 17 = .ok (.lcmp, 1) := by decide +kernel
theorem dX4_setWhole_18 : decode cX4_setWhole 18 = .ok (.ifCond .le 27, 3) := by decide +kernel
theorem dX4_setWhole_21 : decode cX4_setWhole 21 = .ok (.aload_n 0, 1) := by decide +kernel
theorem dX4_setWhole_22 : decode cX4_setWhole 22 = .ok (.iload 5, 2) := by decide +kernel
theorem dX4_setWhole_24 : decode cX4_setWhole 24 = .ok (.lload_n 3, 1) := by decide +kernel
theorem dX4_setWhole_25 : decode cX4_setWhole 25 = .ok (.ldc2_w 43, 3) := by decide +kernel
theorem dX4_setWhole_28 : decode cX4_setWhole 28 = .ok (.lrem, 1) := by decide +kernel
theorem dX4_setWhole_29 : decode cX4_setWhole 29 = .ok (.l2i, 1) := by decide +kernel
theorem dX4_setWhole_30 : decode cX4_setWhole 30 = .ok (.invokevirtual 45, 3) := by decide +kernel
theorem dX4_setWhole_33 : decode cX4_setWhole 33 = .ok (.lload_n 3, 1) := by decide +kernel
theorem dX4_setWhole_34 : decode cX4_setWhole 34 = .ok (.ldc2_w 43, 3) := by decide +kernel
theorem dX4_setWhole_37 : decode cX4_setWhole 37 = .ok (.ldiv, 1) := by decide +kernel
theorem dX4_setWhole_38 : decode cX4_setWhole 38 = .ok (.lstore_n 3, 1) := by decide +kernel
theorem dX4_setWhole_39 : decode cX4_setWhole 39 = .ok (.iinc 5 (-1), 3) := by decide +kernel
theorem dX4_setWhole_42 : decode cX4_setWhole 42 = .ok (.goto (-32), 3) := by decide +kernel
theorem dX4_setWhole_45 : decode cX4_setWhole 45 = .ok (.return_, 1) := by decide +kernel
theorem dX4_addDigit_0 : decode cX4_addDigit 0 = .ok (.iload_n 2, 1) := by decide +kernel
theorem dX4_addDigit_1 : decode cX4_addDigit 1 = .ok (.invokestatic 49, 3) := by decide +kernel
theorem dX4_addDigit_4 : decode cX4_addDigit 4 = .ok (.istore_n 3, 1) := by decide +kernel
theorem dX4_addDigit_5 : decode cX4_addDigit 5 = .ok (.aload_n 0, 1) := by decide +kernel
theorem dX4_addDigit_6 : decode cX4_addDigit 6 = .ok (.iload_n 3, 1) := by decide +kernel
theorem dX4_addDigit_7 : decode cX4_addDigit 7 = .ok (.aload_n 0, 1) := by decide +kernel
theorem dX4_addDigit_8 : decode cX4_addDigit 8 = .ok (.iload_n 3, 1) := by decide +kernel
theorem dX4_addDigit_9 : decode cX4_addDigit 9 = .ok (.invokevirtual 53, 3) := by decide +kernel
theorem dX4_addDigit_12 : decode cX4_addDigit 12 = .ok (.iload_n 1, 1) := by decide +kernel
theorem dX4_addDigit_13 : decode cX4_addDigit 13 = .ok (.iload_n 2, 1) := by decide +kernel
theorem dX4_addDigit_14 : decode cX4_addDigit 14 = .ok (.invokestatic 56, 3) := by decide +kernel
theorem dX4_addDigit_17 : decode cX4_addDigit 17 = .ok (.imul, 1) := by decide +kernel
theorem dX4_addDigit_18 : decode cX4_addDigit 18 = .ok (.iadd, 1) := by decide +kernel
theorem dX4_addDigit_19 : decode cX4_addDigit 19 = .ok (.invokevirtual 59, 3) := by decide +kernel
theorem dX4_addDigit_22 : decode cX4_addDigit 22 = .ok (.return_, 1) := by decide +kernel
theorem dX4_setDigits_0 : decode cX4_setDigits 0 = .ok (.aload_n 0, 1) := by decide +kernel
theorem dX4_setDigits_1 : decode cX4_setDigits 1 = .ok (.invokevirtual 40, 3) := by decide +kernel
theorem dX4_setDigits_4 : decode cX4_setDigits 4 = .ok (.iload 4, 2) := by decide +kernel
theorem dX4_setDigits_6 : decode cX4_setDigits 6 = .ok (.invokestatic 49, 3) := by decide +kernel
theorem dX4_setDigits_9 : decode cX4_setDigits 9 = .ok (.istore 5, 2) := by decide +kernel
theorem dX4_setDigits_11 : decode cX4_setDigits 11 = .ok (.iload 4, 2) := by decide +kernel
theorem dX4_setDigits_13 : decode cX4_setDigits 13 = .ok (.invokestatic 56, 3) := by decide +kernel
theorem dX4_setDigits_16 : decode cX4_setDigits 16 = .ok (.istore 6, 2) := by decide +kernel
theorem dX4_setDigits_18 : decode cX4_setDigits 18 = .ok (.iconst 0, 1) := by decide +kernel
theorem dX4_setDigits_19 : decode cX4_setDigits 19 = .ok (.istore 7, 2) := by decide +kernel
theorem dX4_setDigits_21 : decode cX4_setDigits 21 = .ok (.iload_n 2, 1) := by decide +kernel
theorem dX4_setDigits_22 : decode cX4_setDigits 22 = .ok (.istore 8, 2) := by decide +kernel
theorem dX4_setDigits_24 : decode cX4_setDigits 24 = .ok (.iload 8, 2) := by decide +kernel
theorem dX4_setDigits_26 : decode cX4_setDigits 26 = .ok (.iload_n 3, 1) := by decide +kernel
theorem dX4_setDigits_27 : decode cX4_setDigits 27 = .ok (.if_icmp .ge 70, 3) := by decide +kernel
theorem dX4_setDigits_30 : decode cX4_setDigits 30 = .ok (.aload_n 1, 1) := by decide +kernel
theorem dX4_setDigits_31 : decode cX4_setDigits 31 = .ok (.iload 8, 2) := by decide +kernel
theorem dX4_setDigits_33 : decode cX4_setDigits 33 = .ok (.invokevirtual 62, 3) := by decide +kernel
theorem dX4_setDigits_36 : decode cX4_setDigits 36 = .ok (.istore 9, 2) := by decide +kernel
theorem dX4_setDigits_38 : decode cX4_setDigits 38 = .ok (.iload 9, 2) := by decide +kernel
theorem dX4_setDigits_40 : decode cX4_setDigits 40 = .ok (.bipush 46, 2) := by decide +kernel
theorem dX4_setDigits_42 : decode cX4_setDigits 42 = .ok (.if_icmp .ne 6, 3) := by decide +kernel
theorem dX4_setDigits_45 : decode cX4_setDigits 45 = .ok (.goto 46, 3) := by decide +kernel
theorem dX4_setDigits_48 : decode cX4_setDigits 48 = .ok (.iload 7, 2) := by decide +kernel
theorem dX4_setDigits_50 : decode cX4_setDigits 50 = .ok (.iload 9, 2) := by decide +kernel
theorem dX4_setDigits_52 : decode cX4_setDigits 52 = .ok (.bipush 48, 2) := by decide +kernel
theorem dX4_setDigits_54 : decode cX4_setDigits 54 = .ok (.isub, 1) := by decide +kernel
theorem dX4_setDigits_55 : decode cX4_setDigits 55 = .ok (.iload 6, 2) := by decide +kernel
theorem dX4_setDigits_57 : decode cX4_setDigits 57 = .ok (.imul, 1) := by decide +kernel
theorem dX4_setDigits_58 : decode cX4_setDigits 58 = .ok (.iadd, 1) := by decide +kernel
theorem dX4_setDigits_59 : decode cX4_setDigits 59 = .ok (.istore 7, 2) := by decide +kernel
theorem dX4_setDigits_61 : decode cX4_setDigits 61 = .ok (.iload 6, 2) := by decide +kernel
theorem dX4_setDigits_63 : decode cX4_setDigits 63 = .ok (.bipush 10, 2) := by decide +kernel
theorem dX4_setDigits_65 : decode cX4_setDigits 65 = .ok (.idiv, 1) := by decide +kernel
theorem dX4_setDigits_66 : decode cX4_setDigits 66 = .ok (.istore 6, 2) := by decide +kernel
theorem dX4_setDigits_68 : decode cX4_setDigits 68 = .ok (.iload 6, 2) := by decide +kernel
theorem dX4_setDigits_70 : decode cX4_setDigits 70 = .ok (.ifCond .ne 21, 3) := by decide +kernel
theorem dX4_setDigits_73 : decode cX4_setDigits 73 = .ok (.aload_n 0, 1) := by decide +kernel
theorem dX4_setDigits_74 : decode cX4_setDigits 74 = .ok (.iload 5, 2) := by decide +kernel
theorem dX4_setDigits_76 : decode cX4_setDigits 76 = .ok (.iload 7, 2) := by decide +kernel
theorem dX4_setDigits_78 : decode cX4_setDigits 78 = .ok (.invokevirtual 59, 3) := by decide +kernel
theorem dX4_setDigits_81 : decode cX4_setDigits 81 = .ok (.iinc 5 1, 3) := by decide +kernel
theorem dX4_setDigits_84 : decode cX4_setDigits 84 = .ok (.iconst 0, 1) := by decide +kernel
theorem dX4_setDigits_85 : decode cX4_setDigits 85 = .ok (.istore 7, 2) := by decide +kernel
theorem dX4_setDigits_87 : decode cX4_setDigits 87 = .ok (.ldc 67, 2) := by decide +kernel
theorem dX4_setDigits_89 : decode cX4_setDigits 89 = .ok (.istore 6, 2) := by decide +kernel
theorem dX4_setDigits_91 : decode cX4_setDigits 91 = .ok (.iinc 8 1, 3) := by decide +kernel
theorem dX4_setDigits_94 : decode cX4_setDigits 94 = .ok (.goto (-70), 3) := by decide +kernel
theorem dX4_setDigits_97 : decode cX4_setDigits 97 = .ok (.aload_n 0, 1) := by decide +kernel
theorem dX4_setDigits_98 : decode cX4_setDigits 98 = .ok (.iload 5, 2) := by decide +kernel
theorem dX4_setDigits_100 : decode cX4_setDigits 100 = .ok (.iload 7, 2) := by decide +kernel
theorem dX4_setDigits_102 : decode cX4_setDigits 102 = .ok (.invokevirtual 59, 3) := by decide +kernel
theorem dX4_setDigits_105 : decode cX4_setDigits 105 = .ok (.return_, 1) := by decide +kernel
theorem dX4_placeLimb_0 : decode cX4_placeLimb 0 = .ok (.iload_n 1, 1) := by decide +kernel
theorem dX4_placeLimb_1 : decode cX4_placeLimb 1 = .ok (.sipush 156, 3) := by decide +kernel
theorem dX4_placeLimb_4 : decode cX4_placeLimb 4 = .ok (.if_icmp .lt 12, 3) := by decide +kernel
theorem dX4_placeLimb_7 : decode cX4_placeLimb 7 = .ok (.iload_n 2, 1) := by decide +kernel
theorem dX4_placeLimb_8 : decode cX4_placeLimb 8 = .ok (.ifCond .eq 8, 3) := by decide +kernel
theorem dX4_placeLimb_11 : decode cX4_placeLimb 11 = .ok (.aload_n 0, 1) := by decide +kernel
theorem dX4_placeLimb_12 : decode cX4_placeLimb 12 = .ok (.iconst 1, 1) := by decide +kernel
theorem dX4_placeLimb_13 : decode cX4_placeLimb 13 = .ok (.putfield 22, 3) := by decide +kernel
theorem dX4_placeLimb_16 : decode cX4_placeLimb 16 = .ok (.aload_n 0, 1) := by decide +kernel
theorem dX4_placeLimb_17 : decode cX4_placeLimb 17 = .ok (.iload_n 1, 1) := by decide +kernel
theorem dX4_placeLimb_18 : decode cX4_placeLimb 18 = .ok (.iload_n 2, 1) := by decide +kernel
theorem dX4_placeLimb_19 : decode cX4_placeLimb 19 = .ok (.invokevirtual 45, 3) := by decide +kernel
theorem dX4_placeLimb_22 : decode cX4_placeLimb 22 = .ok (.return_, 1) := by decide +kernel
theorem dX4_limbOf_0 : decode cX4_limbOf 0 = .ok (.bipush 35, 2) := by decide +kernel
theorem dX4_limbOf_2 : decode cX4_limbOf 2 = .ok (.iload_n 0, 1) := by decide +kernel
theorem dX4_limbOf_3 : decode cX4_limbOf 3 = .ok (.bipush 9, 2) := by decide +kernel
theorem dX4_limbOf_5 : decode cX4_limbOf 5 = .ok (.invokestatic 28, 3) := by decide +kernel
theorem dX4_limbOf_8 : decode cX4_limbOf 8 = .ok (.isub, 1) := by decide +kernel
theorem dX4_limbOf_9 : decode cX4_limbOf 9 = .ok (.ireturn, 1) := by decide +kernel
theorem dX4_tenOf_0 : decode cX4_tenOf 0 = .ok (.iload_n 0, 1) := by decide +kernel
theorem dX4_tenOf_1 : decode cX4_tenOf 1 = .ok (.bipush 9, 2) := by decide +kernel
theorem dX4_tenOf_3 : decode cX4_tenOf 3 = .ok (.invokestatic 68, 3) := by decide +kernel
theorem dX4_tenOf_6 : decode cX4_tenOf 6 = .ok (.istore_n 1, 1) := by decide +kernel
theorem dX4_tenOf_7 : decode cX4_tenOf 7 = .ok (.iload_n 1, 1) := by decide +kernel
theorem dX4_tenOf_8 : decode cX4_tenOf 8 = .ok (.ifCond .lt 11, 3) := by decide +kernel
theorem dX4_tenOf_11 : decode cX4_tenOf 11 = .ok (.iload_n 1, 1) := by decide +kernel
theorem dX4_tenOf_12 : decode cX4_tenOf 12 = .ok (.getstatic 71, 3) := by decide +kernel
theorem dX4_tenOf_15 : decode cX4_tenOf 15 = .ok (.arraylength, 1) := by decide +kernel
theorem dX4_tenOf_16 : decode cX4_tenOf 16 = .ok (.if_icmp .lt 7, 3) := by decide +kernel
theorem dX4_tenOf_19 : decode cX4_tenOf 19 = .ok (.iconst 1, 1) := by decide +kernel
theorem dX4_tenOf_20 : decode cX4_tenOf 20 = .ok (.goto 8, 3) := by decide +kernel
theorem dX4_tenOf_23 : decode cX4_tenOf 23 = .ok (.getstatic 71, 3) := by decide +kernel
theorem dX4_tenOf_26 : decode cX4_tenOf 26 = .ok (.iload_n 1, 1) := by decide +kernel
theorem dX4_tenOf_27 : decode cX4_tenOf 27 = .ok (.iaload, 1) := by decide +kernel
theorem dX4_tenOf_28 : decode cX4_tenOf 28 = .ok (.ireturn, 1) := by decide +kernel
theorem dX4_limbAt_0 : decode cX4_limbAt 0 = .ok (.iload_n 1, 1) := by decide +kernel
theorem dX4_limbAt_1 : decode cX4_limbAt 1 = .ok (.ifCond .lt 10, 3) := by decide +kernel
theorem dX4_limbAt_4 : decode cX4_limbAt 4 = .ok (.iload_n 1, 1) := by decide +kernel
theorem dX4_limbAt_5 : decode cX4_limbAt 5 = .ok (.sipush 156, 3) := by decide +kernel
theorem dX4_limbAt_8 : decode cX4_limbAt 8 = .ok (.if_icmp .lt 7, 3) := by decide +kernel
theorem dX4_limbAt_11 : decode cX4_limbAt 11 = .ok (.iconst 0, 1) := by decide +kernel
theorem dX4_limbAt_12 : decode cX4_limbAt 12 = .ok (.goto 9, 3) := by decide +kernel
theorem dX4_limbAt_15 : decode cX4_limbAt 15 = .ok (.aload_n 0, 1) := by decide +kernel
theorem dX4_limbAt_16 : decode cX4_limbAt 16 = .ok (.getfield 11, 3) := by decide +kernel
theorem dX4_limbAt_19 : decode cX4_limbAt 19 = .ok (.iload_n 1, 1) := by decide +kernel
theorem dX4_limbAt_20 : decode cX4_limbAt 20 = .ok (.iaload, 1) := by decide +kernel
theorem dX4_limbAt_21 : decode cX4_limbAt 21 = .ok (.ireturn, 1) := by decide +kernel
theorem dX4_setLimb_0 : decode cX4_setLimb 0 = .ok (.iload_n 1, 1) := by decide +kernel
theorem dX4_setLimb_1 : decode cX4_setLimb 1 = .ok (.ifCond .lt 10, 3) := by decide +kernel
theorem dX4_setLimb_4 : decode cX4_setLimb 4 = .ok (.iload_n 1, 1) := by decide +kernel
theorem dX4_setLimb_5 : decode cX4_setLimb 5 = .ok (.sipush 156, 3) := by decide +kernel
theorem dX4_setLimb_8 : decode cX4_setLimb 8 = .ok (.if_icmp .lt 4, 3) := by decide +kernel
theorem dX4_setLimb_11 : decode cX4_setLimb 11 = .ok (.return_, 1) := by decide +kernel
theorem dX4_setLimb_12 : decode cX4_setLimb 12 = .ok (.aload_n 0, 1) := by decide +kernel
theorem dX4_setLimb_13 : decode cX4_setLimb 13 = .ok (.getfield 11, 3) := by decide +kernel
theorem dX4_setLimb_16 : decode cX4_setLimb 16 = .ok (.iload_n 1, 1) := by decide +kernel
theorem dX4_setLimb_17 : decode cX4_setLimb 17 = .ok (.iload_n 2, 1) := by decide +kernel
theorem dX4_setLimb_18 : decode cX4_setLimb 18 = .ok (.iastore, 1) := by decide +kernel
theorem dX4_setLimb_19 : decode cX4_setLimb 19 = .ok (.iload_n 2, 1) := by decide +kernel
theorem dX4_setLimb_20 : decode cX4_setLimb 20 = .ok (.ifCond .eq 27, 3) := by decide +kernel
theorem dX4_setLimb_23 : decode cX4_setLimb 23 = .ok (.aload_n 0, 1) := by decide +kernel
theorem dX4_setLimb_24 : decode cX4_setLimb 24 = .ok (.aload_n 0, 1) := by decide +kernel
theorem dX4_setLimb_25 : decode cX4_setLimb 25 = .ok (.getfield 15, 3) := by decide +kernel
theorem dX4_setLimb_28 : decode cX4_setLimb 28 = .ok (.iload_n 1, 1) := by decide +kernel
theorem dX4_setLimb_29 : decode cX4_setLimb 29 = .ok (.invokestatic 34, 3) := by decide +kernel
theorem dX4_setLimb_32 : decode cX4_setLimb 32 = .ok (.putfield 15, 3) := by decide +kernel
theorem dX4_setLimb_35 : decode cX4_setLimb 35 = .ok (.aload_n 0, 1) := by decide +kernel
theorem dX4_setLimb_36 : decode cX4_setLimb 36 = .ok (.aload_n 0, 1) := by decide +kernel
theorem dX4_setLimb_37 : decode cX4_setLimb 37 = .ok (.getfield 19, 3) := by decide +kernel
theorem dX4_setLimb_40 : decode cX4_setLimb 40 = .ok (.iload_n 1, 1) := by decide +kernel
theorem dX4_setLimb_41 : decode cX4_setLimb 41 = .ok (.invokestatic 37, 3) := by decide +kernel
theorem dX4_setLimb_44 : decode cX4_setLimb 44 = .ok (.putfield 19, 3) := by decide +kernel
theorem dX4_setLimb_47 : decode cX4_setLimb 47 = .ok (.return_, 1) := by decide +kernel
theorem dX4_scale_0 : decode cX4_scale 0 = .ok (.iload_n 1, 1) := by decide +kernel
theorem dX4_scale_1 : decode cX4_scale 1 = .ok (.istore_n 2, 1) := by decide +kernel
theorem dX4_scale_2 : decode cX4_scale 2 = .ok (.iload_n 2, 1) := by decide +kernel
theorem dX4_scale_3 : decode cX4_scale 3 = .ok (.ifCond .le 19, 3) := by decide +kernel
theorem dX4_scale_6 : decode cX4_scale 6 = .ok (.aload_n 0, 1) := by decide +kernel
theorem dX4_scale_7 : decode cX4_scale 7 = .ok (.iload_n 2, 1) := by decide +kernel
theorem dX4_scale_8 : decode cX4_scale 8 = .ok (.bipush 29, 2) := by decide +kernel
theorem dX4_scale_10 : decode cX4_scale 10 = .ok (.invokestatic 34, 3) := by decide +kernel
theorem dX4_scale_13 : decode cX4_scale 13 = .ok (.invokevirtual 74, 3) := by decide +kernel
theorem dX4_scale_16 : decode cX4_scale 16 = .ok (.iinc 2 (-29), 3) := by decide +kernel
theorem dX4_scale_19 : decode cX4_scale 19 = .ok (.goto (-17), 3) := by decide +kernel
theorem dX4_scale_22 : decode cX4_scale 22 = .ok (.iload_n 1, 1) := by decide +kernel
theorem dX4_scale_23 : decode cX4_scale 23 = .ok (.ineg, 1) := by decide +kernel
theorem dX4_scale_24 : decode cX4_scale 24 = .ok (.istore_n 2, 1) := by decide +kernel
theorem dX4_scale_25 : decode cX4_scale 25 = .ok (.iload_n 2, 1) := by decide +kernel
theorem dX4_scale_26 : decode cX4_scale 26 = .ok (.ifCond .le 19, 3) := by decide +kernel
theorem dX4_scale_29 : decode cX4_scale 29 = .ok (.aload_n 0, 1) := by decide +kernel
theorem dX4_scale_30 : decode cX4_scale 30 = .ok (.iload_n 2, 1) := by decide +kernel
theorem dX4_scale_31 : decode cX4_scale 31 = .ok (.bipush 29, 2) := by decide +kernel
theorem dX4_scale_33 : decode cX4_scale 33 = .ok (.invokestatic 34, 3) := by decide +kernel
theorem dX4_scale_36 : decode cX4_scale 36 = .ok (.invokevirtual 78, 3) := by decide +kernel
theorem dX4_scale_39 : decode cX4_scale 39 = .ok (.iinc 2 (-29), 3) := by decide +kernel
theorem dX4_scale_42 : decode cX4_scale 42 = .ok (.goto (-17), 3) := by decide +kernel
theorem dX4_scale_45 : decode cX4_scale 45 = .ok (.return_, 1) := by decide +kernel
theorem dX4_multiply_0 : decode cX4_multiply 0 = .ok (.lconst 0, 1) := by decide +kernel
theorem dX4_multiply_1 : decode cX4_multiply 1 = .ok (.lstore_n 2, 1) := by decide +kernel
theorem dX4_multiply_2 : decode cX4_multiply 2 = .ok (.aload_n 0, 1) := by decide +kernel
theorem dX4_multiply_3 : decode cX4_multiply 3 = .ok (.getfield 15, 3) := by decide +kernel
theorem dX4_multiply_6 : decode cX4_multiply 6 = .ok (.iconst 0, 1) := by decide +kernel
theorem dX4_multiply_7 : decode cX4_multiply 7 = .ok (.invokestatic 37, 3) := by decide +kernel
theorem dX4_multiply_10 : decode cX4_multiply 10 = .ok (.istore 4, 2) := by decide +kernel
theorem dX4_multiply_12 : decode cX4_multiply 12 = .ok (.aload_n 0, 1) := by decide +kernel
theorem dX4_multiply_13 : decode cX4_multiply 13 = .ok (.getfield 19, 3) := by decide +kernel
theorem dX4_multiply_16 : decode cX4_multiply 16 = .ok (.sipush 155, 3) := by decide +kernel
theorem dX4_multiply_19 : decode cX4_multiply 19 = .ok (.invokestatic 34, 3) := by decide +kernel
theorem dX4_multiply_22 : decode cX4_multiply 22 = .ok (.istore 5, 2) := by decide +kernel
theorem dX4_multiply_24 : decode cX4_multiply 24 = .ok (.iload 5, 2) := by decide +kernel
theorem dX4_multiply_26 : decode cX4_multiply 26 = .ok (.iload 4, 2) := by decide +kernel
theorem dX4_multiply_28 : decode cX4_multiply 28 = .ok (.if_icmp .lt 46, 3) := by decide +kernel
theorem dX4_multiply_31 : decode cX4_multiply 31 = .ok (.aload_n 0, 1) := by decide +kernel
theorem dX4_multiply_32 : decode cX4_multiply 32 = .ok (.getfield 11, 3) := by decide +kernel
theorem dX4_multiply_35 : decode cX4_multiply 35 = .ok (.iload 5, 2) := by decide +kernel
theorem dX4_multiply_37 : decode cX4_multiply 37 = .ok (.iaload, 1) := by decide +kernel
theorem dX4_multiply_38 : decode cX4_multiply 38 = .ok (.i2l, 1) := by decide +kernel
theorem dX4_multiply_39 : decode cX4_multiply 39 = .ok (.iload_n 1, 1) := by decide +kernel
theorem dX4_multiply_40 : decode cX4_multiply 40 = .ok (.lshl, 1) := by decide +kernel
theorem dX4_multiply_41 : decode cX4_multiply 41 = .ok (.lload_n 2, 1) := by decide +kernel
theorem dX4_multiply_42 : decode cX4_multiply 42 = .ok (.ladd, 1) := by decide +kernel
theorem dX4_multiply_43 : decode cX4_multiply 43 = .ok (.lstore 6, 2) := by decide +kernel
theorem dX4_multiply_45 : decode cX4_multiply 45 = .ok (.lload 6, 2) := by decide +kernel
theorem dX4_multiply_47 : decode cX4_multiply 47 = .ok (.ldc2_w 43, 3) := by decide +kernel
theorem dX4_multiply_50 : decode cX4_multiply 50 = .ok (.ldiv, 1) := by decide +kernel
theorem dX4_multiply_51 : decode cX4_multiply 51 = .ok (.lstore_n 2, 1) := by decide +kernel
theorem dX4_multiply_52 : decode cX4_multiply 52 = .ok (.aload_n 0, 1) := by decide +kernel
theorem dX4_multiply_53 : decode cX4_multiply 53 = .ok (.getfield 11, 3) := by decide +kernel
theorem dX4_multiply_56 : decode cX4_multiply 56 = .ok (.iload 5, 2) := by decide +kernel
theorem dX4_multiply_58 : decode cX4_multiply 58 = .ok (.lload 6, 2) := by decide +kernel
theorem dX4_multiply_60 : decode cX4_multiply 60 = .ok (.lload_n 2, 1) := by decide +kernel
theorem dX4_multiply_61 : decode cX4_multiply 61 = .ok (.ldc2_w 43, 3) := by decide +kernel
theorem dX4_multiply_64 : decode cX4_multiply 64 = .ok (.lmul, 1) := by decide +kernel
theorem dX4_multiply_65 : decode cX4_multiply 65 = .ok (.lsub, 1) := by decide +kernel
theorem dX4_multiply_66 : decode cX4_multiply 66 = .ok (.l2i, 1) := by decide +kernel
theorem dX4_multiply_67 : decode cX4_multiply 67 = .ok (.iastore, 1) := by decide +kernel
theorem dX4_multiply_68 : decode cX4_multiply 68 = .ok (.iinc 5 (-1), 3) := by decide +kernel
theorem dX4_multiply_71 : decode cX4_multiply 71 = .ok (.goto (-47), 3) := by decide +kernel
theorem dX4_multiply_74 : decode cX4_multiply 74 = .ok (.aload_n 0, 1) := by decide +kernel
theorem dX4_multiply_75 : decode cX4_multiply 75 = .ok (.aload_n 0, 1) := by decide +kernel
theorem dX4_multiply_76 : decode cX4_multiply 76 = .ok (.getfield 15, 3) := by decide +kernel
theorem dX4_multiply_79 : decode cX4_multiply 79 = .ok (.iconst 1, 1) := by decide +kernel
theorem dX4_multiply_80 : decode cX4_multiply 80 = .ok (.isub, 1) := by decide +kernel
theorem dX4_multiply_81 : decode cX4_multiply 81 = .ok (.lload_n 2, 1) := by decide +kernel
theorem dX4_multiply_82 : decode cX4_multiply 82 = .ok (.l2i, 1) := by decide +kernel
theorem dX4_multiply_83 : decode cX4_multiply 83 = .ok (.invokevirtual 45, 3) := by decide +kernel
theorem dX4_multiply_86 : decode cX4_multiply 86 = .ok (.aload_n 0, 1) := by decide +kernel
theorem dX4_multiply_87 : decode cX4_multiply 87 = .ok (.invokevirtual 81, 3) := by decide +kernel
theorem dX4_multiply_90 : decode cX4_multiply 90 = .ok (.return_, 1) := by decide +kernel
theorem dX4_divide_0 : decode cX4_divide 0 = .ok (.lconst 1, 1) := by decide +kernel
theorem dX4_divide_1 : decode cX4_divide 1 = .ok (.iload_n 1, 1) := by decide +kernel
theorem dX4_divide_2 : decode cX4_divide 2 = .ok (.lshl, 1) := by decide +kernel
theorem dX4_divide_3 : decode cX4_divide 3 = .ok (.lconst 1, 1) := by decide +kernel
theorem dX4_divide_4 : decode cX4_divide 4 = .ok (.lsub, 1) := by decide +kernel
theorem dX4_divide_5 : decode cX4_divide 5 = .ok (.lstore_n 2, 1) := by decide +kernel
theorem dX4_divide_6 : decode cX4_divide 6 = .ok (.lconst 0, 1) := by decide +kernel
theorem dX4_divide_7 : decode cX4_divide 7 = .ok (.lstore 4, 2) := by decide +kernel
theorem dX4_divide_9 : decode cX4_divide 9 = .ok (.aload_n 0, 1) := by decide +kernel
theorem dX4_divide_10 : decode cX4_divide 10 = .ok (.getfield 19, 3) := by decide +kernel
theorem dX4_divide_13 : decode cX4_divide 13 = .ok (.sipush 155, 3) := by decide +kernel
theorem dX4_divide_16 : decode cX4_divide 16 = .ok (.invokestatic 34, 3) := by decide +kernel
theorem dX4_divide_19 : decode cX4_divide 19 = .ok (.istore 6, 2) := by decide +kernel
theorem dX4_divide_21 : decode cX4_divide 21 = .ok (.aload_n 0, 1) := by decide +kernel
theorem dX4_divide_22 : decode cX4_divide 22 = .ok (.getfield 15, 3) := by decide +kernel
theorem dX4_divide_25 : decode cX4_divide 25 = .ok (.iconst 0, 1) := by decide +kernel
theorem dX4_divide_26 : decode cX4_divide 26 = .ok (.invokestatic 37, 3) := by decide +kernel
theorem dX4_divide_29 : decode cX4_divide 29 = .ok (.istore 7, 2) := by decide +kernel
theorem dX4_divide_31 : decode cX4_divide 31 = .ok (.iload 7, 2) := by decide +kernel
theorem dX4_divide_33 : decode cX4_divide 33 = .ok (.iload 6, 2) := by decide +kernel
theorem dX4_divide_35 : decode cX4_divide 35 = .ok (.if_icmp .gt 44, 3) := by decide +kernel
theorem dX4_divide_38 : decode cX4_divide 38 = .ok (.lload 4, 2) := by decide +kernel
theorem dX4_divide_40 : decode cX4_divide 40 = .ok (.ldc2_w 43, 3) := by decide +kernel
theorem dX4_divide_43 : decode cX4_divide 43 = .ok (.lmul, 1) := by decide +kernel
theorem dX4_divide_44 : decode cX4_divide 44 = .ok (.aload_n 0, 1) := by decide +kernel
theorem dX4_divide_45 : decode cX4_divide 45 = .ok (.getfield 11, 3) := by decide +kernel
theorem dX4_divide_48 : decode cX4_divide 48 = .ok (.iload 7, 2) := by decide +kernel
theorem dX4_divide_50 : decode cX4_divide 50 = .ok (.iaload, 1) := by decide +kernel
theorem dX4_divide_51 : decode cX4_divide 51 = .ok (.i2l, 1) := by decide +kernel
theorem dX4_divide_52 : decode cX4_divide 52 = .ok (.ladd, 1) := by decide +kernel
theorem dX4_divide_53 : decode cX4_divide 53 = .ok (.lstore 8, 2) := by decide +kernel
theorem dX4_divide_55 : decode cX4_divide 55 = .ok (.aload_n 0, 1) := by decide +kernel
theorem dX4_divide_56 : decode cX4_divide 56 = .ok (.getfield 11, 3) := by decide +kernel
theorem dX4_divide_59 : decode cX4_divide 59 = .ok (.iload 7, 2) := by decide +kernel
theorem dX4_divide_61 : decode cX4_divide 61 = .ok (.lload 8, 2) := by decide +kernel
theorem dX4_divide_63 : decode cX4_divide 63 = .ok (.iload_n 1, 1) := by decide +kernel
theorem dX4_divide_64 : decode cX4_divide 64 = .ok (.lushr, 1) := by decide +kernel
theorem dX4_divide_65 : decode cX4_divide 65 = .ok (.l2i, 1) := by decide +kernel
theorem dX4_divide_66 : decode cX4_divide 66 = .ok (.iastore, 1) := by decide +kernel
theorem dX4_divide_67 : decode cX4_divide 67 = .ok (.lload 8, 2) := by decide +kernel
theorem dX4_divide_69 : decode cX4_divide 69 = .ok (.lload_n 2, 1) := by decide +kernel
theorem dX4_divide_70 : decode cX4_divide 70 = .ok (.land, 1) := by decide +kernel
theorem dX4_divide_71 : decode cX4_divide 71 = .ok (.lstore 4, 2) := by decide +kernel
theorem dX4_divide_73 : decode cX4_divide 73 = .ok (.iinc 7 1, 3) := by decide +kernel
theorem dX4_divide_76 : decode cX4_divide 76 = .ok (.goto (-45), 3) := by decide +kernel
theorem dX4_divide_79 : decode cX4_divide 79 = .ok (.iload 6, 2) := by decide +kernel
theorem dX4_divide_81 : decode cX4_divide 81 = .ok (.iconst 1, 1) := by decide +kernel
theorem dX4_divide_82 : decode cX4_divide 82 = .ok (.iadd, 1) := by decide +kernel
theorem dX4_divide_83 : decode cX4_divide 83 = .ok (.istore 7, 2) := by decide +kernel
theorem dX4_divide_85 : decode cX4_divide 85 = .ok (.iload 7, 2) := by decide +kernel
theorem dX4_divide_87 : decode cX4_divide 87 = .ok (.sipush 156, 3) := by decide +kernel
theorem dX4_divide_90 : decode cX4_divide 90 = .ok (.if_icmp .ge 41, 3) := by decide +kernel
theorem dX4_divide_93 : decode cX4_divide 93 = .ok (.lload 4, 2) := by decide +kernel
theorem dX4_divide_95 : decode cX4_divide 95 = .ok (.lconst 0, 1) := by decide +kernel
theorem dX4_divide_96 : decode cX4_divide 96 = .ok (.lcmp, 1) := by decide +kernel
theorem dX4_divide_97 : decode cX4_divide 97 = .ok (.ifCond .eq 34, 3) := by decide +kernel
theorem dX4_divide_100 : decode cX4_divide 100 = .ok (.lload 4, 2) := by decide +kernel
theorem dX4_divide_102 : decode cX4_divide 102 = .ok (.ldc2_w 43, 3) := by decide +kernel
theorem dX4_divide_105 : decode cX4_divide 105 = .ok (.lmul, 1) := by decide +kernel
theorem dX4_divide_106 : decode cX4_divide 106 = .ok (.lstore 8, 2) := by decide +kernel
theorem dX4_divide_108 : decode cX4_divide 108 = .ok (.aload_n 0, 1) := by decide +kernel
theorem dX4_divide_109 : decode cX4_divide 109 = .ok (.iload 7, 2) := by decide +kernel
theorem dX4_divide_111 : decode cX4_divide 111 = .ok (.lload 8, 2) := by decide +kernel
theorem dX4_divide_113 : decode cX4_divide 113 = .ok (.iload_n 1, 1) := by decide +kernel
theorem dX4_divide_114 : decode cX4_divide 114 = .ok (.lushr, 1) := by decide +kernel
theorem dX4_divide_115 : decode cX4_divide 115 = .ok (.l2i, 1) := by decide +kernel
theorem dX4_divide_116 : decode cX4_divide 116 = .ok (.invokevirtual 45, 3) := by decide +kernel
theorem dX4_divide_119 : decode cX4_divide 119 = .ok (.lload 8, 2) := by decide +kernel
theorem dX4_divide_121 : decode cX4_divide 121 = .ok (.lload_n 2, 1) := by decide +kernel
theorem dX4_divide_122 : decode cX4_divide 122 = .ok (.land, 1) := by decide +kernel
theorem dX4_divide_123 : decode cX4_divide 123 = .ok (.lstore 4, 2) := by decide +kernel
theorem dX4_divide_125 : decode cX4_divide 125 = .ok (.iinc 7 1, 3) := by decide +kernel
theorem dX4_divide_128 : decode cX4_divide 128 = .ok (.goto (-43), 3) := by decide +kernel
theorem dX4_divide_131 : decode cX4_divide 131 = .ok (.lload 4, 2) := by decide +kernel
theorem dX4_divide_133 : decode cX4_divide 133 = .ok (.lconst 0, 1) := by decide +kernel
theorem dX4_divide_134 : decode cX4_divide 134 = .ok (.lcmp, 1) := by decide +kernel
theorem dX4_divide_135 : decode cX4_divide 135 = .ok (.ifCond .eq 8, 3) := by decide +kernel
theorem dX4_divide_138 : decode cX4_divide 138 = .ok (.aload_n 0, 1) := by decide +kernel
theorem dX4_divide_139 : decode cX4_divide 139 = .ok (.iconst 1, 1) := by decide +kernel
theorem dX4_divide_140 : decode cX4_divide 140 = .ok (.putfield 22, 3) := by decide +kernel
theorem dX4_divide_143 : decode cX4_divide 143 = .ok (.aload_n 0, 1) := by decide +kernel
theorem dX4_divide_144 : decode cX4_divide 144 = .ok (.invokevirtual 81, 3) := by decide +kernel
theorem dX4_divide_147 : decode cX4_divide 147 = .ok (.return_, 1) := by decide +kernel
theorem dX4_trim_0 : decode cX4_trim 0 = .ok (.aload_n 0, 1) := by decide +kernel
theorem dX4_trim_1 : decode cX4_trim 1 = .ok (.getfield 15, 3) := by decide +kernel
theorem dX4_trim_4 : decode cX4_trim 4 = .ok (.aload_n 0, 1) := by decide +kernel
theorem dX4_trim_5 : decode cX4_trim 5 = .ok (.getfield 19, 3) := by decide +kernel
theorem dX4_trim_8 : decode cX4_trim 8 = .ok (.if_icmp .gt 27, 3) := by decide +kernel
theorem dX4_trim_11 : decode cX4_trim 11 = .ok (.aload_n 0, 1) := by decide +kernel
theorem dX4_trim_12 : decode cX4_trim 12 = .ok (.aload_n 0, 1) := by decide +kernel
theorem dX4_trim_13 : decode cX4_trim 13 = .ok (.getfield 19, 3) := by decide +kernel
theorem dX4_trim_16 : decode cX4_trim 16 = .ok (.invokevirtual 53, 3) := by decide +kernel
theorem dX4_trim_19 : decode cX4_trim 19 = .ok (.ifCond .ne 16, 3) := by decide +kernel
theorem dX4_trim_22 : decode cX4_trim 22 = .ok (.aload_n 0, 1) := by decide +kernel
theorem dX4_trim_23 : decode cX4_trim 23 = .ok (.dup, 1) := by decide +kernel
theorem dX4_trim_24 : decode cX4_trim 24 = .ok (.getfield 19, 3) := by decide +kernel
theorem dX4_trim_27 : decode cX4_trim 27 = .ok (.iconst 1, 1) := by decide +kernel
theorem dX4_trim_28 : decode cX4_trim 28 = .ok (.isub, 1) := by decide +kernel
theorem dX4_trim_29 : decode cX4_trim 29 = .ok (.putfield 19, 3) := by decide +kernel
theorem dX4_trim_32 : decode cX4_trim 32 = .ok (.goto (-32), 3) := by decide +kernel
theorem dX4_trim_35 : decode cX4_trim 35 = .ok (.aload_n 0, 1) := by decide +kernel
theorem dX4_trim_36 : decode cX4_trim 36 = .ok (.getfield 15, 3) := by decide +kernel
theorem dX4_trim_39 : decode cX4_trim 39 = .ok (.aload_n 0, 1) := by decide +kernel
theorem dX4_trim_40 : decode cX4_trim 40 = .ok (.getfield 19, 3) := by decide +kernel
theorem dX4_trim_43 : decode cX4_trim 43 = .ok (.if_icmp .gt 27, 3) := by decide +kernel
theorem dX4_trim_46 : decode cX4_trim 46 = .ok (.aload_n 0, 1) := by decide +kernel
theorem dX4_trim_47 : decode cX4_trim 47 = .ok (.aload_n 0, 1) := by decide +kernel
theorem dX4_trim_48 : decode cX4_trim 48 = .ok (.getfield 15, 3) := by decide +kernel
theorem dX4_trim_51 : decode cX4_trim 51 = .ok (.invokevirtual 53, 3) := by decide +kernel
theorem dX4_trim_54 : decode cX4_trim 54 = .ok (.ifCond .ne 16, 3) := by decide +kernel
theorem dX4_trim_57 : decode cX4_trim 57 = .ok (.aload_n 0, 1) := by decide +kernel
theorem dX4_trim_58 : decode cX4_trim 58 = .ok (.dup, 1) := by decide +kernel
theorem dX4_trim_59 : decode cX4_trim 59 = .ok (.getfield 15, 3) := by decide +kernel
theorem dX4_trim_62 : decode cX4_trim 62 = .ok (.iconst 1, 1) := by decide +kernel
theorem dX4_trim_63 : decode cX4_trim 63 = .ok (.iadd, 1) := by decide +kernel
theorem dX4_trim_64 : decode cX4_trim 64 = .ok (.putfield 15, 3) := by decide +kernel
theorem dX4_trim_67 : decode cX4_trim 67 = .ok (.goto (-32), 3) := by decide +kernel
theorem dX4_trim_70 : decode cX4_trim 70 = .ok (.aload_n 0, 1) := by decide +kernel
theorem dX4_trim_71 : decode cX4_trim 71 = .ok (.invokevirtual 84, 3) := by decide +kernel
theorem dX4_trim_74 : decode cX4_trim 74 = .ok (.ifCond .eq 15, 3) := by decide +kernel
theorem dX4_trim_77 : decode cX4_trim 77 = .ok (.aload_n 0, 1) := by decide +kernel
theorem dX4_trim_78 : decode cX4_trim 78 = .ok (.sipush 156, 3) := by decide +kernel
theorem dX4_trim_81 : decode cX4_trim 81 = .ok (.putfield 15, 3) := by decide +kernel
theorem dX4_trim_84 : decode cX4_trim 84 = .ok (.aload_n 0, 1) := by decide +kernel
theorem dX4_trim_85 : decode cX4_trim 85 = .ok (.iconst (-1), 1) := by decide +kernel
theorem dX4_trim_86 : decode cX4_trim 86 = .ok (.putfield 19, 3) := by decide +kernel
theorem dX4_trim_89 : decode cX4_trim 89 = .ok (.return_, 1) := by decide +kernel
theorem dX4_point_0 : decode cX4_point 0 = .ok (.aload_n 0, 1) := by decide +kernel
theorem dX4_point_1 : decode cX4_point 1 = .ok (.invokevirtual 84, 3) := by decide +kernel
theorem dX4_point_4 : decode cX4_point 4 = .ok (.ifCond .eq 5, 3) := by decide +kernel
theorem dX4_point_7 : decode cX4_point 7 = .ok (.iconst 1, 1) := by decide +kernel
theorem dX4_point_8 : decode cX4_point 8 = .ok (.ireturn, 1) := by decide +kernel
theorem dX4_point_9 : decode cX4_point 9 = .ok (.aload_n 0, 1) := by decide +kernel
theorem dX4_point_10 : decode cX4_point 10 = .ok (.aload_n 0, 1) := by decide +kernel
theorem dX4_point_11 : decode cX4_point 11 = .ok (.getfield 15, 3) := by decide +kernel
theorem dX4_point_14 : decode cX4_point 14 = .ok (.invokevirtual 53, 3) := by decide +kernel
theorem dX4_point_17 : decode cX4_point 17 = .ok (.istore_n 1, 1) := by decide +kernel
theorem dX4_point_18 : decode cX4_point 18 = .ok (.iconst 1, 1) := by decide +kernel
theorem dX4_point_19 : decode cX4_point 19 = .ok (.istore_n 2, 1) := by decide +kernel
theorem dX4_point_20 : decode cX4_point 20 = .ok (.iload_n 2, 1) := by decide +kernel
theorem dX4_point_21 : decode cX4_point 21 = .ok (.bipush 9, 2) := by decide +kernel
theorem dX4_point_23 : decode cX4_point 23 = .ok (.if_icmp .ge 17, 3) := by decide +kernel
theorem dX4_point_26 : decode cX4_point 26 = .ok (.iload_n 1, 1) := by decide +kernel
theorem dX4_point_27 : decode cX4_point 27 = .ok (.iload_n 2, 1) := by decide +kernel
theorem dX4_point_28 : decode cX4_point 28 = .ok (.invokestatic 56, 3) := by decide +kernel
theorem dX4_point_31 : decode cX4_point 31 = .ok (.if_icmp .lt 9, 3) := by decide +kernel
theorem dX4_point_34 : decode cX4_point 34 = .ok (.iinc 2 1, 3) := by decide +kernel
theorem dX4_point_37 : decode cX4_point 37 = .ok (.goto (-17), 3) := by decide +kernel
theorem dX4_point_40 : decode cX4_point 40 = .ok (.bipush 35, 2) := by decide +kernel
theorem dX4_point_42 : decode cX4_point 42 = .ok (.aload_n 0, 1) := by decide +kernel
theorem dX4_point_43 : decode cX4_point 43 = .ok (.getfield 15, 3) := by decide +kernel
theorem dX4_point_46 : decode cX4_point 46 = .ok (.isub, 1) := by decide +kernel
theorem dX4_point_47 : decode cX4_point 47 = .ok (.bipush 9, 2) := by decide +kernel
theorem dX4_point_49 : decode cX4_point 49 = .ok (.imul, 1) := by decide +kernel
theorem dX4_point_50 : decode cX4_point 50 = .ok (.iload_n 2, 1) := by decide +kernel
theorem dX4_point_51 : decode cX4_point 51 = .ok (.iadd, 1) := by decide +kernel
theorem dX4_point_52 : decode cX4_point 52 = .ok (.ireturn, 1) := by decide +kernel
theorem dX4_significant_0 : decode cX4_significant 0 = .ok (.aload_n 0, 1) := by decide +kernel
theorem dX4_significant_1 : decode cX4_significant 1 = .ok (.invokevirtual 84, 3) := by decide +kernel
theorem dX4_significant_4 : decode cX4_significant 4 = .ok (.ifCond .eq 7, 3) := by decide +kernel
theorem dX4_significant_7 : decode cX4_significant 7 = .ok (.iconst 1, 1) := by decide +kernel
theorem dX4_significant_8 : decode cX4_significant 8 = .ok (.goto 12, 3) := by decide +kernel
theorem dX4_significant_11 : decode cX4_significant 11 = .ok (.aload_n 0, 1) := by decide +kernel
theorem dX4_significant_12 : decode cX4_significant 12 = .ok (.invokevirtual 88, 3) := by decide +kernel
theorem dX4_significant_15 : decode cX4_significant 15 = .ok (.aload_n 0, 1) := by decide +kernel
theorem dX4_significant_16 : decode cX4_significant 16 = .ok (.invokevirtual 92, 3) := by decide +kernel
theorem dX4_significant_19 : decode cX4_significant 19 = .ok (.isub, 1) := by decide +kernel
theorem dX4_significant_20 : decode cX4_significant 20 = .ok (.ireturn, 1) := by decide +kernel
theorem dX4_lowest_0 : decode cX4_lowest 0 = .ok (.bipush 35, 2) := by decide +kernel
theorem dX4_lowest_2 : decode cX4_lowest 2 = .ok (.aload_n 0, 1) := by decide +kernel
theorem dX4_lowest_3 : decode cX4_lowest 3 = .ok (.getfield 19, 3) := by decide +kernel
theorem dX4_lowest_6 : decode cX4_lowest 6 = .ok (.isub, 1) := by decide +kernel
theorem dX4_lowest_7 : decode cX4_lowest 7 = .ok (.bipush 9, 2) := by decide +kernel
theorem dX4_lowest_9 : decode cX4_lowest 9 = .ok (.imul, 1) := by decide +kernel
theorem dX4_lowest_10 : decode cX4_lowest 10 = .ok (.istore_n 1, 1) := by decide +kernel
theorem dX4_lowest_11 : decode cX4_lowest 11 = .ok (.aload_n 0, 1) := by decide +kernel
theorem dX4_lowest_12 : decode cX4_lowest 12 = .ok (.aload_n 0, 1) := by decide +kernel
theorem dX4_lowest_13 : decode cX4_lowest 13 = .ok (.getfield 19, 3) := by decide +kernel
theorem dX4_lowest_16 : decode cX4_lowest 16 = .ok (.invokevirtual 53, 3) := by decide +kernel
theorem dX4_lowest_19 : decode cX4_lowest 19 = .ok (.istore_n 2, 1) := by decide +kernel
theorem dX4_lowest_20 : decode cX4_lowest 20 = .ok (.iconst 1, 1) := by decide +kernel
theorem dX4_lowest_21 : decode cX4_lowest 21 = .ok (.istore_n 3, 1) := by decide +kernel
theorem dX4_lowest_22 : decode cX4_lowest 22 = .ok (.iload_n 3, 1) := by decide +kernel
theorem dX4_lowest_23 : decode cX4_lowest 23 = .ok (.bipush 9, 2) := by decide +kernel
theorem dX4_lowest_25 : decode cX4_lowest 25 = .ok (.if_icmp .ge 24, 3) := by decide +kernel
theorem dX4_lowest_28 : decode cX4_lowest 28 = .ok (.iload_n 2, 1) := by decide +kernel
theorem dX4_lowest_29 : decode cX4_lowest 29 = .ok (.bipush 10, 2) := by decide +kernel
theorem dX4_lowest_31 : decode cX4_lowest 31 = .ok (.irem, 1) := by decide +kernel
theorem dX4_lowest_32 : decode cX4_lowest 32 = .ok (.ifCond .ne 17, 3) := by decide +kernel
theorem dX4_lowest_35 : decode cX4_lowest 35 = .ok (.iload_n 2, 1) := by decide +kernel
theorem dX4_lowest_36 : decode cX4_lowest 36 = .ok (.bipush 10, 2) := by decide +kernel
theorem dX4_lowest_38 : decode cX4_lowest 38 = .ok (.idiv, 1) := by decide +kernel
theorem dX4_lowest_39 : decode cX4_lowest 39 = .ok (.istore_n 2, 1) := by decide +kernel
theorem dX4_lowest_40 : decode cX4_lowest 40 = .ok (.iinc 1 1, 3) := by decide +kernel
theorem dX4_lowest_43 : decode cX4_lowest 43 = .ok (.iinc 3 1, 3) := by decide +kernel
theorem dX4_lowest_46 : decode cX4_lowest 46 = .ok (.goto (-24), 3) := by decide +kernel
theorem dX4_lowest_49 : decode cX4_lowest 49 = .ok (.iload_n 1, 1) := by decide +kernel
theorem dX4_lowest_50 : decode cX4_lowest 50 = .ok (.ireturn, 1) := by decide +kernel
theorem dX4_giveDigits_0 : decode cX4_giveDigits 0 = .ok (.aload_n 0, 1) := by decide +kernel
theorem dX4_giveDigits_1 : decode cX4_giveDigits 1 = .ok (.getfield 15, 3) := by decide +kernel
theorem dX4_giveDigits_4 : decode cX4_giveDigits 4 = .ok (.istore_n 3, 1) := by decide +kernel
theorem dX4_giveDigits_5 : decode cX4_giveDigits 5 = .ok (.aload_n 0, 1) := by decide +kernel
theorem dX4_giveDigits_6 : decode cX4_giveDigits 6 = .ok (.iload_n 3, 1) := by decide +kernel
theorem dX4_giveDigits_7 : decode cX4_giveDigits 7 = .ok (.invokevirtual 53, 3) := by decide +kernel
theorem dX4_giveDigits_10 : decode cX4_giveDigits 10 = .ok (.istore 4, 2) := by decide +kernel
theorem dX4_giveDigits_12 : decode cX4_giveDigits 12 = .ok (.aload_n 0, 1) := by decide +kernel
theorem dX4_giveDigits_13 : decode cX4_giveDigits 13 = .ok (.invokevirtual 88, 3) := by decide +kernel
theorem dX4_giveDigits_16 : decode cX4_giveDigits 16 = .ok (.iconst 1, 1) := by decide +kernel
theorem dX4_giveDigits_17 : decode cX4_giveDigits 17 = .ok (.isub, 1) := by decide +kernel
theorem dX4_giveDigits_18 : decode cX4_giveDigits 18 = .ok (.invokestatic 56, 3) := by decide +kernel
theorem dX4_giveDigits_21 : decode cX4_giveDigits 21 = .ok (.istore 5, 2) := by decide +kernel
theorem dX4_giveDigits_23 : decode cX4_giveDigits 23 = .ok (.iconst 0, 1) := by decide +kernel
theorem dX4_giveDigits_24 : decode cX4_giveDigits 24 = .ok (.istore 6, 2) := by decide +kernel
theorem dX4_giveDigits_26 : decode cX4_giveDigits 26 = .ok (.iload 6, 2) := by decide +kernel
theorem dX4_giveDigits_28 : decode cX4_giveDigits 28 = .ok (.iload_n 2, 1) := by decide +kernel
theorem dX4_giveDigits_29 : decode cX4_giveDigits 29 = .ok (.if_icmp .ge 60, 3) := by decide +kernel
theorem dX4_giveDigits_32 : decode cX4_giveDigits 32 = .ok (.iload 6, 2) := by decide +kernel
theorem dX4_giveDigits_34 : decode cX4_giveDigits 34 = .ok (.aload_n 1, 1) := by decide +kernel
theorem dX4_giveDigits_35 : decode cX4_giveDigits 35 = .ok (.arraylength, 1) := by decide +kernel
theorem dX4_giveDigits_36 : decode cX4_giveDigits 36 = .ok (.if_icmp .ge 53, 3) := by decide +kernel
theorem dX4_giveDigits_39 : decode cX4_giveDigits 39 = .ok (.iload 5, 2) := by decide +kernel
theorem dX4_giveDigits_41 : decode cX4_giveDigits 41 = .ok (.ifCond .le 48, 3) := by decide +kernel
theorem dX4_giveDigits_44 : decode cX4_giveDigits 44 = .ok (.aload_n 1, 1) := by decide +kernel
theorem dX4_giveDigits_45 : decode cX4_giveDigits 45 = .ok (.iload 6, 2) := by decide +kernel
theorem dX4_giveDigits_47 : decode cX4_giveDigits 47 = .ok (.iload 4, 2) := by decide +kernel
theorem dX4_giveDigits_49 : decode cX4_giveDigits 49 = .ok (.iload 5, 2) := by decide +kernel
theorem dX4_giveDigits_51 : decode cX4_giveDigits 51 = .ok (.idiv, 1) := by decide +kernel
theorem dX4_giveDigits_52 : decode cX4_giveDigits 52 = .ok (.bipush 10, 2) := by decide +kernel
theorem dX4_giveDigits_54 : decode cX4_giveDigits 54 = .ok (.irem, 1) := by decide +kernel
theorem dX4_giveDigits_55 : decode cX4_giveDigits 55 = .ok (.i2b, 1) := by decide +kernel
theorem dX4_giveDigits_56 : decode cX4_giveDigits 56 = .ok (.bastore, 1) := by decide +kernel
theorem dX4_giveDigits_57 : decode cX4_giveDigits 57 = .ok (.iload 5, 2) := by decide +kernel
theorem dX4_giveDigits_59 : decode cX4_giveDigits 59 = .ok (.bipush 10, 2) := by decide +kernel
theorem dX4_giveDigits_61 : decode cX4_giveDigits 61 = .ok (.idiv, 1) := by decide +kernel
theorem dX4_giveDigits_62 : decode cX4_giveDigits 62 = .ok (.istore 5, 2) := by decide +kernel
theorem dX4_giveDigits_64 : decode cX4_giveDigits 64 = .ok (.iload 5, 2) := by decide +kernel
theorem dX4_giveDigits_66 : decode cX4_giveDigits 66 = .ok (.ifCond .ne 17, 3) := by decide +kernel
theorem dX4_giveDigits_69 : decode cX4_giveDigits 69 = .ok (.iinc 3 1, 3) := by decide +kernel
theorem dX4_giveDigits_72 : decode cX4_giveDigits 72 = .ok (.aload_n 0, 1) := by decide +kernel
theorem dX4_giveDigits_73 : decode cX4_giveDigits 73 = .ok (.iload_n 3, 1) := by decide +kernel
theorem dX4_giveDigits_74 : decode cX4_giveDigits 74 = .ok (.invokevirtual 53, 3) := by decide +kernel
theorem dX4_giveDigits_77 : decode cX4_giveDigits 77 = .ok (.istore 4, 2) := by decide +kernel
theorem dX4_giveDigits_79 : decode cX4_giveDigits 79 = .ok (.ldc 67, 2) := by decide +kernel
theorem dX4_giveDigits_81 : decode cX4_giveDigits 81 = .ok (.istore 5, 2) := by decide +kernel
theorem dX4_giveDigits_83 : decode cX4_giveDigits 83 = .ok (.iinc 6 1, 3) := by decide +kernel
theorem dX4_giveDigits_86 : decode cX4_giveDigits 86 = .ok (.goto (-60), 3) := by decide +kernel
theorem dX4_giveDigits_89 : decode cX4_giveDigits 89 = .ok (.return_, 1) := by decide +kernel
theorem dX4_digitAt_0 : decode cX4_digitAt 0 = .ok (.iload_n 1, 1) := by decide +kernel
theorem dX4_digitAt_1 : decode cX4_digitAt 1 = .ok (.invokestatic 56, 3) := by decide +kernel
theorem dX4_digitAt_4 : decode cX4_digitAt 4 = .ok (.istore_n 2, 1) := by decide +kernel
theorem dX4_digitAt_5 : decode cX4_digitAt 5 = .ok (.iload_n 2, 1) := by decide +kernel
theorem dX4_digitAt_6 : decode cX4_digitAt 6 = .ok (.ifCond .le 19, 3) := by decide +kernel
theorem dX4_digitAt_9 : decode cX4_digitAt 9 = .ok (.aload_n 0, 1) := by decide +kernel
theorem dX4_digitAt_10 : decode cX4_digitAt 10 = .ok (.iload_n 1, 1) := by decide +kernel
theorem dX4_digitAt_11 : decode cX4_digitAt 11 = .ok (.invokestatic 49, 3) := by decide +kernel
theorem dX4_digitAt_14 : decode cX4_digitAt 14 = .ok (.invokevirtual 53, 3) := by decide +kernel
theorem dX4_digitAt_17 : decode cX4_digitAt 17 = .ok (.iload_n 2, 1) := by decide +kernel
theorem dX4_digitAt_18 : decode cX4_digitAt 18 = .ok (.idiv, 1) := by decide +kernel
theorem dX4_digitAt_19 : decode cX4_digitAt 19 = .ok (.bipush 10, 2) := by decide +kernel
theorem dX4_digitAt_21 : decode cX4_digitAt 21 = .ok (.irem, 1) := by decide +kernel
theorem dX4_digitAt_22 : decode cX4_digitAt 22 = .ok (.goto 4, 3) := by decide +kernel
theorem dX4_digitAt_25 : decode cX4_digitAt 25 = .ok (.iconst 0, 1) := by decide +kernel
theorem dX4_digitAt_26 : decode cX4_digitAt 26 = .ok (.ireturn, 1) := by decide +kernel
theorem dX4_restBelow_0 : decode cX4_restBelow 0 = .ok (.aload_n 0, 1) := by decide +kernel
theorem dX4_restBelow_1 : decode cX4_restBelow 1 = .ok (.iload_n 1, 1) := by decide +kernel
theorem dX4_restBelow_2 : decode cX4_restBelow 2 = .ok (.iconst 1, 1) := by decide +kernel
theorem dX4_restBelow_3 : decode cX4_restBelow 3 = .ok (.isub, 1) := by decide +kernel
theorem dX4_restBelow_4 : decode cX4_restBelow 4 = .ok (.invokevirtual 95, 3) := by decide +kernel
theorem dX4_restBelow_7 : decode cX4_restBelow 7 = .ok (.istore_n 2, 1) := by decide +kernel
theorem dX4_restBelow_8 : decode cX4_restBelow 8 = .ok (.aload_n 0, 1) := by decide +kernel
theorem dX4_restBelow_9 : decode cX4_restBelow 9 = .ok (.invokevirtual 84, 3) := by decide +kernel
theorem dX4_restBelow_12 : decode cX4_restBelow 12 = .ok (.ifCond .ne 17, 3) := by decide +kernel
theorem dX4_restBelow_15 : decode cX4_restBelow 15 = .ok (.aload_n 0, 1) := by decide +kernel
theorem dX4_restBelow_16 : decode cX4_restBelow 16 = .ok (.invokevirtual 92, 3) := by decide +kernel
theorem dX4_restBelow_19 : decode cX4_restBelow 19 = .ok (.iload_n 1, 1) := by decide +kernel
theorem dX4_restBelow_20 : decode cX4_restBelow 20 = .ok (.iconst 1, 1) := by decide +kernel
theorem dX4_restBelow_21 : decode cX4_restBelow 21 = .ok (.isub, 1) := by decide +kernel
theorem dX4_restBelow_22 : decode cX4_restBelow 22 = .ok (.if_icmp .ge 7, 3) := by decide +kernel
theorem dX4_restBelow_25 : decode cX4_restBelow 25 = .ok (.iconst 1, 1) := by decide +kernel
theorem dX4_restBelow_26 : decode cX4_restBelow 26 = .ok (.goto 4, 3) := by decide +kernel
theorem dX4_restBelow_29 : decode cX4_restBelow 29 = .ok (.iconst 0, 1) := by decide +kernel
theorem dX4_restBelow_30 : decode cX4_restBelow 30 = .ok (.istore_n 3, 1) := by decide +kernel
theorem dX4_restBelow_31 : decode cX4_restBelow 31 = .ok (.iload_n 2, 1) := by decide +kernel
theorem dX4_restBelow_32 : decode cX4_restBelow 32 = .ok (.iconst 5, 1) := by decide +kernel
theorem dX4_restBelow_33 : decode cX4_restBelow 33 = .ok (.if_icmp .gt 12, 3) := by decide +kernel
theorem dX4_restBelow_36 : decode cX4_restBelow 36 = .ok (.iload_n 2, 1) := by decide +kernel
theorem dX4_restBelow_37 : decode cX4_restBelow 37 = .ok (.iconst 5, 1) := by decide +kernel
theorem dX4_restBelow_38 : decode cX4_restBelow 38 = .ok (.if_icmp .ne 9, 3) := by decide +kernel
theorem dX4_restBelow_41 : decode cX4_restBelow 41 = .ok (.iload_n 3, 1) := by decide +kernel
theorem dX4_restBelow_42 : decode cX4_restBelow 42 = .ok (.ifCond .eq 5, 3) := by decide +kernel
theorem dX4_restBelow_45 : decode cX4_restBelow 45 = .ok (.iconst 3, 1) := by decide +kernel
theorem dX4_restBelow_46 : decode cX4_restBelow 46 = .ok (.ireturn, 1) := by decide +kernel
theorem dX4_restBelow_47 : decode cX4_restBelow 47 = .ok (.iload_n 2, 1) := by decide +kernel
theorem dX4_restBelow_48 : decode cX4_restBelow 48 = .ok (.iconst 5, 1) := by decide +kernel
theorem dX4_restBelow_49 : decode cX4_restBelow 49 = .ok (.if_icmp .ne 5, 3) := by decide +kernel
theorem dX4_restBelow_52 : decode cX4_restBelow 52 = .ok (.iconst 2, 1) := by decide +kernel
theorem dX4_restBelow_53 : decode cX4_restBelow 53 = .ok (.ireturn, 1) := by decide +kernel
theorem dX4_restBelow_54 : decode cX4_restBelow 54 = .ok (.iload_n 2, 1) := by decide +kernel
theorem dX4_restBelow_55 : decode cX4_restBelow 55 = .ok (.ifCond .gt 7, 3) := by decide +kernel
theorem dX4_restBelow_58 : decode cX4_restBelow 58 = .ok (.iload_n 3, 1) := by decide +kernel
theorem dX4_restBelow_59 : decode cX4_restBelow 59 = .ok (.ifCond .eq 7, 3) := by decide +kernel
theorem dX4_restBelow_62 : decode cX4_restBelow 62 = .ok (.iconst 1, 1) := by decide +kernel
theorem dX4_restBelow_63 : decode cX4_restBelow 63 = .ok (.goto 4, 3) := by decide +kernel
theorem dX4_restBelow_66 : decode cX4_restBelow 66 = .ok (.iconst 0, 1) := by decide +kernel
theorem dX4_restBelow_67 : decode cX4_restBelow 67 = .ok (.ireturn, 1) := by decide +kernel
theorem dX4_takeDownTo_0 : decode cX4_takeDownTo 0 = .ok (.aload_n 0, 1) := by decide +kernel
theorem dX4_takeDownTo_1 : decode cX4_takeDownTo 1 = .ok (.invokevirtual 40, 3) := by decide +kernel
theorem dX4_takeDownTo_4 : decode cX4_takeDownTo 4 = .ok (.iload_n 2, 1) := by decide +kernel
theorem dX4_takeDownTo_5 : decode cX4_takeDownTo 5 = .ok (.invokestatic 49, 3) := by decide +kernel
theorem dX4_takeDownTo_8 : decode cX4_takeDownTo 8 = .ok (.istore_n 3, 1) := by decide +kernel
theorem dX4_takeDownTo_9 : decode cX4_takeDownTo 9 = .ok (.aload_n 1, 1) := by decide +kernel
theorem dX4_takeDownTo_10 : decode cX4_takeDownTo 10 = .ok (.getfield 15, 3) := by decide +kernel
theorem dX4_takeDownTo_13 : decode cX4_takeDownTo 13 = .ok (.istore 4, 2) := by decide +kernel
theorem dX4_takeDownTo_15 : decode cX4_takeDownTo 15 = .ok (.iload 4, 2) := by decide +kernel
theorem dX4_takeDownTo_17 : decode cX4_takeDownTo 17 = .ok (.aload_n 1, 1) := by decide +kernel
theorem dX4_takeDownTo_18 : decode cX4_takeDownTo 18 = .ok (.getfield 19, 3) := by decide +kernel
theorem dX4_takeDownTo_21 : decode cX4_takeDownTo 21 = .ok (.if_icmp .gt 27, 3) := by decide +kernel
theorem dX4_takeDownTo_24 : decode cX4_takeDownTo 24 = .ok (.iload 4, 2) := by decide +kernel
theorem dX4_takeDownTo_26 : decode cX4_takeDownTo 26 = .ok (.iload_n 3, 1) := by decide +kernel
theorem dX4_takeDownTo_27 : decode cX4_takeDownTo 27 = .ok (.if_icmp .ge 21, 3) := by decide +kernel
theorem dX4_takeDownTo_30 : decode cX4_takeDownTo 30 = .ok (.aload_n 0, 1) := by decide +kernel
theorem dX4_takeDownTo_31 : decode cX4_takeDownTo 31 = .ok (.iload 4, 2) := by decide +kernel
theorem dX4_takeDownTo_33 : decode cX4_takeDownTo 33 = .ok (.aload_n 1, 1) := by decide +kernel
theorem dX4_takeDownTo_34 : decode cX4_takeDownTo 34 = .ok (.iload 4, 2) := by decide +kernel
theorem dX4_takeDownTo_36 : decode cX4_takeDownTo 36 = .ok (.invokevirtual 53, 3) := by decide +kernel
theorem dX4_takeDownTo_39 : decode cX4_takeDownTo 39 = .ok (.invokevirtual 45, 3) := by decide +kernel
theorem dX4_takeDownTo_42 : decode cX4_takeDownTo 42 = .ok (.iinc 4 1, 3) := by decide +kernel
theorem dX4_takeDownTo_45 : decode cX4_takeDownTo 45 = .ok (.goto (-30), 3) := by decide +kernel
theorem dX4_takeDownTo_48 : decode cX4_takeDownTo 48 = .ok (.aload_n 1, 1) := by decide +kernel
theorem dX4_takeDownTo_49 : decode cX4_takeDownTo 49 = .ok (.iload_n 3, 1) := by decide +kernel
theorem dX4_takeDownTo_50 : decode cX4_takeDownTo 50 = .ok (.invokevirtual 53, 3) := by decide +kernel
theorem dX4_takeDownTo_53 : decode cX4_takeDownTo 53 = .ok (.istore 4, 2) := by decide +kernel
theorem dX4_takeDownTo_55 : decode cX4_takeDownTo 55 = .ok (.iload_n 2, 1) := by decide +kernel
theorem dX4_takeDownTo_56 : decode cX4_takeDownTo 56 = .ok (.invokestatic 56, 3) := by decide +kernel
theorem dX4_takeDownTo_59 : decode cX4_takeDownTo 59 = .ok (.istore 5, 2) := by decide +kernel
theorem dX4_takeDownTo_61 : decode cX4_takeDownTo 61 = .ok (.aload_n 0, 1) := by decide +kernel
theorem dX4_takeDownTo_62 : decode cX4_takeDownTo 62 = .ok (.iload_n 3, 1) := by decide +kernel
theorem dX4_takeDownTo_63 : decode cX4_takeDownTo 63 = .ok (.iload 5, 2) := by decide +kernel
theorem dX4_takeDownTo_65 : decode cX4_takeDownTo 65 = .ok (.ifCond .le 14, 3) := by decide +kernel
theorem dX4_takeDownTo_68 : decode cX4_takeDownTo 68 = .ok (.iload 4, 2) := by decide +kernel
theorem dX4_takeDownTo_70 : decode cX4_takeDownTo 70 = .ok (.iload 4, 2) := by decide +kernel
theorem dX4_takeDownTo_72 : decode cX4_takeDownTo 72 = .ok (.iload 5, 2) := by decide +kernel
theorem dX4_takeDownTo_74 : decode cX4_takeDownTo 74 = .ok (.irem, 1) := by decide +kernel
theorem dX4_takeDownTo_75 : decode cX4_takeDownTo 75 = .ok (.isub, 1) := by decide +kernel
theorem dX4_takeDownTo_76 : decode cX4_takeDownTo 76 = .ok (.goto 5, 3) := by decide +kernel
theorem dX4_takeDownTo_79 : decode cX4_takeDownTo 79 = .ok (.iload 4, 2) := by decide +kernel
theorem dX4_takeDownTo_81 : decode cX4_takeDownTo 81 = .ok (.invokevirtual 45, 3) := by decide +kernel
theorem dX4_takeDownTo_84 : decode cX4_takeDownTo 84 = .ok (.return_, 1) := by decide +kernel
theorem dX4_addUnit_0 : decode cX4_addUnit 0 = .ok (.iload_n 1, 1) := by decide +kernel
theorem dX4_addUnit_1 : decode cX4_addUnit 1 = .ok (.invokestatic 56, 3) := by decide +kernel
theorem dX4_addUnit_4 : decode cX4_addUnit 4 = .ok (.istore_n 2, 1) := by decide +kernel
theorem dX4_addUnit_5 : decode cX4_addUnit 5 = .ok (.iload_n 1, 1) := by decide +kernel
theorem dX4_addUnit_6 : decode cX4_addUnit 6 = .ok (.invokestatic 49, 3) := by decide +kernel
theorem dX4_addUnit_9 : decode cX4_addUnit 9 = .ok (.sipush 155, 3) := by decide +kernel
theorem dX4_addUnit_12 : decode cX4_addUnit 12 = .ok (.invokestatic 34, 3) := by decide +kernel
theorem dX4_addUnit_15 : decode cX4_addUnit 15 = .ok (.istore_n 3, 1) := by decide +kernel
theorem dX4_addUnit_16 : decode cX4_addUnit 16 = .ok (.iload_n 3, 1) := by decide +kernel
theorem dX4_addUnit_17 : decode cX4_addUnit 17 = .ok (.ifCond .lt 57, 3) := by decide +kernel
theorem dX4_addUnit_20 : decode cX4_addUnit 20 = .ok (.iload_n 2, 1) := by decide +kernel
theorem dX4_addUnit_21 : decode cX4_addUnit 21 = .ok (.ifCond .le 53, 3) := by decide +kernel
theorem dX4_addUnit_24 : decode cX4_addUnit 24 = .ok (.aload_n 0, 1) := by decide +kernel
theorem dX4_addUnit_25 : decode cX4_addUnit 25 = .ok (.iload_n 3, 1) := by decide +kernel
theorem dX4_addUnit_26 : decode cX4_addUnit 26 = .ok (.invokevirtual 53, 3) := by decide +kernel
theorem dX4_addUnit_29 : decode cX4_addUnit 29 = .ok (.iload_n 2, 1) := by decide +kernel
theorem dX4_addUnit_30 : decode cX4_addUnit 30 = .ok (.iadd, 1) := by decide +kernel
theorem dX4_addUnit_31 : decode cX4_addUnit 31 = .ok (.istore 4, 2) := by decide +kernel
theorem dX4_addUnit_33 : decode cX4_addUnit 33 = .ok (.iload 4, 2) := by decide +kernel
theorem dX4_addUnit_35 : decode cX4_addUnit 35 = .ok (.ldc 98, 2) := by decide +kernel
theorem dX4_addUnit_37 : decode cX4_addUnit 37 = .ok (.if_icmp .lt 7, 3) := by decide +kernel
theorem dX4_addUnit_40 : decode cX4_addUnit 40 = .ok (.iconst 1, 1) := by decide +kernel
theorem dX4_addUnit_41 : decode cX4_addUnit 41 = .ok (.goto 4, 3) := by decide +kernel
theorem dX4_addUnit_44 : decode cX4_addUnit 44 = .ok (.iconst 0, 1) := by decide +kernel
theorem dX4_addUnit_45 : decode cX4_addUnit 45 = .ok (.istore_n 2, 1) := by decide +kernel
theorem dX4_addUnit_46 : decode cX4_addUnit 46 = .ok (.aload_n 0, 1) := by decide +kernel
theorem dX4_addUnit_47 : decode cX4_addUnit 47 = .ok (.iload_n 3, 1) := by decide +kernel
theorem dX4_addUnit_48 : decode cX4_addUnit 48 = .ok (.iload 4, 2) := by decide +kernel
theorem dX4_addUnit_50 : decode cX4_addUnit 50 = .ok (.ldc 98, 2) := by decide +kernel
theorem dX4_addUnit_52 : decode cX4_addUnit 52 = .ok (.if_icmp .lt 11, 3) := by decide +kernel
theorem dX4_addUnit_55 : decode cX4_addUnit 55 = .ok (.iload 4, 2) := by decide +kernel
theorem dX4_addUnit_57 : decode cX4_addUnit 57 = .ok (.ldc 98, 2) := by decide +kernel
theorem dX4_addUnit_59 : decode cX4_addUnit 59 = .ok (.isub, 1) := by decide +kernel
theorem dX4_addUnit_60 : decode cX4_addUnit 60 = .ok (.goto 5, 3) := by decide +kernel
theorem dX4_addUnit_63 : decode cX4_addUnit 63 = .ok (.iload 4, 2) := by decide +kernel
theorem dX4_addUnit_65 : decode cX4_addUnit 65 = .ok (.invokevirtual 45, 3) := by decide +kernel
theorem dX4_addUnit_68 : decode cX4_addUnit 68 = .ok (.iinc 3 (-1), 3) := by decide +kernel
theorem dX4_addUnit_71 : decode cX4_addUnit 71 = .ok (.goto (-55), 3) := by decide +kernel
theorem dX4_addUnit_74 : decode cX4_addUnit 74 = .ok (.aload_n 0, 1) := by decide +kernel
theorem dX4_addUnit_75 : decode cX4_addUnit 75 = .ok (.invokevirtual 81, 3) := by decide +kernel
theorem dX4_addUnit_78 : decode cX4_addUnit 78 = .ok (.return_, 1) := by decide +kernel
theorem dX4_against_0 : decode cX4_against 0 = .ok (.aload_n 0, 1) := by decide +kernel
theorem dX4_against_1 : decode cX4_against 1 = .ok (.getfield 19, 3) := by decide +kernel
theorem dX4_against_4 : decode cX4_against 4 = .ok (.aload_n 1, 1) := by decide +kernel
theorem dX4_against_5 : decode cX4_against 5 = .ok (.getfield 19, 3) := by decide +kernel
theorem dX4_against_8 : decode cX4_against 8 = .ok (.invokestatic 37, 3) := by decide +kernel
theorem dX4_against_11 : decode cX4_against 11 = .ok (.istore_n 2, 1) := by decide +kernel
theorem dX4_against_12 : decode cX4_against 12 = .ok (.aload_n 0, 1) := by decide +kernel
theorem dX4_against_13 : decode cX4_against 13 = .ok (.getfield 15, 3) := by decide +kernel
theorem dX4_against_16 : decode cX4_against 16 = .ok (.aload_n 1, 1) := by decide +kernel
theorem dX4_against_17 : decode cX4_against 17 = .ok (.getfield 15, 3) := by decide +kernel
theorem dX4_against_20 : decode cX4_against 20 = .ok (.invokestatic 34, 3) := by decide +kernel
theorem dX4_against_23 : decode cX4_against 23 = .ok (.istore_n 3, 1) := by decide +kernel
theorem dX4_against_24 : decode cX4_against 24 = .ok (.iload_n 3, 1) := by decide +kernel
theorem dX4_against_25 : decode cX4_against 25 = .ok (.iload_n 2, 1) := by decide +kernel
theorem dX4_against_26 : decode cX4_against 26 = .ok (.if_icmp .gt 30, 3) := by decide +kernel
theorem dX4_against_29 : decode cX4_against 29 = .ok (.aload_n 0, 1) := by decide +kernel
theorem dX4_against_30 : decode cX4_against 30 = .ok (.iload_n 3, 1) := by decide +kernel
theorem dX4_against_31 : decode cX4_against 31 = .ok (.invokevirtual 53, 3) := by decide +kernel
theorem dX4_against_34 : decode cX4_against 34 = .ok (.aload_n 1, 1) := by decide +kernel
theorem dX4_against_35 : decode cX4_against 35 = .ok (.iload_n 3, 1) := by decide +kernel
theorem dX4_against_36 : decode cX4_against 36 = .ok (.invokevirtual 53, 3) := by decide +kernel
theorem dX4_against_39 : decode cX4_against 39 = .ok (.isub, 1) := by decide +kernel
theorem dX4_against_40 : decode cX4_against 40 = .ok (.istore 4, 2) := by decide +kernel
theorem dX4_against_42 : decode cX4_against 42 = .ok (.iload 4, 2) := by decide +kernel
theorem dX4_against_44 : decode cX4_against 44 = .ok (.ifCond .eq 6, 3) := by decide +kernel
theorem dX4_against_47 : decode cX4_against 47 = .ok (.iload 4, 2) := by decide +kernel
theorem dX4_against_49 : decode cX4_against 49 = .ok (.ireturn, 1) := by decide +kernel
theorem dX4_against_50 : decode cX4_against 50 = .ok (.iinc 3 1, 3) := by decide +kernel
theorem dX4_against_53 : decode cX4_against 53 = .ok (.goto (-29), 3) := by decide +kernel
theorem dX4_against_56 : decode cX4_against 56 = .ok (.iconst 0, 1) := by decide +kernel
theorem dX4_against_57 : decode cX4_against 57 = .ok (.ireturn, 1) := by decide +kernel
theorem dX4_whole_0 : decode cX4_whole 0 = .ok (.aload_n 0, 1) := by decide +kernel
theorem dX4_whole_1 : decode cX4_whole 1 = .ok (.bipush 33, 2) := by decide +kernel
theorem dX4_whole_3 : decode cX4_whole 3 = .ok (.invokevirtual 53, 3) := by decide +kernel
theorem dX4_whole_6 : decode cX4_whole 6 = .ok (.i2l, 1) := by decide +kernel
theorem dX4_whole_7 : decode cX4_whole 7 = .ok (.lstore_n 1, 1) := by decide +kernel
theorem dX4_whole_8 : decode cX4_whole 8 = .ok (.lload_n 1, 1) := by decide +kernel
theorem dX4_whole_9 : decode cX4_whole 9 = .ok (.ldc2_w 43, 3) := by decide +kernel
theorem dX4_whole_12 : decode cX4_whole 12 = .ok (.lmul, 1) := by decide +kernel
theorem dX4_whole_13 : decode cX4_whole 13 = .ok (.aload_n 0, 1) := by decide +kernel
theorem dX4_whole_14 : decode cX4_whole 14 = .ok (.bipush 34, 2) := by decide +kernel
theorem dX4_whole_16 : decode cX4_whole 16 = .ok (.invokevirtual 53, 3) := by decide +kernel
theorem dX4_whole_19 : decode cX4_whole 19 = .ok (.i2l, 1) := by decide +kernel
theorem dX4_whole_20 : decode cX4_whole 20 = .ok (.ladd, 1) := by decide +kernel
theorem dX4_whole_21 : decode cX4_whole 21 = .ok (.lstore_n 1, 1) := by decide +kernel
theorem dX4_whole_22 : decode cX4_whole 22 = .ok (.lload_n 1, 1) := by decide +kernel
theorem dX4_whole_23 : decode cX4_whole 23 = .ok (.ldc2_w 43, 3) := by decide +kernel
theorem dX4_whole_26 : decode cX4_whole 26 = .ok (.lmul, 1) := by decide +kernel
theorem dX4_whole_27 : decode cX4_whole 27 = .ok (.aload_n 0, 1) := by decide +kernel
theorem dX4_whole_28 : decode cX4_whole 28 = .ok (.bipush 35, 2) := by decide +kernel
theorem dX4_whole_30 : decode cX4_whole 30 = .ok (.invokevirtual 53, 3) := by decide +kernel
theorem dX4_whole_33 : decode cX4_whole 33 = .ok (.i2l, 1) := by decide +kernel
theorem dX4_whole_34 : decode cX4_whole 34 = .ok (.ladd, 1) := by decide +kernel
theorem dX4_whole_35 : decode cX4_whole 35 = .ok (.lreturn, 1) := by decide +kernel
theorem dX4_hasMore_0 : decode cX4_hasMore 0 = .ok (.aload_n 0, 1) := by decide +kernel
theorem dX4_hasMore_1 : decode cX4_hasMore 1 = .ok (.getfield 22, 3) := by decide +kernel
theorem dX4_hasMore_4 : decode cX4_hasMore 4 = .ok (.ifCond .ne 12, 3) := by decide +kernel
theorem dX4_hasMore_7 : decode cX4_hasMore 7 = .ok (.aload_n 0, 1) := by decide +kernel
theorem dX4_hasMore_8 : decode cX4_hasMore 8 = .ok (.getfield 19, 3) := by decide +kernel
theorem dX4_hasMore_11 : decode cX4_hasMore 11 = .ok (.bipush 36, 2) := by decide +kernel
theorem dX4_hasMore_13 : decode cX4_hasMore 13 = .ok (.if_icmp .lt 7, 3) := by decide +kernel
theorem dX4_hasMore_16 : decode cX4_hasMore 16 = .ok (.iconst 1, 1) := by decide +kernel
theorem dX4_hasMore_17 : decode cX4_hasMore 17 = .ok (.goto 4, 3) := by decide +kernel
theorem dX4_hasMore_20 : decode cX4_hasMore 20 = .ok (.iconst 0, 1) := by decide +kernel
theorem dX4_hasMore_21 : decode cX4_hasMore 21 = .ok (.ireturn, 1) := by decide +kernel
theorem dX5_init_0 : decode cX5_init 0 = .ok (.aload_n 0, 1) := by decide +kernel
theorem dX5_init_1 : decode cX5_init 1 = .ok (.invokespecial 3, 3) := by decide +kernel
theorem dX5_init_4 : decode cX5_init 4 = .ok (.aload_n 0, 1) := by decide +kernel
theorem dX5_init_5 : decode cX5_init 5 = .ok (.iconst 0, 1) := by decide +kernel
theorem dX5_init_6 : decode cX5_init 6 = .ok (.putfield 11, 3) := by decide +kernel
theorem dX5_init_9 : decode cX5_init 9 = .ok (.aload_n 0, 1) := by decide +kernel
theorem dX5_init_10 : decode cX5_init 10 = .ok (.iconst 0, 1) := by decide +kernel
theorem dX5_init_11 : decode cX5_init 11 = .ok (.putfield 15, 3) := by decide +kernel
theorem dX5_init_14 : decode cX5_init 14 = .ok (.aload_n 0, 1) := by decide +kernel
theorem dX5_init_15 : decode cX5_init 15 = .ok (.iconst 0, 1) := by decide +kernel
theorem dX5_init_16 : decode cX5_init 16 = .ok (.putfield 19, 3) := by decide +kernel
theorem dX5_init_19 : decode cX5_init 19 = .ok (.aload_n 0, 1) := by decide +kernel
theorem dX5_init_20 : decode cX5_init 20 = .ok (.iconst 0, 1) := by decide +kernel
theorem dX5_init_21 : decode cX5_init 21 = .ok (.putfield 22, 3) := by decide +kernel
theorem dX5_init_24 : decode cX5_init 24 = .ok (.aload_n 0, 1) := by decide +kernel
theorem dX5_init_25 : decode cX5_init 25 = .ok (.iconst 0, 1) := by decide +kernel
theorem dX5_init_26 : decode cX5_init 26 = .ok (.putfield 25, 3) := by decide +kernel
theorem dX5_init_29 : decode cX5_init 29 = .ok (.aload_n 0, 1) := by decide +kernel
theorem dX5_init_30 : decode cX5_init 30 = .ok (.iconst 0, 1) := by decide +kernel
theorem dX5_init_31 : decode cX5_init 31 = .ok (.putfield 28, 3) := by decide +kernel
theorem dX5_init_34 : decode cX5_init 34 = .ok (.aload_n 0, 1) := by decide +kernel
theorem dX5_init_35 : decode cX5_init 35 = .ok (.iconst 0, 1) := by decide +kernel
theorem dX5_init_36 : decode cX5_init 36 = .ok (.putfield 31, 3) := by decide +kernel
theorem dX5_init_39 : decode cX5_init 39 = .ok (.aload_n 0, 1) := by decide +kernel
theorem dX5_init_40 : decode cX5_init 40 = .ok (.iconst 0, 1) := by decide +kernel
theorem dX5_init_41 : decode cX5_init 41 = .ok (.putfield 34, 3) := by decide +kernel
theorem dX5_init_44 : decode cX5_init 44 = .ok (.return_, 1) := by decide +kernel
theorem dX5_valueOf_0 : decode cX5_valueOf 0 = .ok (.iload_n 0, 1) := by decide +kernel
theorem dX5_valueOf_1 : decode cX5_valueOf 1 = .ok (.bipush 48, 2) := by decide +kernel
theorem dX5_valueOf_3 : decode cX5_valueOf 3 = .ok (.if_icmp .lt 14, 3) := by decide +kernel
theorem dX5_valueOf_6 : decode cX5_valueOf 6 = .ok (.iload_n 0, 1) := by decide +kernel
theorem dX5_valueOf_7 : decode cX5_valueOf 7 = .ok (.bipush 57, 2) := by decide +kernel
theorem dX5_valueOf_9 : decode cX5_valueOf 9 = .ok (.if_icmp .gt 8, 3) := by decide +kernel
theorem dX5_valueOf_12 : decode cX5_valueOf 12 = .ok (.iload_n 0, 1) := by decide +kernel
theorem dX5_valueOf_13 : decode cX5_valueOf 13 = .ok (.bipush 48, 2) := by decide +kernel
theorem dX5_valueOf_15 : decode cX5_valueOf 15 = .ok (.isub, 1) := by decide +kernel
theorem dX5_valueOf_16 : decode cX5_valueOf 16 = .ok (.ireturn, 1) := by decide +kernel
theorem dX5_valueOf_17 : decode cX5_valueOf 17 = .ok (.iload_n 0, 1) := by decide +kernel
theorem dX5_valueOf_18 : decode cX5_valueOf 18 = .ok (.invokestatic 37, 3) := by decide +kernel
theorem dX5_valueOf_21 : decode cX5_valueOf 21 = .ok (.istore_n 1, 1) := by decide +kernel
theorem dX5_valueOf_22 : decode cX5_valueOf 22 = .ok (.iload_n 1, 1) := by decide +kernel
theorem dX5_valueOf_23 : decode cX5_valueOf 23 = .ok (.bipush 97, 2) := by decide +kernel
theorem dX5_valueOf_25 : decode cX5_valueOf 25 = .ok (.if_icmp .lt 19, 3) := by decide +kernel
theorem dX5_valueOf_28 : decode cX5_valueOf 28 = .ok (.iload_n 1, 1) := by decide +kernel
theorem dX5_valueOf_29 : decode cX5_valueOf 29 = .ok (.bipush 102, 2) := by decide +kernel
theorem dX5_valueOf_31 : decode cX5_valueOf 31 = .ok (.if_icmp .gt 13, 3) := by decide +kernel
theorem dX5_valueOf_34 : decode cX5_valueOf 34 = .ok (.iload_n 1, 1) := by decide +kernel
theorem dX5_valueOf_35 : decode cX5_valueOf 35 = .ok (.bipush 97, 2) := by decide +kernel
theorem dX5_valueOf_37 : decode cX5_valueOf 37 = .ok (.isub, 1) := by decide +kernel
theorem dX5_valueOf_38 : decode cX5_valueOf 38 = .ok (.bipush 10, 2) := by decide +kernel
theorem dX5_valueOf_40 : decode cX5_valueOf 40 = .ok (.iadd, 1) := by decide +kernel
theorem dX5_valueOf_41 : decode cX5_valueOf 41 = .ok (.goto 4, 3) := by decide +kernel
theorem dX5_valueOf_44 : decode cX5_valueOf 44 = .ok (.iconst (-1), 1) := by decide +kernel
theorem dX5_valueOf_45 : decode cX5_valueOf 45 = .ok (.ireturn, 1) := by decide +kernel
theorem dX5_smallOf_0 : decode cX5_smallOf 0 = .ok (.iload_n 0, 1) := by decide +kernel
theorem dX5_smallOf_1 : decode cX5_smallOf 1 = .ok (.bipush 65, 2) := by decide +kernel
theorem dX5_smallOf_3 : decode cX5_smallOf 3 = .ok (.if_icmp .lt 19, 3) := by decide +kernel
theorem dX5_smallOf_6 : decode cX5_smallOf 6 = .ok (.iload_n 0, 1) := by decide +kernel
theorem dX5_smallOf_7 : decode cX5_smallOf 7 = .ok (.bipush 90, 2) := by decide +kernel
theorem dX5_smallOf_9 : decode cX5_smallOf 9 = .ok (.if_icmp .gt 13, 3) := by decide +kernel
theorem dX5_smallOf_12 : decode cX5_smallOf 12 = .ok (.iload_n 0, 1) := by decide +kernel
theorem dX5_smallOf_13 : decode cX5_smallOf 13 = .ok (.bipush 65, 2) := by decide +kernel
theorem dX5_smallOf_15 : decode cX5_smallOf 15 = .ok (.isub, 1) := by decide +kernel
theorem dX5_smallOf_16 : decode cX5_smallOf 16 = .ok (.bipush 97, 2) := by decide +kernel
theorem dX5_smallOf_18 : decode cX5_smallOf 18 = .ok (.iadd, 1) := by decide +kernel
theorem dX5_smallOf_19 : decode cX5_smallOf 19 = .ok (.goto 4, 3) := by decide +kernel
theorem dX5_smallOf_22 : decode cX5_smallOf 22 = .ok (.iload_n 0, 1) := by decide +kernel
theorem dX5_smallOf_23 : decode cX5_smallOf 23 = .ok (.ireturn, 1) := by decide +kernel
theorem dX5_isZero_0 : decode cX5_isZero 0 = .ok (.aload_n 0, 1) := by decide +kernel
theorem dX5_isZero_1 : decode cX5_isZero 1 = .ok (.getfield 28, 3) := by decide +kernel
theorem dX5_isZero_4 : decode cX5_isZero 4 = .ok (.aload_n 0, 1) := by decide +kernel
theorem dX5_isZero_5 : decode cX5_isZero 5 = .ok (.getfield 34, 3) := by decide +kernel
theorem dX5_isZero_8 : decode cX5_isZero 8 = .ok (.if_icmp .ne 7, 3) := by decide +kernel
theorem dX5_isZero_11 : decode cX5_isZero 11 = .ok (.iconst 1, 1) := by decide +kernel
theorem dX5_isZero_12 : decode cX5_isZero 12 = .ok (.goto 4, 3) := by decide +kernel
theorem dX5_isZero_15 : decode cX5_isZero 15 = .ok (.iconst 0, 1) := by decide +kernel
theorem dX5_isZero_16 : decode cX5_isZero 16 = .ok (.ireturn, 1) := by decide +kernel
theorem dX5_faultOf_0 : decode cX5_faultOf 0 = .ok (.aload_n 1, 1) := by decide +kernel
theorem dX5_faultOf_1 : decode cX5_faultOf 1 = .ok (.iconst 0, 1) := by decide +kernel
theorem dX5_faultOf_2 : decode cX5_faultOf 2 = .ok (.invokestatic 41, 3) := by decide +kernel
theorem dX5_faultOf_5 : decode cX5_faultOf 5 = .ok (.istore_n 2, 1) := by decide +kernel
theorem dX5_faultOf_6 : decode cX5_faultOf 6 = .ok (.aload_n 0, 1) := by decide +kernel
theorem dX5_faultOf_7 : decode cX5_faultOf 7 = .ok (.aload_n 1, 1) := by decide +kernel
theorem dX5_faultOf_8 : decode cX5_faultOf 8 = .ok (.iconst 0, 1) := by decide +kernel
theorem dX5_faultOf_9 : decode cX5_faultOf 9 = .ok (.invokevirtual 45, 3) := by decide +kernel
theorem dX5_faultOf_12 : decode cX5_faultOf 12 = .ok (.bipush 45, 2) := by decide +kernel
theorem dX5_faultOf_14 : decode cX5_faultOf 14 = .ok (.if_icmp .ne 7, 3) := by decide +kernel
theorem dX5_faultOf_17 : decode cX5_faultOf 17 = .ok (.iconst 1, 1) := by decide +kernel
theorem dX5_faultOf_18 : decode cX5_faultOf 18 = .ok (.goto 4, 3) := by decide +kernel
theorem dX5_faultOf_21 : decode cX5_faultOf 21 = .ok (.iconst 0, 1) := by decide +kernel
theorem dX5_faultOf_22 : decode cX5_faultOf 22 = .ok (.putfield 15, 3) := by decide +kernel
theorem dX5_faultOf_25 : decode cX5_faultOf 25 = .ok (.aload_n 1, 1) := by decide +kernel
theorem dX5_faultOf_26 : decode cX5_faultOf 26 = .ok (.iload_n 2, 1) := by decide +kernel
theorem dX5_faultOf_27 : decode cX5_faultOf 27 = .ok (.invokevirtual 45, 3) := by decide +kernel
theorem dX5_faultOf_30 : decode cX5_faultOf 30 = .ok (.invokestatic 37, 3) := by decide +kernel
theorem dX5_faultOf_33 : decode cX5_faultOf 33 = .ok (.istore_n 3, 1) := by decide +kernel
theorem dX5_faultOf_34 : decode cX5_faultOf 34 = .ok (.iload_n 3, 1) := by decide +kernel
theorem dX5_faultOf_35 : decode cX5_faultOf 35 = .ok (.bipush 110, 2) := by decide +kernel
theorem dX5_faultOf_37 : decode cX5_faultOf 37 = .ok (.if_icmp .ne 17, 3) := by decide +kernel
theorem dX5_faultOf_40 : decode cX5_faultOf 40 = .ok (.aload_n 0, 1) := by decide +kernel
theorem dX5_faultOf_41 : decode cX5_faultOf 41 = .ok (.iconst 3, 1) := by decide +kernel
theorem dX5_faultOf_42 : decode cX5_faultOf 42 = .ok (.putfield 11, 3) := by decide +kernel
theorem dX5_faultOf_45 : decode cX5_faultOf 45 = .ok (.aload_n 0, 1) := by decide +kernel
theorem dX5_faultOf_46 : decode cX5_faultOf 46 = .ok (.aload_n 1, 1) := by decide +kernel
theorem dX5_faultOf_47 : decode cX5_faultOf 47 = .ok (.iload_n 2, 1) := by decide +kernel
theorem dX5_faultOf_48 : decode cX5_faultOf 48 = .ok (.ldc 50, 2) := by decide +kernel
theorem dX5_faultOf_50 : decode cX5_faultOf 50 = .ok (.invokevirtual 52, 3) := by decide +kernel
theorem dX5_faultOf_53 : decode cX5_faultOf 53 = .ok (.ireturn, 1) := by decide +kernel
theorem dX5_faultOf_54 : decode cX5_faultOf 54 = .ok (.iload_n 3, 1) := by decide +kernel
theorem dX5_faultOf_55 : decode cX5_faultOf 55 = .ok (.bipush 105, 2) := by decide +kernel
theorem dX5_faultOf_57 : decode cX5_faultOf 57 = .ok (.if_icmp .ne 17, 3) := by decide +kernel
theorem dX5_faultOf_60 : decode cX5_faultOf 60 = .ok (.aload_n 0, 1) := by decide +kernel
theorem dX5_faultOf_61 : decode cX5_faultOf 61 = .ok (.iconst 2, 1) := by decide +kernel
theorem dX5_faultOf_62 : decode cX5_faultOf 62 = .ok (.putfield 11, 3) := by decide +kernel
theorem dX5_faultOf_65 : decode cX5_faultOf 65 = .ok (.aload_n 0, 1) := by decide +kernel
theorem dX5_faultOf_66 : decode cX5_faultOf 66 = .ok (.aload_n 1, 1) := by decide +kernel
theorem dX5_faultOf_67 : decode cX5_faultOf 67 = .ok (.iload_n 2, 1) := by decide +kernel
theorem dX5_faultOf_68 : decode cX5_faultOf 68 = .ok (.ldc 56, 2) := by decide +kernel
theorem dX5_faultOf_70 : decode cX5_faultOf 70 = .ok (.invokevirtual 52, 3) := by decide +kernel
theorem dX5_faultOf_73 : decode cX5_faultOf 73 = .ok (.ireturn, 1) := by decide +kernel
theorem dX5_faultOf_74 : decode cX5_faultOf 74 = .ok (.iload_n 3, 1) := by decide +kernel
theorem dX5_faultOf_75 : decode cX5_faultOf 75 = .ok (.bipush 48, 2) := by decide +kernel
theorem dX5_faultOf_77 : decode cX5_faultOf 77 = .ok (.if_icmp .ne 36, 3) := by decide +kernel
theorem dX5_faultOf_80 : decode cX5_faultOf 80 = .ok (.aload_n 1, 1) := by decide +kernel
theorem dX5_faultOf_81 : decode cX5_faultOf 81 = .ok (.iload_n 2, 1) := by decide +kernel
theorem dX5_faultOf_82 : decode cX5_faultOf 82 = .ok (.iconst 1, 1) := by decide +kernel
theorem dX5_faultOf_83 : decode cX5_faultOf 83 = .ok (.iadd, 1) := by decide +kernel
theorem dX5_faultOf_84 : decode cX5_faultOf 84 = .ok (.invokevirtual 45, 3) := by decide +kernel
theorem dX5_faultOf_87 : decode cX5_faultOf 87 = .ok (.invokestatic 37, 3) := by decide +kernel
theorem dX5_faultOf_90 : decode cX5_faultOf 90 = .ok (.bipush 120, 2) := by decide +kernel
theorem dX5_faultOf_92 : decode cX5_faultOf 92 = .ok (.if_icmp .ne 21, 3) := by decide +kernel
theorem dX5_faultOf_95 : decode cX5_faultOf 95 = .ok (.aload_n 0, 1) := by decide +kernel
theorem dX5_faultOf_96 : decode cX5_faultOf 96 = .ok (.iconst 1, 1) := by decide +kernel
theorem dX5_faultOf_97 : decode cX5_faultOf 97 = .ok (.putfield 11, 3) := by decide +kernel
theorem dX5_faultOf_100 : decode cX5_faultOf 100 = .ok (.aload_n 0, 1) := by decide +kernel
theorem dX5_faultOf_101 : decode cX5_faultOf 101 = .ok (.aload_n 1, 1) := by decide +kernel
theorem dX5_faultOf_102 : decode cX5_faultOf 102 = .ok (.iload_n 2, 1) := by decide +kernel
theorem dX5_faultOf_103 : decode cX5_faultOf 103 = .ok (.iconst 2, 1) := by decide +kernel
theorem dX5_faultOf_104 : decode cX5_faultOf 104 = .ok (.iadd, 1) := by decide +kernel
theorem dX5_faultOf_105 : decode cX5_faultOf 105 = .ok (.bipush 16, 2) := by decide +kernel
theorem dX5_faultOf_107 : decode cX5_faultOf 107 = .ok (.bipush 112, 2) := by decide +kernel
theorem dX5_faultOf_109 : decode cX5_faultOf 109 = .ok (.invokevirtual 58, 3) := by decide +kernel
theorem dX5_faultOf_112 : decode cX5_faultOf 112 = .ok (.ireturn, 1) := by decide +kernel
theorem dX5_faultOf_113 : decode cX5_faultOf 113 = .ok (.aload_n 0, 1) := by decide +kernel
theorem dX5_faultOf_114 : decode cX5_faultOf 114 = .ok (.iconst 0, 1) := by decide +kernel
theorem dX5_faultOf_115 : decode cX5_faultOf 115 = .ok (.putfield 11, 3) := by decide +kernel
theorem dX5_faultOf_118 : decode cX5_faultOf 118 = .ok (.aload_n 0, 1) := by decide +kernel
theorem dX5_faultOf_119 : decode cX5_faultOf 119 = .ok (.aload_n 1, 1) := by decide +kernel
theorem dX5_faultOf_120 : decode cX5_faultOf 120 = .ok (.iload_n 2, 1) := by decide +kernel
theorem dX5_faultOf_121 : decode cX5_faultOf 121 = .ok (.bipush 10, 2) := by decide +kernel
theorem dX5_faultOf_123 : decode cX5_faultOf 123 = .ok (.bipush 101, 2) := by decide +kernel
theorem dX5_faultOf_125 : decode cX5_faultOf 125 = .ok (.invokevirtual 58, 3) := by decide +kernel
theorem dX5_faultOf_128 : decode cX5_faultOf 128 = .ok (.ireturn, 1) := by decide +kernel
theorem dX5_behindSign_0 : decode cX5_behindSign 0 = .ok (.aload_n 0, 1) := by decide +kernel
theorem dX5_behindSign_1 : decode cX5_behindSign 1 = .ok (.iload_n 1, 1) := by decide +kernel
theorem dX5_behindSign_2 : decode cX5_behindSign 2 = .ok (.invokevirtual 45, 3) := by decide +kernel
theorem dX5_behindSign_5 : decode cX5_behindSign 5 = .ok (.istore_n 2, 1) := by decide +kernel
theorem dX5_behindSign_6 : decode cX5_behindSign 6 = .ok (.iload_n 2, 1) := by decide +kernel
theorem dX5_behindSign_7 : decode cX5_behindSign 7 = .ok (.bipush 43, 2) := by decide +kernel
theorem dX5_behindSign_9 : decode cX5_behindSign 9 = .ok (.if_icmp .eq 9, 3) := by decide +kernel
theorem dX5_behindSign_12 : decode cX5_behindSign 12 = .ok (.iload_n 2, 1) := by decide +kernel
theorem dX5_behindSign_13 : decode cX5_behindSign 13 = .ok (.bipush 45, 2) := by decide +kernel
theorem dX5_behindSign_15 : decode cX5_behindSign 15 = .ok (.if_icmp .ne 9, 3) := by decide +kernel
theorem dX5_behindSign_18 : decode cX5_behindSign 18 = .ok (.iload_n 1, 1) := by decide +kernel
theorem dX5_behindSign_19 : decode cX5_behindSign 19 = .ok (.iconst 1, 1) := by decide +kernel
theorem dX5_behindSign_20 : decode cX5_behindSign 20 = .ok (.iadd, 1) := by decide +kernel
theorem dX5_behindSign_21 : decode cX5_behindSign 21 = .ok (.goto 4, 3) := by decide +kernel
theorem dX5_behindSign_24 : decode cX5_behindSign 24 = .ok (.iload_n 1, 1) := by decide +kernel
theorem dX5_behindSign_25 : decode cX5_behindSign 25 = .ok (.ireturn, 1) := by decide +kernel
theorem dX5_faultOfWord_0 : decode cX5_faultOfWord 0 = .ok (.iconst 0, 1) := by decide +kernel
theorem dX5_faultOfWord_1 : decode cX5_faultOfWord 1 = .ok (.istore 4, 2) := by decide +kernel
theorem dX5_faultOfWord_3 : decode cX5_faultOfWord 3 = .ok (.iload 4, 2) := by decide +kernel
theorem dX5_faultOfWord_5 : decode cX5_faultOfWord 5 = .ok (.aload_n 3, 1) := by decide +kernel
theorem dX5_faultOfWord_6 : decode cX5_faultOfWord 6 = .ok (.invokevirtual 62, 3) := by decide +kernel
theorem dX5_faultOfWord_9 : decode cX5_faultOfWord 9 = .ok (.if_icmp .ge 29, 3) := by decide +kernel
theorem dX5_faultOfWord_12 : decode cX5_faultOfWord 12 = .ok (.aload_n 1, 1) := by decide +kernel
theorem dX5_faultOfWord_13 : decode cX5_faultOfWord 13 = .ok (.iload_n 2, 1) := by decide +kernel
theorem dX5_faultOfWord_14 : decode cX5_faultOfWord 14 = .ok (.iload 4, 2) := by decide +kernel
theorem dX5_faultOfWord_16 : decode cX5_faultOfWord 16 = .ok (.iadd, 1) := by decide +kernel
theorem dX5_faultOfWord_17 : decode cX5_faultOfWord 17 = .ok (.invokevirtual 45, 3) := by decide +kernel
theorem dX5_faultOfWord_20 : decode cX5_faultOfWord 20 = .ok (.invokestatic 37, 3) := by decide +kernel
theorem dX5_faultOfWord_23 : decode cX5_faultOfWord 23 = .ok (.aload_n 3, 1) := by decide +kernel
theorem dX5_faultOfWord_24 : decode cX5_faultOfWord 24 = .ok (.iload 4, 2) := by decide +kernel
theorem dX5_faultOfWord_26 : decode cX5_faultOfWord 26 = .ok (.invokevirtual 68, 3) := by decide +kernel
theorem dX5_faultOfWord_29 : decode cX5_faultOfWord 29 = .ok (.if_icmp .ne 9, 3) := by decide +kernel
theorem dX5_faultOfWord_32 : decode cX5_faultOfWord 32 = .ok (.iinc 4 1, 3) := by decide +kernel
theorem dX5_faultOfWord_35 : decode cX5_faultOfWord 35 = .ok (.goto (-32), 3) := by decide +kernel
theorem dX5_faultOfWord_38 : decode cX5_faultOfWord 38 = .ok (.iload 4, 2) := by decide +kernel
theorem dX5_faultOfWord_40 : decode cX5_faultOfWord 40 = .ok (.aload_n 3, 1) := by decide +kernel
theorem dX5_faultOfWord_41 : decode cX5_faultOfWord 41 = .ok (.invokevirtual 62, 3) := by decide +kernel
theorem dX5_faultOfWord_44 : decode cX5_faultOfWord 44 = .ok (.if_icmp .eq 17, 3) := by decide +kernel
theorem dX5_faultOfWord_47 : decode cX5_faultOfWord 47 = .ok (.aload_n 0, 1) := by decide +kernel
theorem dX5_faultOfWord_48 : decode cX5_faultOfWord 48 = .ok (.getfield 11, 3) := by decide +kernel
theorem dX5_faultOfWord_51 : decode cX5_faultOfWord 51 = .ok (.iconst 2, 1) := by decide +kernel
theorem dX5_faultOfWord_52 : decode cX5_faultOfWord 52 = .ok (.if_icmp .ne 13, 3) := by decide +kernel
theorem dX5_faultOfWord_55 : decode cX5_faultOfWord 55 = .ok (.iload 4, 2) := by decide +kernel
theorem dX5_faultOfWord_57 : decode cX5_faultOfWord 57 = .ok (.iconst 3, 1) := by decide +kernel
theorem dX5_faultOfWord_58 : decode cX5_faultOfWord 58 = .ok (.if_icmp .ne 7, 3) := by decide +kernel
theorem dX5_faultOfWord_61 : decode cX5_faultOfWord 61 = .ok (.iconst 1, 1) := by decide +kernel
theorem dX5_faultOfWord_62 : decode cX5_faultOfWord 62 = .ok (.goto 4, 3) := by decide +kernel
theorem dX5_faultOfWord_65 : decode cX5_faultOfWord 65 = .ok (.iconst 0, 1) := by decide +kernel
theorem dX5_faultOfWord_66 : decode cX5_faultOfWord 66 = .ok (.istore 5, 2) := by decide +kernel
theorem dX5_faultOfWord_68 : decode cX5_faultOfWord 68 = .ok (.iload 5, 2) := by decide +kernel
theorem dX5_faultOfWord_70 : decode cX5_faultOfWord 70 = .ok (.ifCond .eq 18, 3) := by decide +kernel
theorem dX5_faultOfWord_73 : decode cX5_faultOfWord 73 = .ok (.iload_n 2, 1) := by decide +kernel
theorem dX5_faultOfWord_74 : decode cX5_faultOfWord 74 = .ok (.iload 4, 2) := by decide +kernel
theorem dX5_faultOfWord_76 : decode cX5_faultOfWord 76 = .ok (.iadd, 1) := by decide +kernel
theorem dX5_faultOfWord_77 : decode cX5_faultOfWord 77 = .ok (.aload_n 1, 1) := by decide +kernel
theorem dX5_faultOfWord_78 : decode cX5_faultOfWord 78 = .ok (.getfield 72, 3) := by decide +kernel
theorem dX5_faultOfWord_81 : decode cX5_faultOfWord 81 = .ok (.if_icmp .ne 7, 3) := by decide +kernel
theorem dX5_faultOfWord_84 : decode cX5_faultOfWord 84 = .ok (.iconst (-1), 1) := by decide +kernel
theorem dX5_faultOfWord_85 : decode cX5_faultOfWord 85 = .ok (.goto 7, 3) := by decide +kernel
theorem dX5_faultOfWord_88 : decode cX5_faultOfWord 88 = .ok (.iload_n 2, 1) := by decide +kernel
theorem dX5_faultOfWord_89 : decode cX5_faultOfWord 89 = .ok (.iload 4, 2) := by decide +kernel
theorem dX5_faultOfWord_91 : decode cX5_faultOfWord 91 = .ok (.iadd, 1) := by decide +kernel
theorem dX5_faultOfWord_92 : decode cX5_faultOfWord 92 = .ok (.ireturn, 1) := by decide +kernel
theorem dX5_faultOfNumber_0 : decode cX5_faultOfNumber 0 = .ok (.aload_n 0, 1) := by decide +kernel
theorem dX5_faultOfNumber_1 : decode cX5_faultOfNumber 1 = .ok (.aload_n 1, 1) := by decide +kernel
theorem dX5_faultOfNumber_2 : decode cX5_faultOfNumber 2 = .ok (.iload_n 2, 1) := by decide +kernel
theorem dX5_faultOfNumber_3 : decode cX5_faultOfNumber 3 = .ok (.iload_n 3, 1) := by decide +kernel
theorem dX5_faultOfNumber_4 : decode cX5_faultOfNumber 4 = .ok (.invokevirtual 74, 3) := by decide +kernel
theorem dX5_faultOfNumber_7 : decode cX5_faultOfNumber 7 = .ok (.aload_n 0, 1) := by decide +kernel
theorem dX5_faultOfNumber_8 : decode cX5_faultOfNumber 8 = .ok (.iconst 0, 1) := by decide +kernel
theorem dX5_faultOfNumber_9 : decode cX5_faultOfNumber 9 = .ok (.putfield 31, 3) := by decide +kernel
theorem dX5_faultOfNumber_12 : decode cX5_faultOfNumber 12 = .ok (.aload_n 0, 1) := by decide +kernel
theorem dX5_faultOfNumber_13 : decode cX5_faultOfNumber 13 = .ok (.getfield 34, 3) := by decide +kernel
theorem dX5_faultOfNumber_16 : decode cX5_faultOfNumber 16 = .ok (.ifCond .ne 8, 3) := by decide +kernel
theorem dX5_faultOfNumber_19 : decode cX5_faultOfNumber 19 = .ok (.aload_n 0, 1) := by decide +kernel
theorem dX5_faultOfNumber_20 : decode cX5_faultOfNumber 20 = .ok (.getfield 22, 3) := by decide +kernel
theorem dX5_faultOfNumber_23 : decode cX5_faultOfNumber 23 = .ok (.ireturn, 1) := by decide +kernel
theorem dX5_faultOfNumber_24 : decode cX5_faultOfNumber 24 = .ok (.aload_n 0, 1) := by decide +kernel
theorem dX5_faultOfNumber_25 : decode cX5_faultOfNumber 25 = .ok (.getfield 22, 3) := by decide +kernel
theorem dX5_faultOfNumber_28 : decode cX5_faultOfNumber 28 = .ok (.aload_n 1, 1) := by decide +kernel
theorem dX5_faultOfNumber_29 : decode cX5_faultOfNumber 29 = .ok (.getfield 72, 3) := by decide +kernel
theorem dX5_faultOfNumber_32 : decode cX5_faultOfNumber 32 = .ok (.if_icmp .ne 5, 3) := by decide +kernel
theorem dX5_faultOfNumber_35 : decode cX5_faultOfNumber 35 = .ok (.iconst (-1), 1) := by decide +kernel
theorem dX5_faultOfNumber_36 : decode cX5_faultOfNumber 36 = .ok (.ireturn, 1) := by decide +kernel
theorem dX5_faultOfNumber_37 : decode cX5_faultOfNumber 37 = .ok (.aload_n 1, 1) := by decide +kernel
theorem dX5_faultOfNumber_38 : decode cX5_faultOfNumber 38 = .ok (.aload_n 0, 1) := by decide +kernel
theorem dX5_faultOfNumber_39 : decode cX5_faultOfNumber 39 = .ok (.getfield 22, 3) := by decide +kernel
theorem dX5_faultOfNumber_42 : decode cX5_faultOfNumber 42 = .ok (.invokevirtual 45, 3) := by decide +kernel
theorem dX5_faultOfNumber_45 : decode cX5_faultOfNumber 45 = .ok (.invokestatic 37, 3) := by decide +kernel
theorem dX5_faultOfNumber_48 : decode cX5_faultOfNumber 48 = .ok (.iload 4, 2) := by decide +kernel
theorem dX5_faultOfNumber_50 : decode cX5_faultOfNumber 50 = .ok (.if_icmp .eq 8, 3) := by decide +kernel
theorem dX5_faultOfNumber_53 : decode cX5_faultOfNumber 53 = .ok (.aload_n 0, 1) := by decide +kernel
theorem dX5_faultOfNumber_54 : decode cX5_faultOfNumber 54 = .ok (.getfield 22, 3) := by decide +kernel
theorem dX5_faultOfNumber_57 : decode cX5_faultOfNumber 57 = .ok (.ireturn, 1) := by decide +kernel
theorem dX5_faultOfNumber_58 : decode cX5_faultOfNumber 58 = .ok (.aload_n 0, 1) := by decide +kernel
theorem dX5_faultOfNumber_59 : decode cX5_faultOfNumber 59 = .ok (.aload_n 1, 1) := by decide +kernel
theorem dX5_faultOfNumber_60 : decode cX5_faultOfNumber 60 = .ok (.aload_n 0, 1) := by decide +kernel
theorem dX5_faultOfNumber_61 : decode cX5_faultOfNumber 61 = .ok (.getfield 22, 3) := by decide +kernel
theorem dX5_faultOfNumber_64 : decode cX5_faultOfNumber 64 = .ok (.iconst 1, 1) := by decide +kernel
theorem dX5_faultOfNumber_65 : decode cX5_faultOfNumber 65 = .ok (.iadd, 1) := by decide +kernel
theorem dX5_faultOfNumber_66 : decode cX5_faultOfNumber 66 = .ok (.invokevirtual 78, 3) := by decide +kernel
theorem dX5_faultOfNumber_69 : decode cX5_faultOfNumber 69 = .ok (.ireturn, 1) := by decide +kernel
theorem dX5_takeDigits_0 : decode cX5_takeDigits 0 = .ok (.iconst 0, 1) := by decide +kernel
theorem dX5_takeDigits_1 : decode cX5_takeDigits 1 = .ok (.istore 4, 2) := by decide +kernel
theorem dX5_takeDigits_3 : decode cX5_takeDigits 3 = .ok (.aload_n 0, 1) := by decide +kernel
theorem dX5_takeDigits_4 : decode cX5_takeDigits 4 = .ok (.iload_n 2, 1) := by decide +kernel
theorem dX5_takeDigits_5 : decode cX5_takeDigits 5 = .ok (.putfield 19, 3) := by decide +kernel
theorem dX5_takeDigits_8 : decode cX5_takeDigits 8 = .ok (.aload_n 0, 1) := by decide +kernel
theorem dX5_takeDigits_9 : decode cX5_takeDigits 9 = .ok (.iconst 0, 1) := by decide +kernel
theorem dX5_takeDigits_10 : decode cX5_takeDigits 10 = .ok (.putfield 34, 3) := by decide +kernel
theorem dX5_takeDigits_13 : decode cX5_takeDigits 13 = .ok (.aload_n 0, 1) := by decide +kernel
theorem dX5_takeDigits_14 : decode cX5_takeDigits 14 = .ok (.iconst 0, 1) := by decide +kernel
theorem dX5_takeDigits_15 : decode cX5_takeDigits 15 = .ok (.putfield 25, 3) := by decide +kernel
theorem dX5_takeDigits_18 : decode cX5_takeDigits 18 = .ok (.aload_n 0, 1) := by decide +kernel
theorem dX5_takeDigits_19 : decode cX5_takeDigits 19 = .ok (.iconst 0, 1) := by decide +kernel
theorem dX5_takeDigits_20 : decode cX5_takeDigits 20 = .ok (.putfield 28, 3) := by decide +kernel
theorem dX5_takeDigits_23 : decode cX5_takeDigits 23 = .ok (.aload_n 0, 1) := by decide +kernel
theorem dX5_takeDigits_24 : decode cX5_takeDigits 24 = .ok (.iload_n 2, 1) := by decide +kernel
theorem dX5_takeDigits_25 : decode cX5_takeDigits 25 = .ok (.putfield 22, 3) := by decide +kernel
theorem dX5_takeDigits_28 : decode cX5_takeDigits 28 = .ok (.aload_n 0, 1) := by decide +kernel
theorem dX5_takeDigits_29 : decode cX5_takeDigits 29 = .ok (.getfield 22, 3) := by decide +kernel
theorem dX5_takeDigits_32 : decode cX5_takeDigits 32 = .ok (.aload_n 1, 1) := by decide +kernel
theorem dX5_takeDigits_33 : decode cX5_takeDigits 33 = .ok (.getfield 72, 3) := by decide +kernel
theorem dX5_takeDigits_36 : decode cX5_takeDigits 36 = .ok (.if_icmp .ge 121, 3) := by decide +kernel
theorem dX5_takeDigits_39 : decode cX5_takeDigits 39 = .ok (.aload_n 1, 1) := by decide +kernel
theorem dX5_takeDigits_40 : decode cX5_takeDigits 40 = .ok (.aload_n 0, 1) := by decide +kernel
theorem dX5_takeDigits_41 : decode cX5_takeDigits 41 = .ok (.getfield 22, 3) := by decide +kernel
theorem dX5_takeDigits_44 : decode cX5_takeDigits 44 = .ok (.invokevirtual 45, 3) := by decide +kernel
theorem dX5_takeDigits_47 : decode cX5_takeDigits 47 = .ok (.istore 5, 2) := by decide +kernel
theorem dX5_takeDigits_49 : decode cX5_takeDigits 49 = .ok (.iload 5, 2) := by decide +kernel
theorem dX5_takeDigits_51 : decode cX5_takeDigits 51 = .ok (.invokestatic 81, 3) := by decide +kernel
theorem dX5_takeDigits_54 : decode cX5_takeDigits 54 = .ok (.istore 6, 2) := by decide +kernel
theorem dX5_takeDigits_56 : decode cX5_takeDigits 56 = .ok (.iload 5, 2) := by decide +kernel
theorem dX5_takeDigits_58 : decode cX5_takeDigits 58 = .ok (.bipush 46, 2) := by decide +kernel
theorem dX5_takeDigits_60 : decode cX5_takeDigits 60 = .ok (.if_icmp .ne 14, 3) := by decide +kernel
theorem dX5_takeDigits_63 : decode cX5_takeDigits 63 = .ok (.iload 4, 2) := by decide +kernel
theorem dX5_takeDigits_65 : decode cX5_takeDigits 65 = .ok (.ifCond .ne 9, 3) := by decide +kernel
theorem dX5_takeDigits_68 : decode cX5_takeDigits 68 = .ok (.iconst 1, 1) := by decide +kernel
theorem dX5_takeDigits_69 : decode cX5_takeDigits 69 = .ok (.istore 4, 2) := by decide +kernel
theorem dX5_takeDigits_71 : decode cX5_takeDigits 71 = .ok (.goto 73, 3) := by decide +kernel
theorem dX5_takeDigits_74 : decode cX5_takeDigits 74 = .ok (.iload 6, 2) := by decide +kernel
theorem dX5_takeDigits_76 : decode cX5_takeDigits 76 = .ok (.ifCond .lt 81, 3) := by decide +kernel
theorem dX5_takeDigits_79 : decode cX5_takeDigits 79 = .ok (.iload 6, 2) := by decide +kernel
theorem dX5_takeDigits_81 : decode cX5_takeDigits 81 = .ok (.iload_n 3, 1) := by decide +kernel
theorem dX5_takeDigits_82 : decode cX5_takeDigits 82 = .ok (.if_icmp .ge 75, 3) := by decide +kernel
theorem dX5_takeDigits_85 : decode cX5_takeDigits 85 = .ok (.aload_n 0, 1) := by decide +kernel
theorem dX5_takeDigits_86 : decode cX5_takeDigits 86 = .ok (.dup, 1) := by decide +kernel
theorem dX5_takeDigits_87 : decode cX5_takeDigits 87 = .ok (.getfield 28, 3) := by decide +kernel
theorem dX5_takeDigits_90 : decode cX5_takeDigits 90 = .ok (.iload 6, 2) := by decide +kernel
theorem dX5_takeDigits_92 : decode cX5_takeDigits 92 = .ok (.ifCond .ne 18, 3) := by decide +kernel
theorem dX5_takeDigits_95 : decode cX5_takeDigits 95 = .ok (.aload_n 0, 1) := by decide +kernel
theorem dX5_takeDigits_96 : decode cX5_takeDigits 96 = .ok (.getfield 28, 3) := by decide +kernel
theorem dX5_takeDigits_99 : decode cX5_takeDigits 99 = .ok (.aload_n 0, 1) := by decide +kernel
theorem dX5_takeDigits_100 : decode cX5_takeDigits 100 = .ok (.getfield 34, 3) := by decide +kernel
theorem dX5_takeDigits_103 : decode cX5_takeDigits 103 = .ok (.if_icmp .ne 7, 3) := by decide +kernel
theorem dX5_takeDigits_106 : decode cX5_takeDigits 106 = .ok (.iconst 1, 1) := by decide +kernel
theorem dX5_takeDigits_107 : decode cX5_takeDigits 107 = .ok (.goto 4, 3) := by decide +kernel
theorem dX5_takeDigits_110 : decode cX5_takeDigits 110 = .ok (.iconst 0, 1) := by decide +kernel
theorem dX5_takeDigits_111 : decode cX5_takeDigits 111 = .ok (.iadd, 1) := by decide +kernel
theorem dX5_takeDigits_112 : decode cX5_takeDigits 112 = .ok (.putfield 28, 3) := by decide +kernel
theorem dX5_takeDigits_115 : decode cX5_takeDigits 115 = .ok (.aload_n 0, 1) := by decide +kernel
theorem dX5_takeDigits_116 : decode cX5_takeDigits 116 = .ok (.dup, 1) := by decide +kernel
theorem dX5_takeDigits_117 : decode cX5_takeDigits 117 = .ok (.getfield 34, 3) := by decide +kernel
theorem dX5_takeDigits_120 : decode cX5_takeDigits 120 = .ok (.iconst 1, 1) := by decide +kernel
theorem dX5_takeDigits_121 : decode cX5_takeDigits 121 = .ok (.iadd, 1) := by decide +kernel
theorem dX5_takeDigits_122 : decode cX5_takeDigits 122 = .ok (.putfield 34, 3) := by decide +kernel
theorem dX5_takeDigits_125 : decode cX5_takeDigits 125 = .ok (.aload_n 0, 1) := by decide +kernel
theorem dX5_takeDigits_126 : decode cX5_takeDigits 126 = .ok (.dup, 1) := by decide +kernel
theorem dX5_takeDigits_127 : decode cX5_takeDigits 127 = .ok (.getfield 25, 3) := by decide +kernel
theorem dX5_takeDigits_130 : decode cX5_takeDigits 130 = .ok (.iload 4, 2) := by decide +kernel
theorem dX5_takeDigits_132 : decode cX5_takeDigits 132 = .ok (.ifCond .eq 7, 3) := by decide +kernel
theorem dX5_takeDigits_135 : decode cX5_takeDigits 135 = .ok (.iconst 0, 1) := by decide +kernel
theorem dX5_takeDigits_136 : decode cX5_takeDigits 136 = .ok (.goto 4, 3) := by decide +kernel
theorem dX5_takeDigits_139 : decode cX5_takeDigits 139 = .ok (.iconst 1, 1) := by decide +kernel
theorem dX5_takeDigits_140 : decode cX5_takeDigits 140 = .ok (.iadd, 1) := by decide +kernel
theorem dX5_takeDigits_141 : decode cX5_takeDigits 141 = .ok (.putfield 25, 3) := by decide +kernel
theorem dX5_takeDigits_144 : decode cX5_takeDigits 144 = .ok (.aload_n 0, 1) := by decide +kernel
theorem dX5_takeDigits_145 : decode cX5_takeDigits 145 = .ok (.dup, 1) := by decide +kernel
theorem dX5_takeDigits_146 : decode cX5_takeDigits 146 = .ok (.getfield 22, 3) := by decide +kernel
theorem dX5_takeDigits_149 : decode cX5_takeDigits 149 = .ok (.iconst 1, 1) := by decide +kernel
theorem dX5_takeDigits_150 : decode cX5_takeDigits 150 = .ok (.iadd, 1) := by decide +kernel
theorem dX5_takeDigits_151 : decode cX5_takeDigits 151 = .ok (.putfield 22, 3) := by decide +kernel
theorem dX5_takeDigits_154 : decode cX5_takeDigits 154 = .ok (.goto (-126), 3) := by decide +kernel
theorem dX5_takeDigits_157 : decode cX5_takeDigits 157 = .ok (.return_, 1) := by decide +kernel
theorem dX5_faultOfExponent_0 : decode cX5_faultOfExponent 0 = .ok (.aload_n 1, 1) := by decide +kernel
theorem dX5_faultOfExponent_1 : decode cX5_faultOfExponent 1 = .ok (.iload_n 2, 1) := by decide +kernel
theorem dX5_faultOfExponent_2 : decode cX5_faultOfExponent 2 = .ok (.invokestatic 41, 3) := by decide +kernel
theorem dX5_faultOfExponent_5 : decode cX5_faultOfExponent 5 = .ok (.istore_n 3, 1) := by decide +kernel
theorem dX5_faultOfExponent_6 : decode cX5_faultOfExponent 6 = .ok (.iconst 0, 1) := by decide +kernel
theorem dX5_faultOfExponent_7 : decode cX5_faultOfExponent 7 = .ok (.istore 4, 2) := by decide +kernel
theorem dX5_faultOfExponent_9 : decode cX5_faultOfExponent 9 = .ok (.iload_n 3, 1) := by decide +kernel
theorem dX5_faultOfExponent_10 : decode cX5_faultOfExponent 10 = .ok (.istore 5, 2) := by decide +kernel
theorem dX5_faultOfExponent_12 : decode cX5_faultOfExponent 12 = .ok (.iload 5, 2) := by decide +kernel
theorem dX5_faultOfExponent_14 : decode cX5_faultOfExponent 14 = .ok (.aload_n 1, 1) := by decide +kernel
theorem dX5_faultOfExponent_15 : decode cX5_faultOfExponent 15 = .ok (.getfield 72, 3) := by decide +kernel
theorem dX5_faultOfExponent_18 : decode cX5_faultOfExponent 18 = .ok (.if_icmp .ge 50, 3) := by decide +kernel
theorem dX5_faultOfExponent_21 : decode cX5_faultOfExponent 21 = .ok (.aload_n 1, 1) := by decide +kernel
theorem dX5_faultOfExponent_22 : decode cX5_faultOfExponent 22 = .ok (.iload 5, 2) := by decide +kernel
theorem dX5_faultOfExponent_24 : decode cX5_faultOfExponent 24 = .ok (.invokevirtual 45, 3) := by decide +kernel
theorem dX5_faultOfExponent_27 : decode cX5_faultOfExponent 27 = .ok (.invokestatic 81, 3) := by decide +kernel
theorem dX5_faultOfExponent_30 : decode cX5_faultOfExponent 30 = .ok (.istore 6, 2) := by decide +kernel
theorem dX5_faultOfExponent_32 : decode cX5_faultOfExponent 32 = .ok (.iload 6, 2) := by decide +kernel
theorem dX5_faultOfExponent_34 : decode cX5_faultOfExponent 34 = .ok (.ifCond .lt 34, 3) := by decide +kernel
theorem dX5_faultOfExponent_37 : decode cX5_faultOfExponent 37 = .ok (.iload 6, 2) := by decide +kernel
theorem dX5_faultOfExponent_39 : decode cX5_faultOfExponent 39 = .ok (.bipush 9, 2) := by decide +kernel
theorem dX5_faultOfExponent_41 : decode cX5_faultOfExponent 41 = .ok (.if_icmp .le 6, 3) := by decide +kernel
theorem dX5_faultOfExponent_44 : decode cX5_faultOfExponent 44 = .ok (.goto 24, 3) := by decide +kernel
theorem dX5_faultOfExponent_47 : decode cX5_faultOfExponent 47 = .ok (.iload 4, 2) := by decide +kernel
theorem dX5_faultOfExponent_49 : decode cX5_faultOfExponent 49 = .ok (.bipush 10, 2) := by decide +kernel
theorem dX5_faultOfExponent_51 : decode cX5_faultOfExponent 51 = .ok (.imul, 1) := by decide +kernel
theorem dX5_faultOfExponent_52 : decode cX5_faultOfExponent 52 = .ok (.iload 6, 2) := by decide +kernel
theorem dX5_faultOfExponent_54 : decode cX5_faultOfExponent 54 = .ok (.iadd, 1) := by decide +kernel
theorem dX5_faultOfExponent_55 : decode cX5_faultOfExponent 55 = .ok (.ldc 84, 2) := by decide +kernel
theorem dX5_faultOfExponent_57 : decode cX5_faultOfExponent 57 = .ok (.invokestatic 85, 3) := by decide +kernel
theorem dX5_faultOfExponent_60 : decode cX5_faultOfExponent 60 = .ok (.istore 4, 2) := by decide +kernel
theorem dX5_faultOfExponent_62 : decode cX5_faultOfExponent 62 = .ok (.iinc 5 1, 3) := by decide +kernel
theorem dX5_faultOfExponent_65 : decode cX5_faultOfExponent 65 = .ok (.goto (-53), 3) := by decide +kernel
theorem dX5_faultOfExponent_68 : decode cX5_faultOfExponent 68 = .ok (.aload_n 0, 1) := by decide +kernel
theorem dX5_faultOfExponent_69 : decode cX5_faultOfExponent 69 = .ok (.aload_n 1, 1) := by decide +kernel
theorem dX5_faultOfExponent_70 : decode cX5_faultOfExponent 70 = .ok (.iload_n 2, 1) := by decide +kernel
theorem dX5_faultOfExponent_71 : decode cX5_faultOfExponent 71 = .ok (.invokevirtual 45, 3) := by decide +kernel
theorem dX5_faultOfExponent_74 : decode cX5_faultOfExponent 74 = .ok (.bipush 45, 2) := by decide +kernel
theorem dX5_faultOfExponent_76 : decode cX5_faultOfExponent 76 = .ok (.if_icmp .ne 9, 3) := by decide +kernel
theorem dX5_faultOfExponent_79 : decode cX5_faultOfExponent 79 = .ok (.iload 4, 2) := by decide +kernel
theorem dX5_faultOfExponent_81 : decode cX5_faultOfExponent 81 = .ok (.ineg, 1) := by decide +kernel
theorem dX5_faultOfExponent_82 : decode cX5_faultOfExponent 82 = .ok (.goto 5, 3) := by decide +kernel
theorem dX5_faultOfExponent_85 : decode cX5_faultOfExponent 85 = .ok (.iload 4, 2) := by decide +kernel
theorem dX5_faultOfExponent_87 : decode cX5_faultOfExponent 87 = .ok (.putfield 31, 3) := by decide +kernel
theorem dX5_faultOfExponent_90 : decode cX5_faultOfExponent 90 = .ok (.iload 5, 2) := by decide +kernel
theorem dX5_faultOfExponent_92 : decode cX5_faultOfExponent 92 = .ok (.iload_n 3, 1) := by decide +kernel
theorem dX5_faultOfExponent_93 : decode cX5_faultOfExponent 93 = .ok (.if_icmp .le 16, 3) := by decide +kernel
theorem dX5_faultOfExponent_96 : decode cX5_faultOfExponent 96 = .ok (.iload 5, 2) := by decide +kernel
theorem dX5_faultOfExponent_98 : decode cX5_faultOfExponent 98 = .ok (.aload_n 1, 1) := by decide +kernel
theorem dX5_faultOfExponent_99 : decode cX5_faultOfExponent 99 = .ok (.getfield 72, 3) := by decide +kernel
theorem dX5_faultOfExponent_102 : decode cX5_faultOfExponent 102 = .ok (.if_icmp .ne 7, 3) := by decide +kernel
theorem dX5_faultOfExponent_105 : decode cX5_faultOfExponent 105 = .ok (.iconst (-1), 1) := by decide +kernel
theorem dX5_faultOfExponent_106 : decode cX5_faultOfExponent 106 = .ok (.goto 5, 3) := by decide +kernel
theorem dX5_faultOfExponent_109 : decode cX5_faultOfExponent 109 = .ok (.iload 5, 2) := by decide +kernel
theorem dX5_faultOfExponent_111 : decode cX5_faultOfExponent 111 = .ok (.ireturn, 1) := by decide +kernel
theorem dX6_init_0 : decode cX6_init 0 = .ok (.aload_n 0, 1) := by decide +kernel
theorem dX6_init_1 : decode cX6_init 1 = .ok (.invokespecial 1, 3) := by decide +kernel
theorem dX6_init_4 : decode cX6_init 4 = .ok (.aload_n 0, 1) := by decide +kernel
theorem dX6_init_5 : decode cX6_init 5 = .ok (.new 7, 3) := by decide +kernel
theorem dX6_init_8 : decode cX6_init 8 = .ok (.dup, 1) := by decide +kernel
theorem dX6_init_9 : decode cX6_init 9 = .ok (.sipush 1600, 3) := by decide +kernel
theorem dX6_init_12 : decode cX6_init 12 = .ok (.invokespecial 11, 3) := by decide +kernel
theorem dX6_init_15 : decode cX6_init 15 = .ok (.putfield 14, 3) := by decide +kernel
theorem dX6_init_18 : decode cX6_init 18 = .ok (.aload_n 0, 1) := by decide +kernel
theorem dX6_init_19 : decode cX6_init 19 = .ok (.new 7, 3) := by decide +kernel
theorem dX6_init_22 : decode cX6_init 22 = .ok (.dup, 1) := by decide +kernel
theorem dX6_init_23 : decode cX6_init 23 = .ok (.sipush 1500, 3) := by decide +kernel
theorem dX6_init_26 : decode cX6_init 26 = .ok (.invokespecial 11, 3) := by decide +kernel
theorem dX6_init_29 : decode cX6_init 29 = .ok (.putfield 18, 3) := by decide +kernel
theorem dX6_init_32 : decode cX6_init 32 = .ok (.aload_n 0, 1) := by decide +kernel
theorem dX6_init_33 : decode cX6_init 33 = .ok (.new 21, 3) := by decide +kernel
theorem dX6_init_36 : decode cX6_init 36 = .ok (.dup, 1) := by decide +kernel
theorem dX6_init_37 : decode cX6_init 37 = .ok (.invokespecial 23, 3) := by decide +kernel
theorem dX6_init_40 : decode cX6_init 40 = .ok (.putfield 24, 3) := by decide +kernel
theorem dX6_init_43 : decode cX6_init 43 = .ok (.aload_n 0, 1) := by decide +kernel
theorem dX6_init_44 : decode cX6_init 44 = .ok (.new 28, 3) := by decide +kernel
theorem dX6_init_47 : decode cX6_init 47 = .ok (.dup, 1) := by decide +kernel
theorem dX6_init_48 : decode cX6_init 48 = .ok (.invokespecial 30, 3) := by decide +kernel
theorem dX6_init_51 : decode cX6_init 51 = .ok (.putfield 31, 3) := by decide +kernel
theorem dX6_init_54 : decode cX6_init 54 = .ok (.aload_n 0, 1) := by decide +kernel
theorem dX6_init_55 : decode cX6_init 55 = .ok (.new 35, 3) := by decide +kernel
theorem dX6_init_58 : decode cX6_init 58 = .ok (.dup, 1) := by decide +kernel
theorem dX6_init_59 : decode cX6_init 59 = .ok (.invokespecial 37, 3) := by decide +kernel
theorem dX6_init_62 : decode cX6_init 62 = .ok (.putfield 38, 3) := by decide +kernel
theorem dX6_init_65 : decode cX6_init 65 = .ok (.aload_n 0, 1) := by decide +kernel
theorem dX6_init_66 : decode cX6_init 66 = .ok (.new 42, 3) := by decide +kernel
theorem dX6_init_69 : decode cX6_init 69 = .ok (.dup, 1) := by decide +kernel
theorem dX6_init_70 : decode cX6_init 70 = .ok (.invokespecial 44, 3) := by decide +kernel
theorem dX6_init_73 : decode cX6_init 73 = .ok (.putfield 45, 3) := by decide +kernel
theorem dX6_init_76 : decode cX6_init 76 = .ok (.aload_n 0, 1) := by decide +kernel
theorem dX6_init_77 : decode cX6_init 77 = .ok (.new 42, 3) := by decide +kernel
theorem dX6_init_80 : decode cX6_init 80 = .ok (.dup, 1) := by decide +kernel
theorem dX6_init_81 : decode cX6_init 81 = .ok (.invokespecial 44, 3) := by decide +kernel
theorem dX6_init_84 : decode cX6_init 84 = .ok (.putfield 49, 3) := by decide +kernel
theorem dX6_init_87 : decode cX6_init 87 = .ok (.aload_n 0, 1) := by decide +kernel
theorem dX6_init_88 : decode cX6_init 88 = .ok (.new 42, 3) := by decide +kernel
theorem dX6_init_91 : decode cX6_init 91 = .ok (.dup, 1) := by decide +kernel
theorem dX6_init_92 : decode cX6_init 92 = .ok (.invokespecial 44, 3) := by decide +kernel
theorem dX6_init_95 : decode cX6_init 95 = .ok (.putfield 52, 3) := by decide +kernel
theorem dX6_init_98 : decode cX6_init 98 = .ok (.aload_n 0, 1) := by decide +kernel
theorem dX6_init_99 : decode cX6_init 99 = .ok (.new 42, 3) := by decide +kernel
theorem dX6_init_102 : decode cX6_init 102 = .ok (.dup, 1) := by decide +kernel
theorem dX6_init_103 : decode cX6_init 103 = .ok (.invokespecial 44, 3) := by decide +kernel
theorem dX6_init_106 : decode cX6_init 106 = .ok (.putfield 55, 3) := by decide +kernel
theorem dX6_init_109 : decode cX6_init 109 = .ok (.aload_n 0, 1) := by decide +kernel
theorem dX6_init_110 : decode cX6_init 110 = .ok (.lconst 0, 1) := by decide +kernel
theorem dX6_init_111 : decode cX6_init 111 = .ok (.putfield 58, 3) := by decide +kernel
theorem dX6_init_114 : decode cX6_init 114 = .ok (.aload_n 0, 1) := by decide +kernel
theorem dX6_init_115 : decode cX6_init 115 = .ok (.iconst 0, 1) := by decide +kernel
theorem dX6_init_116 : decode cX6_init 116 = .ok (.putfield 62, 3) := by decide +kernel
theorem dX6_init_119 : decode cX6_init 119 = .ok (.return_, 1) := by decide +kernel
theorem dX6_type_0 : decode cX6_type 0 = .ok (.iload_n 3, 1) := by decide +kernel
theorem dX6_type_1 : decode cX6_type 1 = .ok (.ifCond .lt 9, 3) := by decide +kernel
theorem dX6_type_4 : decode cX6_type 4 = .ok (.iload_n 3, 1) := by decide +kernel
theorem dX6_type_5 : decode cX6_type 5 = .ok (.bipush 8, 2) := by decide +kernel
theorem dX6_type_7 : decode cX6_type 7 = .ok (.if_icmp .le 13, 3) := by decide +kernel
theorem dX6_type_10 : decode cX6_type 10 = .ok (.new 66, 3) := by decide +kernel
theorem dX6_type_13 : decode cX6_type 13 = .ok (.dup, 1) := by decide +kernel
theorem dX6_type_14 : decode cX6_type 14 = .ok (.ldc 68, 2) := by decide +kernel
theorem dX6_type_16 : decode cX6_type 16 = .ok (.invokespecial 70, 3) := by decide +kernel
theorem dX6_type_19 : decode cX6_type 19 = .ok (.athrow, 1) := by decide +kernel
theorem dX6_type_20 : decode cX6_type 20 = .ok (.iload_n 3, 1) := by decide +kernel
theorem dX6_type_21 : decode cX6_type 21 = .ok (.aload_n 0, 1) := by decide +kernel
theorem dX6_type_22 : decode cX6_type 22 = .ok (.getfield 14, 3) := by decide +kernel
theorem dX6_type_25 : decode cX6_type 25 = .ok (.invokevirtual 73, 3) := by decide +kernel
theorem dX6_type_28 : decode cX6_type 28 = .ok (.if_icmp .le 5, 3) := by decide +kernel
theorem dX6_type_31 : decode cX6_type 31 = .ok (.iconst (-1), 1) := by decide +kernel
theorem dX6_type_32 : decode cX6_type 32 = .ok (.ireturn, 1) := by decide +kernel
theorem dX6_type_33 : decode cX6_type 33 = .ok (.iconst 0, 1) := by decide +kernel
theorem dX6_type_34 : decode cX6_type 34 = .ok (.istore 4, 2) := by decide +kernel
theorem dX6_type_36 : decode cX6_type 36 = .ok (.iload 4, 2) := by decide +kernel
theorem dX6_type_38 : decode cX6_type 38 = .ok (.iload_n 3, 1) := by decide +kernel
theorem dX6_type_39 : decode cX6_type 39 = .ok (.if_icmp .ge 28, 3) := by decide +kernel
theorem dX6_type_42 : decode cX6_type 42 = .ok (.aload_n 0, 1) := by decide +kernel
theorem dX6_type_43 : decode cX6_type 43 = .ok (.getfield 14, 3) := by decide +kernel
theorem dX6_type_46 : decode cX6_type 46 = .ok (.lload_n 1, 1) := by decide +kernel
theorem dX6_type_47 : decode cX6_type 47 = .ok (.bipush 8, 2) := by decide +kernel
theorem dX6_type_49 : decode cX6_type 49 = .ok (.iload 4, 2) := by decide +kernel
theorem dX6_type_51 : decode cX6_type 51 = .ok (.imul, 1) := by decide +kernel
theorem dX6_type_52 : decode cX6_type 52 = .ok (.lushr, 1) := by decide +kernel
theorem dX6_type_53 : decode cX6_type 53 = .ok (.ldc2_w 77, 3) := by decide +kernel
theorem dX6_type_56 : decode cX6_type 56 = .ok (.land, 1) := by decide +kernel
theorem dX6_type_57 : decode cX6_type 57 = .ok (.l2i, 1) := by decide +kernel
theorem dX6_type_58 : decode cX6_type 58 = .ok (.invokevirtual 79, 3) := by decide +kernel
theorem dX6_type_61 : decode cX6_type 61 = .ok (.iinc 4 1, 3) := by decide +kernel
theorem dX6_type_64 : decode cX6_type 64 = .ok (.goto (-28), 3) := by decide +kernel
theorem dX6_type_67 : decode cX6_type 67 = .ok (.aload_n 0, 1) := by decide +kernel
theorem dX6_type_68 : decode cX6_type 68 = .ok (.getfield 14, 3) := by decide +kernel
theorem dX6_type_71 : decode cX6_type 71 = .ok (.getfield 82, 3) := by decide +kernel
theorem dX6_type_74 : decode cX6_type 74 = .ok (.ireturn, 1) := by decide +kernel
theorem dX6_pass_0 : decode cX6_pass 0 = .ok (.aload_n 0, 1) := by decide +kernel
theorem dX6_pass_1 : decode cX6_pass 1 = .ok (.getfield 18, 3) := by decide +kernel
theorem dX6_pass_4 : decode cX6_pass 4 = .ok (.getfield 82, 3) := by decide +kernel
theorem dX6_pass_7 : decode cX6_pass 7 = .ok (.aload_n 0, 1) := by decide +kernel
theorem dX6_pass_8 : decode cX6_pass 8 = .ok (.getfield 14, 3) := by decide +kernel
theorem dX6_pass_11 : decode cX6_pass 11 = .ok (.invokevirtual 73, 3) := by decide +kernel
theorem dX6_pass_14 : decode cX6_pass 14 = .ok (.if_icmp .le 5, 3) := by decide +kernel
theorem dX6_pass_17 : decode cX6_pass 17 = .ok (.iconst (-1), 1) := by decide +kernel
theorem dX6_pass_18 : decode cX6_pass 18 = .ok (.ireturn, 1) := by decide +kernel
theorem dX6_pass_19 : decode cX6_pass 19 = .ok (.iconst 0, 1) := by decide +kernel
theorem dX6_pass_20 : decode cX6_pass 20 = .ok (.istore_n 1, 1) := by decide +kernel
theorem dX6_pass_21 : decode cX6_pass 21 = .ok (.iload_n 1, 1) := by decide +kernel
theorem dX6_pass_22 : decode cX6_pass 22 = .ok (.aload_n 0, 1) := by decide +kernel
theorem dX6_pass_23 : decode cX6_pass 23 = .ok (.getfield 18, 3) := by decide +kernel
theorem dX6_pass_26 : decode cX6_pass 26 = .ok (.getfield 82, 3) := by decide +kernel
theorem dX6_pass_29 : decode cX6_pass 29 = .ok (.if_icmp .ge 24, 3) := by decide +kernel
theorem dX6_pass_32 : decode cX6_pass 32 = .ok (.aload_n 0, 1) := by decide +kernel
theorem dX6_pass_33 : decode cX6_pass 33 = .ok (.getfield 14, 3) := by decide +kernel
theorem dX6_pass_36 : decode cX6_pass 36 = .ok (.aload_n 0, 1) := by decide +kernel
theorem dX6_pass_37 : decode cX6_pass 37 = .ok (.getfield 18, 3) := by decide +kernel
theorem dX6_pass_40 : decode cX6_pass 40 = .ok (.iload_n 1, 1) := by decide +kernel
theorem dX6_pass_41 : decode cX6_pass 41 = .ok (.invokevirtual 85, 3) := by decide +kernel
theorem dX6_pass_44 : decode cX6_pass 44 = .ok (.invokevirtual 79, 3) := by decide +kernel
theorem dX6_pass_47 : decode cX6_pass 47 = .ok (.iinc 1 1, 3) := by decide +kernel
theorem dX6_pass_50 : decode cX6_pass 50 = .ok (.goto (-29), 3) := by decide +kernel
theorem dX6_pass_53 : decode cX6_pass 53 = .ok (.aload_n 0, 1) := by decide +kernel
theorem dX6_pass_54 : decode cX6_pass 54 = .ok (.getfield 14, 3) := by decide +kernel
theorem dX6_pass_57 : decode cX6_pass 57 = .ok (.getfield 82, 3) := by decide +kernel
theorem dX6_pass_60 : decode cX6_pass 60 = .ok (.ireturn, 1) := by decide +kernel
theorem dX6_clear_0 : decode cX6_clear 0 = .ok (.aload_n 0, 1) := by decide +kernel
theorem dX6_clear_1 : decode cX6_clear 1 = .ok (.getfield 14, 3) := by decide +kernel
theorem dX6_clear_4 : decode cX6_clear 4 = .ok (.getfield 82, 3) := by decide +kernel
theorem dX6_clear_7 : decode cX6_clear 7 = .ok (.istore_n 1, 1) := by decide +kernel
theorem dX6_clear_8 : decode cX6_clear 8 = .ok (.aload_n 0, 1) := by decide +kernel
theorem dX6_clear_9 : decode cX6_clear 9 = .ok (.getfield 14, 3) := by decide +kernel
theorem dX6_clear_12 : decode cX6_clear 12 = .ok (.iconst 0, 1) := by decide +kernel
theorem dX6_clear_13 : decode cX6_clear 13 = .ok (.putfield 82, 3) := by decide +kernel
theorem dX6_clear_16 : decode cX6_clear 16 = .ok (.iload_n 1, 1) := by decide +kernel
theorem dX6_clear_17 : decode cX6_clear 17 = .ok (.ireturn, 1) := by decide +kernel
theorem dX6_read_0 : decode cX6_read 0 = .ok (.iload_n 1, 1) := by decide +kernel
theorem dX6_read_1 : decode cX6_read 1 = .ok (.invokestatic 89, 3) := by decide +kernel
theorem dX6_read_4 : decode cX6_read 4 = .ok (.astore_n 3, 1) := by decide +kernel
theorem dX6_read_5 : decode cX6_read 5 = .ok (.iload_n 2, 1) := by decide +kernel
theorem dX6_read_6 : decode cX6_read 6 = .ok (.invokestatic 93, 3) := by decide +kernel
theorem dX6_read_9 : decode cX6_read 9 = .ok (.aload_n 0, 1) := by decide +kernel
theorem dX6_read_10 : decode cX6_read 10 = .ok (.getfield 31, 3) := by decide +kernel
theorem dX6_read_13 : decode cX6_read 13 = .ok (.aload_n 0, 1) := by decide +kernel
theorem dX6_read_14 : decode cX6_read 14 = .ok (.getfield 14, 3) := by decide +kernel
theorem dX6_read_17 : decode cX6_read 17 = .ok (.invokevirtual 96, 3) := by decide +kernel
theorem dX6_read_20 : decode cX6_read 20 = .ok (.istore 4, 2) := by decide +kernel
theorem dX6_read_22 : decode cX6_read 22 = .ok (.iload 4, 2) := by decide +kernel
theorem dX6_read_24 : decode cX6_read 24 = .ok (.iconst (-1), 1) := by decide +kernel
theorem dX6_read_25 : decode cX6_read 25 = .ok (.if_icmp .eq 8, 3) := by decide +kernel
theorem dX6_read_28 : decode cX6_read 28 = .ok (.iconst (-1), 1) := by decide +kernel
theorem dX6_read_29 : decode cX6_read 29 = .ok (.iload 4, 2) := by decide +kernel
theorem dX6_read_31 : decode cX6_read 31 = .ok (.isub, 1) := by decide +kernel
theorem dX6_read_32 : decode cX6_read 32 = .ok (.ireturn, 1) := by decide +kernel
theorem dX6_read_33 : decode cX6_read 33 = .ok (.aload_n 0, 1) := by decide +kernel
theorem dX6_read_34 : decode cX6_read 34 = .ok (.aload_n 3, 1) := by decide +kernel
theorem dX6_read_35 : decode cX6_read 35 = .ok (.iload_n 2, 1) := by decide +kernel
theorem dX6_read_36 : decode cX6_read 36 = .ok (.invokevirtual 100, 3) := by decide +kernel
theorem dX6_read_39 : decode cX6_read 39 = .ok (.aload_n 0, 1) := by decide +kernel
theorem dX6_read_40 : decode cX6_read 40 = .ok (.invokevirtual 104, 3) := by decide +kernel
theorem dX6_read_43 : decode cX6_read 43 = .ok (.pop2, 1) := by decide +kernel
theorem dX6_read_44 : decode cX6_read 44 = .ok (.iconst 0, 1) := by decide +kernel
theorem dX6_read_45 : decode cX6_read 45 = .ok (.ireturn, 1) := by decide +kernel
theorem dX6_result_0 : decode cX6_result 0 = .ok (.aload_n 0, 1) := by decide +kernel
theorem dX6_result_1 : decode cX6_result 1 = .ok (.getfield 58, 3) := by decide +kernel
theorem dX6_result_4 : decode cX6_result 4 = .ok (.lreturn, 1) := by decide +kernel
theorem dX6_flags_0 : decode cX6_flags 0 = .ok (.aload_n 0, 1) := by decide +kernel
theorem dX6_flags_1 : decode cX6_flags 1 = .ok (.getfield 62, 3) := by decide +kernel
theorem dX6_flags_4 : decode cX6_flags 4 = .ok (.ireturn, 1) := by decide +kernel
theorem dX6_shortest_0 : decode cX6_shortest 0 = .ok (.iload_n 1, 1) := by decide +kernel
theorem dX6_shortest_1 : decode cX6_shortest 1 = .ok (.lload_n 2, 1) := by decide +kernel
theorem dX6_shortest_2 : decode cX6_shortest 2 = .ok (.invokestatic 108, 3) := by decide +kernel
theorem dX6_shortest_5 : decode cX6_shortest 5 = .ok (.astore 5, 2) := by decide +kernel
theorem dX6_shortest_7 : decode cX6_shortest 7 = .ok (.iload 4, 2) := by decide +kernel
theorem dX6_shortest_9 : decode cX6_shortest 9 = .ok (.invokestatic 112, 3) := by decide +kernel
theorem dX6_shortest_12 : decode cX6_shortest 12 = .ok (.aload 5, 2) := by decide +kernel
theorem dX6_shortest_14 : decode cX6_shortest 14 = .ok (.lload_n 2, 1) := by decide +kernel
theorem dX6_shortest_15 : decode cX6_shortest 15 = .ok (.invokevirtual 115, 3) := by decide +kernel
theorem dX6_shortest_18 : decode cX6_shortest 18 = .ok (.ifCond .ne 11, 3) := by decide +kernel
theorem dX6_shortest_21 : decode cX6_shortest 21 = .ok (.aload_n 0, 1) := by decide +kernel
theorem dX6_shortest_22 : decode cX6_shortest 22 = .ok (.aload 5, 2) := by decide +kernel
theorem dX6_shortest_24 : decode cX6_shortest 24 = .ok (.lload_n 2, 1) := by decide +kernel
theorem dX6_shortest_25 : decode cX6_shortest 25 = .ok (.invokevirtual 121, 3) := by decide +kernel
theorem dX6_shortest_28 : decode cX6_shortest 28 = .ok (.ireturn, 1) := by decide +kernel
theorem dX6_shortest_29 : decode cX6_shortest 29 = .ok (.iconst 1, 1) := by decide +kernel
theorem dX6_shortest_30 : decode cX6_shortest 30 = .ok (.istore 6, 2) := by decide +kernel
theorem dX6_shortest_32 : decode cX6_shortest 32 = .ok (.aload_n 0, 1) := by decide +kernel
theorem dX6_shortest_33 : decode cX6_shortest 33 = .ok (.getfield 55, 3) := by decide +kernel
theorem dX6_shortest_36 : decode cX6_shortest 36 = .ok (.invokevirtual 125, 3) := by decide +kernel
theorem dX6_shortest_39 : decode cX6_shortest 39 = .ok (.aload 5, 2) := by decide +kernel
theorem dX6_shortest_41 : decode cX6_shortest 41 = .ok (.lload_n 2, 1) := by decide +kernel
theorem dX6_shortest_42 : decode cX6_shortest 42 = .ok (.invokevirtual 128, 3) := by decide +kernel
theorem dX6_shortest_45 : decode cX6_shortest 45 = .ok (.ifCond .ne 12, 3) := by decide +kernel
theorem dX6_shortest_48 : decode cX6_shortest 48 = .ok (.aload_n 0, 1) := by decide +kernel
theorem dX6_shortest_49 : decode cX6_shortest 49 = .ok (.aload 5, 2) := by decide +kernel
theorem dX6_shortest_51 : decode cX6_shortest 51 = .ok (.lload_n 2, 1) := by decide +kernel
theorem dX6_shortest_52 : decode cX6_shortest 52 = .ok (.invokevirtual 131, 3) := by decide +kernel
theorem dX6_shortest_55 : decode cX6_shortest 55 = .ok (.istore 6, 2) := by decide +kernel
theorem dX6_shortest_57 : decode cX6_shortest 57 = .ok (.aload_n 0, 1) := by decide +kernel
theorem dX6_shortest_58 : decode cX6_shortest 58 = .ok (.aload_n 0, 1) := by decide +kernel
theorem dX6_shortest_59 : decode cX6_shortest 59 = .ok (.getfield 55, 3) := by decide +kernel
theorem dX6_shortest_62 : decode cX6_shortest 62 = .ok (.aload 5, 2) := by decide +kernel
theorem dX6_shortest_64 : decode cX6_shortest 64 = .ok (.lload_n 2, 1) := by decide +kernel
theorem dX6_shortest_65 : decode cX6_shortest 65 = .ok (.invokevirtual 134, 3) := by decide +kernel
theorem dX6_shortest_68 : decode cX6_shortest 68 = .ok (.iload 6, 2) := by decide +kernel
theorem dX6_shortest_70 : decode cX6_shortest 70 = .ok (.iload 4, 2) := by decide +kernel
theorem dX6_shortest_72 : decode cX6_shortest 72 = .ok (.invokevirtual 137, 3) := by decide +kernel
theorem dX6_shortest_75 : decode cX6_shortest 75 = .ok (.ireturn, 1) := by decide +kernel
theorem dX6_exact_0 : decode cX6_exact 0 = .ok (.iload_n 1, 1) := by decide +kernel
theorem dX6_exact_1 : decode cX6_exact 1 = .ok (.lload_n 2, 1) := by decide +kernel
theorem dX6_exact_2 : decode cX6_exact 2 = .ok (.invokestatic 108, 3) := by decide +kernel
theorem dX6_exact_5 : decode cX6_exact 5 = .ok (.astore 5, 2) := by decide +kernel
theorem dX6_exact_7 : decode cX6_exact 7 = .ok (.iload 4, 2) := by decide +kernel
theorem dX6_exact_9 : decode cX6_exact 9 = .ok (.invokestatic 112, 3) := by decide +kernel
theorem dX6_exact_12 : decode cX6_exact 12 = .ok (.aload 5, 2) := by decide +kernel
theorem dX6_exact_14 : decode cX6_exact 14 = .ok (.lload_n 2, 1) := by decide +kernel
theorem dX6_exact_15 : decode cX6_exact 15 = .ok (.invokevirtual 115, 3) := by decide +kernel
theorem dX6_exact_18 : decode cX6_exact 18 = .ok (.ifCond .ne 11, 3) := by decide +kernel
theorem dX6_exact_21 : decode cX6_exact 21 = .ok (.aload_n 0, 1) := by decide +kernel
theorem dX6_exact_22 : decode cX6_exact 22 = .ok (.aload 5, 2) := by decide +kernel
theorem dX6_exact_24 : decode cX6_exact 24 = .ok (.lload_n 2, 1) := by decide +kernel
theorem dX6_exact_25 : decode cX6_exact 25 = .ok (.invokevirtual 121, 3) := by decide +kernel
theorem dX6_exact_28 : decode cX6_exact 28 = .ok (.ireturn, 1) := by decide +kernel
theorem dX6_exact_29 : decode cX6_exact 29 = .ok (.aload_n 0, 1) := by decide +kernel
theorem dX6_exact_30 : decode cX6_exact 30 = .ok (.getfield 45, 3) := by decide +kernel
theorem dX6_exact_33 : decode cX6_exact 33 = .ok (.aload 5, 2) := by decide +kernel
theorem dX6_exact_35 : decode cX6_exact 35 = .ok (.lload_n 2, 1) := by decide +kernel
theorem dX6_exact_36 : decode cX6_exact 36 = .ok (.invokestatic 141, 3) := by decide +kernel
theorem dX6_exact_39 : decode cX6_exact 39 = .ok (.aload_n 0, 1) := by decide +kernel
theorem dX6_exact_40 : decode cX6_exact 40 = .ok (.aload_n 0, 1) := by decide +kernel
theorem dX6_exact_41 : decode cX6_exact 41 = .ok (.getfield 45, 3) := by decide +kernel
theorem dX6_exact_44 : decode cX6_exact 44 = .ok (.aload 5, 2) := by decide +kernel
theorem dX6_exact_46 : decode cX6_exact 46 = .ok (.lload_n 2, 1) := by decide +kernel
theorem dX6_exact_47 : decode cX6_exact 47 = .ok (.invokevirtual 134, 3) := by decide +kernel
theorem dX6_exact_50 : decode cX6_exact 50 = .ok (.aload_n 0, 1) := by decide +kernel
theorem dX6_exact_51 : decode cX6_exact 51 = .ok (.getfield 45, 3) := by decide +kernel
theorem dX6_exact_54 : decode cX6_exact 54 = .ok (.invokevirtual 145, 3) := by decide +kernel
theorem dX6_exact_57 : decode cX6_exact 57 = .ok (.iload 4, 2) := by decide +kernel
theorem dX6_exact_59 : decode cX6_exact 59 = .ok (.invokevirtual 137, 3) := by decide +kernel
theorem dX6_exact_62 : decode cX6_exact 62 = .ok (.ireturn, 1) := by decide +kernel
theorem dX6_middle_0 : decode cX6_middle 0 = .ok (.iload_n 1, 1) := by decide +kernel
theorem dX6_middle_1 : decode cX6_middle 1 = .ok (.lload_n 2, 1) := by decide +kernel
theorem dX6_middle_2 : decode cX6_middle 2 = .ok (.invokestatic 108, 3) := by decide +kernel
theorem dX6_middle_5 : decode cX6_middle 5 = .ok (.astore 5, 2) := by decide +kernel
theorem dX6_middle_7 : decode cX6_middle 7 = .ok (.iload 4, 2) := by decide +kernel
theorem dX6_middle_9 : decode cX6_middle 9 = .ok (.invokestatic 112, 3) := by decide +kernel
theorem dX6_middle_12 : decode cX6_middle 12 = .ok (.aload 5, 2) := by decide +kernel
theorem dX6_middle_14 : decode cX6_middle 14 = .ok (.lload_n 2, 1) := by decide +kernel
theorem dX6_middle_15 : decode cX6_middle 15 = .ok (.invokestatic 148, 3) := by decide +kernel
theorem dX6_middle_18 : decode cX6_middle 18 = .ok (.aload_n 0, 1) := by decide +kernel
theorem dX6_middle_19 : decode cX6_middle 19 = .ok (.getfield 45, 3) := by decide +kernel
theorem dX6_middle_22 : decode cX6_middle 22 = .ok (.aload 5, 2) := by decide +kernel
theorem dX6_middle_24 : decode cX6_middle 24 = .ok (.lload_n 2, 1) := by decide +kernel
theorem dX6_middle_25 : decode cX6_middle 25 = .ok (.invokestatic 152, 3) := by decide +kernel
theorem dX6_middle_28 : decode cX6_middle 28 = .ok (.aload_n 0, 1) := by decide +kernel
theorem dX6_middle_29 : decode cX6_middle 29 = .ok (.aload_n 0, 1) := by decide +kernel
theorem dX6_middle_30 : decode cX6_middle 30 = .ok (.getfield 45, 3) := by decide +kernel
theorem dX6_middle_33 : decode cX6_middle 33 = .ok (.aload 5, 2) := by decide +kernel
theorem dX6_middle_35 : decode cX6_middle 35 = .ok (.lload_n 2, 1) := by decide +kernel
theorem dX6_middle_36 : decode cX6_middle 36 = .ok (.invokevirtual 134, 3) := by decide +kernel
theorem dX6_middle_39 : decode cX6_middle 39 = .ok (.aload_n 0, 1) := by decide +kernel
theorem dX6_middle_40 : decode cX6_middle 40 = .ok (.getfield 45, 3) := by decide +kernel
theorem dX6_middle_43 : decode cX6_middle 43 = .ok (.invokevirtual 145, 3) := by decide +kernel
theorem dX6_middle_46 : decode cX6_middle 46 = .ok (.iload 4, 2) := by decide +kernel
theorem dX6_middle_48 : decode cX6_middle 48 = .ok (.invokevirtual 137, 3) := by decide +kernel
theorem dX6_middle_51 : decode cX6_middle 51 = .ok (.ireturn, 1) := by decide +kernel
theorem dX6_digits_0 : decode cX6_digits 0 = .ok (.iload_n 1, 1) := by decide +kernel
theorem dX6_digits_1 : decode cX6_digits 1 = .ok (.lload_n 2, 1) := by decide +kernel
theorem dX6_digits_2 : decode cX6_digits 2 = .ok (.invokestatic 108, 3) := by decide +kernel
theorem dX6_digits_5 : decode cX6_digits 5 = .ok (.astore 7, 2) := by decide +kernel
theorem dX6_digits_7 : decode cX6_digits 7 = .ok (.iload 5, 2) := by decide +kernel
theorem dX6_digits_9 : decode cX6_digits 9 = .ok (.invokestatic 93, 3) := by decide +kernel
theorem dX6_digits_12 : decode cX6_digits 12 = .ok (.iload 6, 2) := by decide +kernel
theorem dX6_digits_14 : decode cX6_digits 14 = .ok (.invokestatic 112, 3) := by decide +kernel
theorem dX6_digits_17 : decode cX6_digits 17 = .ok (.iload 4, 2) := by decide +kernel
theorem dX6_digits_19 : decode cX6_digits 19 = .ok (.iconst 1, 1) := by decide +kernel
theorem dX6_digits_20 : decode cX6_digits 20 = .ok (.if_icmp .lt 11, 3) := by decide +kernel
theorem dX6_digits_23 : decode cX6_digits 23 = .ok (.iload 4, 2) := by decide +kernel
theorem dX6_digits_25 : decode cX6_digits 25 = .ok (.sipush 800, 3) := by decide +kernel
theorem dX6_digits_28 : decode cX6_digits 28 = .ok (.if_icmp .le 13, 3) := by decide +kernel
theorem dX6_digits_31 : decode cX6_digits 31 = .ok (.new 66, 3) := by decide +kernel
theorem dX6_digits_34 : decode cX6_digits 34 = .ok (.dup, 1) := by decide +kernel
theorem dX6_digits_35 : decode cX6_digits 35 = .ok (.ldc 155, 2) := by decide +kernel
theorem dX6_digits_37 : decode cX6_digits 37 = .ok (.invokespecial 70, 3) := by decide +kernel
theorem dX6_digits_40 : decode cX6_digits 40 = .ok (.athrow, 1) := by decide +kernel
theorem dX6_digits_41 : decode cX6_digits 41 = .ok (.aload 7, 2) := by decide +kernel
theorem dX6_digits_43 : decode cX6_digits 43 = .ok (.lload_n 2, 1) := by decide +kernel
theorem dX6_digits_44 : decode cX6_digits 44 = .ok (.invokevirtual 115, 3) := by decide +kernel
theorem dX6_digits_47 : decode cX6_digits 47 = .ok (.ifCond .ne 11, 3) := by decide +kernel
theorem dX6_digits_50 : decode cX6_digits 50 = .ok (.aload_n 0, 1) := by decide +kernel
theorem dX6_digits_51 : decode cX6_digits 51 = .ok (.aload 7, 2) := by decide +kernel
theorem dX6_digits_53 : decode cX6_digits 53 = .ok (.lload_n 2, 1) := by decide +kernel
theorem dX6_digits_54 : decode cX6_digits 54 = .ok (.invokevirtual 121, 3) := by decide +kernel
theorem dX6_digits_57 : decode cX6_digits 57 = .ok (.ireturn, 1) := by decide +kernel
theorem dX6_digits_58 : decode cX6_digits 58 = .ok (.aload_n 0, 1) := by decide +kernel
theorem dX6_digits_59 : decode cX6_digits 59 = .ok (.getfield 45, 3) := by decide +kernel
theorem dX6_digits_62 : decode cX6_digits 62 = .ok (.aload 7, 2) := by decide +kernel
theorem dX6_digits_64 : decode cX6_digits 64 = .ok (.lload_n 2, 1) := by decide +kernel
theorem dX6_digits_65 : decode cX6_digits 65 = .ok (.invokestatic 141, 3) := by decide +kernel
theorem dX6_digits_68 : decode cX6_digits 68 = .ok (.aload_n 0, 1) := by decide +kernel
theorem dX6_digits_69 : decode cX6_digits 69 = .ok (.aload_n 0, 1) := by decide +kernel
theorem dX6_digits_70 : decode cX6_digits 70 = .ok (.getfield 45, 3) := by decide +kernel
theorem dX6_digits_73 : decode cX6_digits 73 = .ok (.invokevirtual 157, 3) := by decide +kernel
theorem dX6_digits_76 : decode cX6_digits 76 = .ok (.iload 4, 2) := by decide +kernel
theorem dX6_digits_78 : decode cX6_digits 78 = .ok (.isub, 1) := by decide +kernel
theorem dX6_digits_79 : decode cX6_digits 79 = .ok (.aload 7, 2) := by decide +kernel
theorem dX6_digits_81 : decode cX6_digits 81 = .ok (.lload_n 2, 1) := by decide +kernel
theorem dX6_digits_82 : decode cX6_digits 82 = .ok (.invokevirtual 134, 3) := by decide +kernel
theorem dX6_digits_85 : decode cX6_digits 85 = .ok (.iload 5, 2) := by decide +kernel
theorem dX6_digits_87 : decode cX6_digits 87 = .ok (.invokevirtual 160, 3) := by decide +kernel
theorem dX6_digits_90 : decode cX6_digits 90 = .ok (.aload_n 0, 1) := by decide +kernel
theorem dX6_digits_91 : decode cX6_digits 91 = .ok (.aload_n 0, 1) := by decide +kernel
theorem dX6_digits_92 : decode cX6_digits 92 = .ok (.getfield 55, 3) := by decide +kernel
theorem dX6_digits_95 : decode cX6_digits 95 = .ok (.aload 7, 2) := by decide +kernel
theorem dX6_digits_97 : decode cX6_digits 97 = .ok (.lload_n 2, 1) := by decide +kernel
theorem dX6_digits_98 : decode cX6_digits 98 = .ok (.invokevirtual 134, 3) := by decide +kernel
theorem dX6_digits_101 : decode cX6_digits 101 = .ok (.iload 4, 2) := by decide +kernel
theorem dX6_digits_103 : decode cX6_digits 103 = .ok (.iload 6, 2) := by decide +kernel
theorem dX6_digits_105 : decode cX6_digits 105 = .ok (.invokevirtual 137, 3) := by decide +kernel
theorem dX6_digits_108 : decode cX6_digits 108 = .ok (.ireturn, 1) := by decide +kernel
theorem dX6_fixed_0 : decode cX6_fixed 0 = .ok (.iload_n 1, 1) := by decide +kernel
theorem dX6_fixed_1 : decode cX6_fixed 1 = .ok (.lload_n 2, 1) := by decide +kernel
theorem dX6_fixed_2 : decode cX6_fixed 2 = .ok (.invokestatic 108, 3) := by decide +kernel
theorem dX6_fixed_5 : decode cX6_fixed 5 = .ok (.astore 6, 2) := by decide +kernel
theorem dX6_fixed_7 : decode cX6_fixed 7 = .ok (.iload 5, 2) := by decide +kernel
theorem dX6_fixed_9 : decode cX6_fixed 9 = .ok (.invokestatic 93, 3) := by decide +kernel
theorem dX6_fixed_12 : decode cX6_fixed 12 = .ok (.iload 4, 2) := by decide +kernel
theorem dX6_fixed_14 : decode cX6_fixed 14 = .ok (.ifCond .lt 11, 3) := by decide +kernel
theorem dX6_fixed_17 : decode cX6_fixed 17 = .ok (.iload 4, 2) := by decide +kernel
theorem dX6_fixed_19 : decode cX6_fixed 19 = .ok (.sipush 1100, 3) := by decide +kernel
theorem dX6_fixed_22 : decode cX6_fixed 22 = .ok (.if_icmp .le 13, 3) := by decide +kernel
theorem dX6_fixed_25 : decode cX6_fixed 25 = .ok (.new 66, 3) := by decide +kernel
theorem dX6_fixed_28 : decode cX6_fixed 28 = .ok (.dup, 1) := by decide +kernel
theorem dX6_fixed_29 : decode cX6_fixed 29 = .ok (.ldc 164, 2) := by decide +kernel
theorem dX6_fixed_31 : decode cX6_fixed 31 = .ok (.invokespecial 70, 3) := by decide +kernel
theorem dX6_fixed_34 : decode cX6_fixed 34 = .ok (.athrow, 1) := by decide +kernel
theorem dX6_fixed_35 : decode cX6_fixed 35 = .ok (.aload 6, 2) := by decide +kernel
theorem dX6_fixed_37 : decode cX6_fixed 37 = .ok (.lload_n 2, 1) := by decide +kernel
theorem dX6_fixed_38 : decode cX6_fixed 38 = .ok (.invokevirtual 115, 3) := by decide +kernel
theorem dX6_fixed_41 : decode cX6_fixed 41 = .ok (.ifCond .ne 11, 3) := by decide +kernel
theorem dX6_fixed_44 : decode cX6_fixed 44 = .ok (.aload_n 0, 1) := by decide +kernel
theorem dX6_fixed_45 : decode cX6_fixed 45 = .ok (.aload 6, 2) := by decide +kernel
theorem dX6_fixed_47 : decode cX6_fixed 47 = .ok (.lload_n 2, 1) := by decide +kernel
theorem dX6_fixed_48 : decode cX6_fixed 48 = .ok (.invokevirtual 121, 3) := by decide +kernel
theorem dX6_fixed_51 : decode cX6_fixed 51 = .ok (.ireturn, 1) := by decide +kernel
theorem dX6_fixed_52 : decode cX6_fixed 52 = .ok (.aload_n 0, 1) := by decide +kernel
theorem dX6_fixed_53 : decode cX6_fixed 53 = .ok (.getfield 45, 3) := by decide +kernel
theorem dX6_fixed_56 : decode cX6_fixed 56 = .ok (.aload 6, 2) := by decide +kernel
theorem dX6_fixed_58 : decode cX6_fixed 58 = .ok (.lload_n 2, 1) := by decide +kernel
theorem dX6_fixed_59 : decode cX6_fixed 59 = .ok (.invokestatic 141, 3) := by decide +kernel
theorem dX6_fixed_62 : decode cX6_fixed 62 = .ok (.aload_n 0, 1) := by decide +kernel
theorem dX6_fixed_63 : decode cX6_fixed 63 = .ok (.iload 4, 2) := by decide +kernel
theorem dX6_fixed_65 : decode cX6_fixed 65 = .ok (.ineg, 1) := by decide +kernel
theorem dX6_fixed_66 : decode cX6_fixed 66 = .ok (.aload 6, 2) := by decide +kernel
theorem dX6_fixed_68 : decode cX6_fixed 68 = .ok (.lload_n 2, 1) := by decide +kernel
theorem dX6_fixed_69 : decode cX6_fixed 69 = .ok (.invokevirtual 134, 3) := by decide +kernel
theorem dX6_fixed_72 : decode cX6_fixed 72 = .ok (.iload 5, 2) := by decide +kernel
theorem dX6_fixed_74 : decode cX6_fixed 74 = .ok (.invokevirtual 160, 3) := by decide +kernel
theorem dX6_fixed_77 : decode cX6_fixed 77 = .ok (.aload_n 0, 1) := by decide +kernel
theorem dX6_fixed_78 : decode cX6_fixed 78 = .ok (.aload_n 0, 1) := by decide +kernel
theorem dX6_fixed_79 : decode cX6_fixed 79 = .ok (.getfield 55, 3) := by decide +kernel
theorem dX6_fixed_82 : decode cX6_fixed 82 = .ok (.aload 6, 2) := by decide +kernel
theorem dX6_fixed_84 : decode cX6_fixed 84 = .ok (.lload_n 2, 1) := by decide +kernel
theorem dX6_fixed_85 : decode cX6_fixed 85 = .ok (.invokevirtual 134, 3) := by decide +kernel
theorem dX6_fixed_88 : decode cX6_fixed 88 = .ok (.aload_n 0, 1) := by decide +kernel
theorem dX6_fixed_89 : decode cX6_fixed 89 = .ok (.getfield 55, 3) := by decide +kernel
theorem dX6_fixed_92 : decode cX6_fixed 92 = .ok (.invokevirtual 157, 3) := by decide +kernel
theorem dX6_fixed_95 : decode cX6_fixed 95 = .ok (.iload 4, 2) := by decide +kernel
theorem dX6_fixed_97 : decode cX6_fixed 97 = .ok (.iadd, 1) := by decide +kernel
theorem dX6_fixed_98 : decode cX6_fixed 98 = .ok (.iconst 1, 1) := by decide +kernel
theorem dX6_fixed_99 : decode cX6_fixed 99 = .ok (.invokevirtual 137, 3) := by decide +kernel
theorem dX6_fixed_102 : decode cX6_fixed 102 = .ok (.ireturn, 1) := by decide +kernel
theorem dX6_hex_0 : decode cX6_hex 0 = .ok (.iload_n 1, 1) := by decide +kernel
theorem dX6_hex_1 : decode cX6_hex 1 = .ok (.lload_n 2, 1) := by decide +kernel
theorem dX6_hex_2 : decode cX6_hex 2 = .ok (.invokestatic 108, 3) := by decide +kernel
theorem dX6_hex_5 : decode cX6_hex 5 = .ok (.astore 4, 2) := by decide +kernel
theorem dX6_hex_7 : decode cX6_hex 7 = .ok (.aload 4, 2) := by decide +kernel
theorem dX6_hex_9 : decode cX6_hex 9 = .ok (.lload_n 2, 1) := by decide +kernel
theorem dX6_hex_10 : decode cX6_hex 10 = .ok (.invokevirtual 115, 3) := by decide +kernel
theorem dX6_hex_13 : decode cX6_hex 13 = .ok (.ifCond .ne 11, 3) := by decide +kernel
theorem dX6_hex_16 : decode cX6_hex 16 = .ok (.aload_n 0, 1) := by decide +kernel
theorem dX6_hex_17 : decode cX6_hex 17 = .ok (.aload 4, 2) := by decide +kernel
theorem dX6_hex_19 : decode cX6_hex 19 = .ok (.lload_n 2, 1) := by decide +kernel
theorem dX6_hex_20 : decode cX6_hex 20 = .ok (.invokevirtual 121, 3) := by decide +kernel
theorem dX6_hex_23 : decode cX6_hex 23 = .ok (.ireturn, 1) := by decide +kernel
theorem dX6_hex_24 : decode cX6_hex 24 = .ok (.aload_n 0, 1) := by decide +kernel
theorem dX6_hex_25 : decode cX6_hex 25 = .ok (.getfield 24, 3) := by decide +kernel
theorem dX6_hex_28 : decode cX6_hex 28 = .ok (.aload 4, 2) := by decide +kernel
theorem dX6_hex_30 : decode cX6_hex 30 = .ok (.lload_n 2, 1) := by decide +kernel
theorem dX6_hex_31 : decode cX6_hex 31 = .ok (.invokevirtual 134, 3) := by decide +kernel
theorem dX6_hex_34 : decode cX6_hex 34 = .ok (.invokevirtual 166, 3) := by decide +kernel
theorem dX6_hex_37 : decode cX6_hex 37 = .ok (.aload_n 0, 1) := by decide +kernel
theorem dX6_hex_38 : decode cX6_hex 38 = .ok (.getfield 18, 3) := by decide +kernel
theorem dX6_hex_41 : decode cX6_hex 41 = .ok (.aload 4, 2) := by decide +kernel
theorem dX6_hex_43 : decode cX6_hex 43 = .ok (.lload_n 2, 1) := by decide +kernel
theorem dX6_hex_44 : decode cX6_hex 44 = .ok (.invokevirtual 134, 3) := by decide +kernel
theorem dX6_hex_47 : decode cX6_hex 47 = .ok (.invokevirtual 170, 3) := by decide +kernel
theorem dX6_hex_50 : decode cX6_hex 50 = .ok (.aload_n 0, 1) := by decide +kernel
theorem dX6_hex_51 : decode cX6_hex 51 = .ok (.getfield 18, 3) := by decide +kernel
theorem dX6_hex_54 : decode cX6_hex 54 = .ok (.aload 4, 2) := by decide +kernel
theorem dX6_hex_56 : decode cX6_hex 56 = .ok (.lload_n 2, 1) := by decide +kernel
theorem dX6_hex_57 : decode cX6_hex 57 = .ok (.invokevirtual 173, 3) := by decide +kernel
theorem dX6_hex_60 : decode cX6_hex 60 = .ok (.aload 4, 2) := by decide +kernel
theorem dX6_hex_62 : decode cX6_hex 62 = .ok (.lload_n 2, 1) := by decide +kernel
theorem dX6_hex_63 : decode cX6_hex 63 = .ok (.invokevirtual 177, 3) := by decide +kernel
theorem dX6_hex_66 : decode cX6_hex 66 = .ok (.invokevirtual 181, 3) := by decide +kernel
theorem dX6_hex_69 : decode cX6_hex 69 = .ok (.aload_n 0, 1) := by decide +kernel
theorem dX6_hex_70 : decode cX6_hex 70 = .ok (.getfield 18, 3) := by decide +kernel
theorem dX6_hex_73 : decode cX6_hex 73 = .ok (.getfield 82, 3) := by decide +kernel
theorem dX6_hex_76 : decode cX6_hex 76 = .ok (.ireturn, 1) := by decide +kernel
theorem dX6_out_0 : decode cX6_out 0 = .ok (.iload_n 1, 1) := by decide +kernel
theorem dX6_out_1 : decode cX6_out 1 = .ok (.ifCond .lt 14, 3) := by decide +kernel
theorem dX6_out_4 : decode cX6_out 4 = .ok (.iload_n 1, 1) := by decide +kernel
theorem dX6_out_5 : decode cX6_out 5 = .ok (.aload_n 0, 1) := by decide +kernel
theorem dX6_out_6 : decode cX6_out 6 = .ok (.getfield 18, 3) := by decide +kernel
theorem dX6_out_9 : decode cX6_out 9 = .ok (.getfield 82, 3) := by decide +kernel
theorem dX6_out_12 : decode cX6_out 12 = .ok (.if_icmp .lt 13, 3) := by decide +kernel
theorem dX6_out_15 : decode cX6_out 15 = .ok (.new 185, 3) := by decide +kernel
theorem dX6_out_18 : decode cX6_out 18 = .ok (.dup, 1) := by decide +kernel
theorem dX6_out_19 : decode cX6_out 19 = .ok (.ldc 187, 2) := by decide +kernel
theorem dX6_out_21 : decode cX6_out 21 = .ok (.invokespecial 189, 3) := by decide +kernel
theorem dX6_out_24 : decode cX6_out 24 = .ok (.athrow, 1) := by decide +kernel
theorem dX6_out_25 : decode cX6_out 25 = .ok (.aload_n 0, 1) := by decide +kernel
theorem dX6_out_26 : decode cX6_out 26 = .ok (.getfield 18, 3) := by decide +kernel
theorem dX6_out_29 : decode cX6_out 29 = .ok (.iload_n 1, 1) := by decide +kernel
theorem dX6_out_30 : decode cX6_out 30 = .ok (.invokevirtual 85, 3) := by decide +kernel
theorem dX6_out_33 : decode cX6_out 33 = .ok (.ireturn, 1) := by decide +kernel
theorem dX6_decimal_0 : decode cX6_decimal 0 = .ok (.iload_n 1, 1) := by decide +kernel
theorem dX6_decimal_1 : decode cX6_decimal 1 = .ok (.tableswitch 59 0 2 #[27, 35, 43], 27) := by decide +kernel
theorem dX6_decimal_28 : decode cX6_decimal 28 = .ok (.aload_n 0, 1) := by decide +kernel
theorem dX6_decimal_29 : decode cX6_decimal 29 = .ok (.getfield 24, 3) := by decide +kernel
theorem dX6_decimal_32 : decode cX6_decimal 32 = .ok (.getfield 190, 3) := by decide +kernel
theorem dX6_decimal_35 : decode cX6_decimal 35 = .ok (.ireturn, 1) := by decide +kernel
theorem dX6_decimal_36 : decode cX6_decimal 36 = .ok (.aload_n 0, 1) := by decide +kernel
theorem dX6_decimal_37 : decode cX6_decimal 37 = .ok (.getfield 24, 3) := by decide +kernel
theorem dX6_decimal_40 : decode cX6_decimal 40 = .ok (.getfield 193, 3) := by decide +kernel
theorem dX6_decimal_43 : decode cX6_decimal 43 = .ok (.ireturn, 1) := by decide +kernel
theorem dX6_decimal_44 : decode cX6_decimal 44 = .ok (.aload_n 0, 1) := by decide +kernel
theorem dX6_decimal_45 : decode cX6_decimal 45 = .ok (.getfield 24, 3) := by decide +kernel
theorem dX6_decimal_48 : decode cX6_decimal 48 = .ok (.getfield 195, 3) := by decide +kernel
theorem dX6_decimal_51 : decode cX6_decimal 51 = .ok (.ifCond .eq 7, 3) := by decide +kernel
theorem dX6_decimal_54 : decode cX6_decimal 54 = .ok (.iconst 1, 1) := by decide +kernel
theorem dX6_decimal_55 : decode cX6_decimal 55 = .ok (.goto 4, 3) := by decide +kernel
theorem dX6_decimal_58 : decode cX6_decimal 58 = .ok (.iconst 0, 1) := by decide +kernel
theorem dX6_decimal_59 : decode cX6_decimal 59 = .ok (.ireturn, 1) := by decide +kernel
theorem dX6_decimal_60 : decode cX6_decimal 60 = .ok (.new 66, 3) := by decide +kernel
theorem dX6_decimal_63 : decode cX6_decimal 63 = .ok (.dup, 1) := by decide +kernel
theorem dX6_decimal_64 : decode cX6_decimal 64 = .ok (.ldc 199, 2) := by decide +kernel
theorem dX6_decimal_66 : decode cX6_decimal 66 = .ok (.invokespecial 70, 3) := by decide +kernel
theorem dX6_decimal_69 : decode cX6_decimal 69 = .ok (.athrow, 1) := by decide +kernel
theorem dX6_digit_0 : decode cX6_digit 0 = .ok (.iload_n 1, 1) := by decide +kernel
theorem dX6_digit_1 : decode cX6_digit 1 = .ok (.ifCond .lt 14, 3) := by decide +kernel
theorem dX6_digit_4 : decode cX6_digit 4 = .ok (.iload_n 1, 1) := by decide +kernel
theorem dX6_digit_5 : decode cX6_digit 5 = .ok (.aload_n 0, 1) := by decide +kernel
theorem dX6_digit_6 : decode cX6_digit 6 = .ok (.getfield 24, 3) := by decide +kernel
theorem dX6_digit_9 : decode cX6_digit 9 = .ok (.getfield 190, 3) := by decide +kernel
theorem dX6_digit_12 : decode cX6_digit 12 = .ok (.if_icmp .lt 13, 3) := by decide +kernel
theorem dX6_digit_15 : decode cX6_digit 15 = .ok (.new 185, 3) := by decide +kernel
theorem dX6_digit_18 : decode cX6_digit 18 = .ok (.dup, 1) := by decide +kernel
theorem dX6_digit_19 : decode cX6_digit 19 = .ok (.ldc 201, 2) := by decide +kernel
theorem dX6_digit_21 : decode cX6_digit 21 = .ok (.invokespecial 189, 3) := by decide +kernel
theorem dX6_digit_24 : decode cX6_digit 24 = .ok (.athrow, 1) := by decide +kernel
theorem dX6_digit_25 : decode cX6_digit 25 = .ok (.aload_n 0, 1) := by decide +kernel
theorem dX6_digit_26 : decode cX6_digit 26 = .ok (.getfield 24, 3) := by decide +kernel
theorem dX6_digit_29 : decode cX6_digit 29 = .ok (.iload_n 1, 1) := by decide +kernel
theorem dX6_digit_30 : decode cX6_digit 30 = .ok (.invokevirtual 203, 3) := by decide +kernel
theorem dX6_digit_33 : decode cX6_digit 33 = .ok (.ireturn, 1) := by decide +kernel
theorem dX6_nearest_0 : decode cX6_nearest 0 = .ok (.iload_n 1, 1) := by decide +kernel
theorem dX6_nearest_1 : decode cX6_nearest 1 = .ok (.invokestatic 89, 3) := by decide +kernel
theorem dX6_nearest_4 : decode cX6_nearest 4 = .ok (.astore 6, 2) := by decide +kernel
theorem dX6_nearest_6 : decode cX6_nearest 6 = .ok (.iload 5, 2) := by decide +kernel
theorem dX6_nearest_8 : decode cX6_nearest 8 = .ok (.invokestatic 93, 3) := by decide +kernel
theorem dX6_nearest_11 : decode cX6_nearest 11 = .ok (.iload 4, 2) := by decide +kernel
theorem dX6_nearest_13 : decode cX6_nearest 13 = .ok (.invokestatic 206, 3) := by decide +kernel
theorem dX6_nearest_16 : decode cX6_nearest 16 = .ok (.aload_n 0, 1) := by decide +kernel
theorem dX6_nearest_17 : decode cX6_nearest 17 = .ok (.aload 6, 2) := by decide +kernel
theorem dX6_nearest_19 : decode cX6_nearest 19 = .ok (.lload_n 2, 1) := by decide +kernel
theorem dX6_nearest_20 : decode cX6_nearest 20 = .ok (.iload 4, 2) := by decide +kernel
theorem dX6_nearest_22 : decode cX6_nearest 22 = .ok (.iload 5, 2) := by decide +kernel
theorem dX6_nearest_24 : decode cX6_nearest 24 = .ok (.invokevirtual 209, 3) := by decide +kernel
theorem dX6_nearest_27 : decode cX6_nearest 27 = .ok (.aload_n 0, 1) := by decide +kernel
theorem dX6_nearest_28 : decode cX6_nearest 28 = .ok (.invokevirtual 104, 3) := by decide +kernel
theorem dX6_nearest_31 : decode cX6_nearest 31 = .ok (.lreturn, 1) := by decide +kernel
theorem dX6_power_0 : decode cX6_power 0 = .ok (.iload_n 1, 1) := by decide +kernel
theorem dX6_power_1 : decode cX6_power 1 = .ok (.invokestatic 89, 3) := by decide +kernel
theorem dX6_power_4 : decode cX6_power 4 = .ok (.astore 6, 2) := by decide +kernel
theorem dX6_power_6 : decode cX6_power 6 = .ok (.iload 5, 2) := by decide +kernel
theorem dX6_power_8 : decode cX6_power 8 = .ok (.invokestatic 93, 3) := by decide +kernel
theorem dX6_power_11 : decode cX6_power 11 = .ok (.lload_n 2, 1) := by decide +kernel
theorem dX6_power_12 : decode cX6_power 12 = .ok (.lconst 0, 1) := by decide +kernel
theorem dX6_power_13 : decode cX6_power 13 = .ok (.lcmp, 1) := by decide +kernel
theorem dX6_power_14 : decode cX6_power 14 = .ok (.ifCond .ne 14, 3) := by decide +kernel
theorem dX6_power_17 : decode cX6_power 17 = .ok (.aload_n 0, 1) := by decide +kernel
theorem dX6_power_18 : decode cX6_power 18 = .ok (.getfield 38, 3) := by decide +kernel
theorem dX6_power_21 : decode cX6_power 21 = .ok (.lconst 0, 1) := by decide +kernel
theorem dX6_power_22 : decode cX6_power 22 = .ok (.invokevirtual 213, 3) := by decide +kernel
theorem dX6_power_25 : decode cX6_power 25 = .ok (.goto 41, 3) := by decide +kernel
theorem dX6_power_28 : decode cX6_power 28 = .ok (.aload_n 0, 1) := by decide +kernel
theorem dX6_power_29 : decode cX6_power 29 = .ok (.getfield 38, 3) := by decide +kernel
theorem dX6_power_32 : decode cX6_power 32 = .ok (.aload 6, 2) := by decide +kernel
theorem dX6_power_34 : decode cX6_power 34 = .ok (.lload_n 2, 1) := by decide +kernel
theorem dX6_power_35 : decode cX6_power 35 = .ok (.lconst 0, 1) := by decide +kernel
theorem dX6_power_36 : decode cX6_power 36 = .ok (.lcmp, 1) := by decide +kernel
theorem dX6_power_37 : decode cX6_power 37 = .ok (.ifCond .ge 7, 3) := by decide +kernel
theorem dX6_power_40 : decode cX6_power 40 = .ok (.iconst 1, 1) := by decide +kernel
theorem dX6_power_41 : decode cX6_power 41 = .ok (.goto 4, 3) := by decide +kernel
theorem dX6_power_44 : decode cX6_power 44 = .ok (.iconst 0, 1) := by decide +kernel
theorem dX6_power_45 : decode cX6_power 45 = .ok (.lload_n 2, 1) := by decide +kernel
theorem dX6_power_46 : decode cX6_power 46 = .ok (.lconst 0, 1) := by decide +kernel
theorem dX6_power_47 : decode cX6_power 47 = .ok (.lcmp, 1) := by decide +kernel
theorem dX6_power_48 : decode cX6_power 48 = .ok (.ifCond .ge 8, 3) := by decide +kernel
theorem dX6_power_51 : decode cX6_power 51 = .ok (.lload_n 2, 1) := by decide +kernel
theorem dX6_power_52 : decode cX6_power 52 = .ok (.lneg, 1) := by decide +kernel
theorem dX6_power_53 : decode cX6_power 53 = .ok (.goto 4, 3) := by decide +kernel
theorem dX6_power_56 : decode cX6_power 56 = .ok (.lload_n 2, 1) := by decide +kernel
theorem dX6_power_57 : decode cX6_power 57 = .ok (.iload 4, 2) := by decide +kernel
theorem dX6_power_59 : decode cX6_power 59 = .ok (.i2l, 1) := by decide +kernel
theorem dX6_power_60 : decode cX6_power 60 = .ok (.iconst 0, 1) := by decide +kernel
theorem dX6_power_61 : decode cX6_power 61 = .ok (.iload 5, 2) := by decide +kernel
theorem dX6_power_63 : decode cX6_power 63 = .ok (.invokevirtual 217, 3) := by decide +kernel
theorem dX6_power_66 : decode cX6_power 66 = .ok (.aload_n 0, 1) := by decide +kernel
theorem dX6_power_67 : decode cX6_power 67 = .ok (.invokevirtual 104, 3) := by decide +kernel
theorem dX6_power_70 : decode cX6_power 70 = .ok (.lreturn, 1) := by decide +kernel
theorem dX6_convert_0 : decode cX6_convert 0 = .ok (.iload_n 1, 1) := by decide +kernel
theorem dX6_convert_1 : decode cX6_convert 1 = .ok (.lload_n 2, 1) := by decide +kernel
theorem dX6_convert_2 : decode cX6_convert 2 = .ok (.invokestatic 108, 3) := by decide +kernel
theorem dX6_convert_5 : decode cX6_convert 5 = .ok (.astore 6, 2) := by decide +kernel
theorem dX6_convert_7 : decode cX6_convert 7 = .ok (.iload 4, 2) := by decide +kernel
theorem dX6_convert_9 : decode cX6_convert 9 = .ok (.invokestatic 89, 3) := by decide +kernel
theorem dX6_convert_12 : decode cX6_convert 12 = .ok (.astore 7, 2) := by decide +kernel
theorem dX6_convert_14 : decode cX6_convert 14 = .ok (.iload 5, 2) := by decide +kernel
theorem dX6_convert_16 : decode cX6_convert 16 = .ok (.invokestatic 93, 3) := by decide +kernel
theorem dX6_convert_19 : decode cX6_convert 19 = .ok (.aload 6, 2) := by decide +kernel
theorem dX6_convert_21 : decode cX6_convert 21 = .ok (.lload_n 2, 1) := by decide +kernel
theorem dX6_convert_22 : decode cX6_convert 22 = .ok (.invokevirtual 134, 3) := by decide +kernel
theorem dX6_convert_25 : decode cX6_convert 25 = .ok (.istore 8, 2) := by decide +kernel
theorem dX6_convert_27 : decode cX6_convert 27 = .ok (.aload 6, 2) := by decide +kernel
theorem dX6_convert_29 : decode cX6_convert 29 = .ok (.lload_n 2, 1) := by decide +kernel
theorem dX6_convert_30 : decode cX6_convert 30 = .ok (.invokevirtual 221, 3) := by decide +kernel
theorem dX6_convert_33 : decode cX6_convert 33 = .ok (.ifCond .eq 31, 3) := by decide +kernel
theorem dX6_convert_36 : decode cX6_convert 36 = .ok (.aload_n 0, 1) := by decide +kernel
theorem dX6_convert_37 : decode cX6_convert 37 = .ok (.getfield 38, 3) := by decide +kernel
theorem dX6_convert_40 : decode cX6_convert 40 = .ok (.aload 7, 2) := by decide +kernel
theorem dX6_convert_42 : decode cX6_convert 42 = .ok (.iload 8, 2) := by decide +kernel
theorem dX6_convert_44 : decode cX6_convert 44 = .ok (.aload 7, 2) := by decide +kernel
theorem dX6_convert_46 : decode cX6_convert 46 = .ok (.aload 6, 2) := by decide +kernel
theorem dX6_convert_48 : decode cX6_convert 48 = .ok (.lload_n 2, 1) := by decide +kernel
theorem dX6_convert_49 : decode cX6_convert 49 = .ok (.invokevirtual 224, 3) := by decide +kernel
theorem dX6_convert_52 : decode cX6_convert 52 = .ok (.invokevirtual 227, 3) := by decide +kernel
theorem dX6_convert_55 : decode cX6_convert 55 = .ok (.invokevirtual 230, 3) := by decide +kernel
theorem dX6_convert_58 : decode cX6_convert 58 = .ok (.invokevirtual 213, 3) := by decide +kernel
theorem dX6_convert_61 : decode cX6_convert 61 = .ok (.goto 88, 3) := by decide +kernel
theorem dX6_convert_64 : decode cX6_convert 64 = .ok (.aload 6, 2) := by decide +kernel
theorem dX6_convert_66 : decode cX6_convert 66 = .ok (.lload_n 2, 1) := by decide +kernel
theorem dX6_convert_67 : decode cX6_convert 67 = .ok (.invokevirtual 115, 3) := by decide +kernel
theorem dX6_convert_70 : decode cX6_convert 70 = .ok (.ifCond .ne 25, 3) := by decide +kernel
theorem dX6_convert_73 : decode cX6_convert 73 = .ok (.aload_n 0, 1) := by decide +kernel
theorem dX6_convert_74 : decode cX6_convert 74 = .ok (.getfield 38, 3) := by decide +kernel
theorem dX6_convert_77 : decode cX6_convert 77 = .ok (.aload 7, 2) := by decide +kernel
theorem dX6_convert_79 : decode cX6_convert 79 = .ok (.iload 8, 2) := by decide +kernel
theorem dX6_convert_81 : decode cX6_convert 81 = .ok (.aload 7, 2) := by decide +kernel
theorem dX6_convert_83 : decode cX6_convert 83 = .ok (.invokevirtual 234, 3) := by decide +kernel
theorem dX6_convert_86 : decode cX6_convert 86 = .ok (.invokevirtual 230, 3) := by decide +kernel
theorem dX6_convert_89 : decode cX6_convert 89 = .ok (.invokevirtual 213, 3) := by decide +kernel
theorem dX6_convert_92 : decode cX6_convert 92 = .ok (.goto 57, 3) := by decide +kernel
theorem dX6_convert_95 : decode cX6_convert 95 = .ok (.aload 6, 2) := by decide +kernel
theorem dX6_convert_97 : decode cX6_convert 97 = .ok (.lload_n 2, 1) := by decide +kernel
theorem dX6_convert_98 : decode cX6_convert 98 = .ok (.invokevirtual 128, 3) := by decide +kernel
theorem dX6_convert_101 : decode cX6_convert 101 = .ok (.ifCond .eq 21, 3) := by decide +kernel
theorem dX6_convert_104 : decode cX6_convert 104 = .ok (.aload_n 0, 1) := by decide +kernel
theorem dX6_convert_105 : decode cX6_convert 105 = .ok (.getfield 38, 3) := by decide +kernel
theorem dX6_convert_108 : decode cX6_convert 108 = .ok (.aload 7, 2) := by decide +kernel
theorem dX6_convert_110 : decode cX6_convert 110 = .ok (.iload 8, 2) := by decide +kernel
theorem dX6_convert_112 : decode cX6_convert 112 = .ok (.lconst 0, 1) := by decide +kernel
theorem dX6_convert_113 : decode cX6_convert 113 = .ok (.invokevirtual 230, 3) := by decide +kernel
theorem dX6_convert_116 : decode cX6_convert 116 = .ok (.invokevirtual 213, 3) := by decide +kernel
theorem dX6_convert_119 : decode cX6_convert 119 = .ok (.goto 30, 3) := by decide +kernel
theorem dX6_convert_122 : decode cX6_convert 122 = .ok (.aload_n 0, 1) := by decide +kernel
theorem dX6_convert_123 : decode cX6_convert 123 = .ok (.getfield 38, 3) := by decide +kernel
theorem dX6_convert_126 : decode cX6_convert 126 = .ok (.aload 7, 2) := by decide +kernel
theorem dX6_convert_128 : decode cX6_convert 128 = .ok (.iload 8, 2) := by decide +kernel
theorem dX6_convert_130 : decode cX6_convert 130 = .ok (.aload 6, 2) := by decide +kernel
theorem dX6_convert_132 : decode cX6_convert 132 = .ok (.lload_n 2, 1) := by decide +kernel
theorem dX6_convert_133 : decode cX6_convert 133 = .ok (.invokevirtual 173, 3) := by decide +kernel
theorem dX6_convert_136 : decode cX6_convert 136 = .ok (.aload 6, 2) := by decide +kernel
theorem dX6_convert_138 : decode cX6_convert 138 = .ok (.lload_n 2, 1) := by decide +kernel
theorem dX6_convert_139 : decode cX6_convert 139 = .ok (.invokevirtual 177, 3) := by decide +kernel
theorem dX6_convert_142 : decode cX6_convert 142 = .ok (.i2l, 1) := by decide +kernel
theorem dX6_convert_143 : decode cX6_convert 143 = .ok (.iconst 0, 1) := by decide +kernel
theorem dX6_convert_144 : decode cX6_convert 144 = .ok (.iload 5, 2) := by decide +kernel
theorem dX6_convert_146 : decode cX6_convert 146 = .ok (.invokevirtual 217, 3) := by decide +kernel
theorem dX6_convert_149 : decode cX6_convert 149 = .ok (.aload_n 0, 1) := by decide +kernel
theorem dX6_convert_150 : decode cX6_convert 150 = .ok (.invokevirtual 104, 3) := by decide +kernel
theorem dX6_convert_153 : decode cX6_convert 153 = .ok (.lreturn, 1) := by decide +kernel
theorem dX6_next_0 : decode cX6_next 0 = .ok (.iload_n 1, 1) := by decide +kernel
theorem dX6_next_1 : decode cX6_next 1 = .ok (.lload_n 2, 1) := by decide +kernel
theorem dX6_next_2 : decode cX6_next 2 = .ok (.invokestatic 108, 3) := by decide +kernel
theorem dX6_next_5 : decode cX6_next 5 = .ok (.astore 5, 2) := by decide +kernel
theorem dX6_next_7 : decode cX6_next 7 = .ok (.aload 5, 2) := by decide +kernel
theorem dX6_next_9 : decode cX6_next 9 = .ok (.lload_n 2, 1) := by decide +kernel
theorem dX6_next_10 : decode cX6_next 10 = .ok (.invokevirtual 221, 3) := by decide +kernel
theorem dX6_next_13 : decode cX6_next 13 = .ok (.ifCond .eq 5, 3) := by decide +kernel
theorem dX6_next_16 : decode cX6_next 16 = .ok (.lload_n 2, 1) := by decide +kernel
theorem dX6_next_17 : decode cX6_next 17 = .ok (.lreturn, 1) := by decide +kernel
theorem dX6_next_18 : decode cX6_next 18 = .ok (.aload 5, 2) := by decide +kernel
theorem dX6_next_20 : decode cX6_next 20 = .ok (.lload_n 2, 1) := by decide +kernel
theorem dX6_next_21 : decode cX6_next 21 = .ok (.invokevirtual 237, 3) := by decide +kernel
theorem dX6_next_24 : decode cX6_next 24 = .ok (.lstore 6, 2) := by decide +kernel
theorem dX6_next_26 : decode cX6_next 26 = .ok (.lload 6, 2) := by decide +kernel
theorem dX6_next_28 : decode cX6_next 28 = .ok (.lconst 0, 1) := by decide +kernel
theorem dX6_next_29 : decode cX6_next 29 = .ok (.lcmp, 1) := by decide +kernel
theorem dX6_next_30 : decode cX6_next 30 = .ok (.ifCond .ne 20, 3) := by decide +kernel
theorem dX6_next_33 : decode cX6_next 33 = .ok (.aload 5, 2) := by decide +kernel
theorem dX6_next_35 : decode cX6_next 35 = .ok (.iload 4, 2) := by decide +kernel
theorem dX6_next_37 : decode cX6_next 37 = .ok (.ifCond .ne 7, 3) := by decide +kernel
theorem dX6_next_40 : decode cX6_next 40 = .ok (.iconst 1, 1) := by decide +kernel
theorem dX6_next_41 : decode cX6_next 41 = .ok (.goto 4, 3) := by decide +kernel
theorem dX6_next_44 : decode cX6_next 44 = .ok (.iconst 0, 1) := by decide +kernel
theorem dX6_next_45 : decode cX6_next 45 = .ok (.lconst 1, 1) := by decide +kernel
theorem dX6_next_46 : decode cX6_next 46 = .ok (.invokevirtual 230, 3) := by decide +kernel
theorem dX6_next_49 : decode cX6_next 49 = .ok (.lreturn, 1) := by decide +kernel
theorem dX6_next_50 : decode cX6_next 50 = .ok (.aload 5, 2) := by decide +kernel
theorem dX6_next_52 : decode cX6_next 52 = .ok (.lload_n 2, 1) := by decide +kernel
theorem dX6_next_53 : decode cX6_next 53 = .ok (.invokevirtual 134, 3) := by decide +kernel
theorem dX6_next_56 : decode cX6_next 56 = .ok (.istore 8, 2) := by decide +kernel
theorem dX6_next_58 : decode cX6_next 58 = .ok (.iload 4, 2) := by decide +kernel
theorem dX6_next_60 : decode cX6_next 60 = .ok (.iload 8, 2) := by decide +kernel
theorem dX6_next_62 : decode cX6_next 62 = .ok (.if_icmp .ne 15, 3) := by decide +kernel
theorem dX6_next_65 : decode cX6_next 65 = .ok (.aload 5, 2) := by decide +kernel
theorem dX6_next_67 : decode cX6_next 67 = .ok (.iload 8, 2) := by decide +kernel
theorem dX6_next_69 : decode cX6_next 69 = .ok (.lload 6, 2) := by decide +kernel
theorem dX6_next_71 : decode cX6_next 71 = .ok (.lconst 1, 1) := by decide +kernel
theorem dX6_next_72 : decode cX6_next 72 = .ok (.lsub, 1) := by decide +kernel
theorem dX6_next_73 : decode cX6_next 73 = .ok (.invokevirtual 230, 3) := by decide +kernel
theorem dX6_next_76 : decode cX6_next 76 = .ok (.lreturn, 1) := by decide +kernel
theorem dX6_next_77 : decode cX6_next 77 = .ok (.aload 5, 2) := by decide +kernel
theorem dX6_next_79 : decode cX6_next 79 = .ok (.iload 8, 2) := by decide +kernel
theorem dX6_next_81 : decode cX6_next 81 = .ok (.lload 6, 2) := by decide +kernel
theorem dX6_next_83 : decode cX6_next 83 = .ok (.lconst 1, 1) := by decide +kernel
theorem dX6_next_84 : decode cX6_next 84 = .ok (.ladd, 1) := by decide +kernel
theorem dX6_next_85 : decode cX6_next 85 = .ok (.aload 5, 2) := by decide +kernel
theorem dX6_next_87 : decode cX6_next 87 = .ok (.invokevirtual 234, 3) := by decide +kernel
theorem dX6_next_90 : decode cX6_next 90 = .ok (.invokestatic 240, 3) := by decide +kernel
theorem dX6_next_93 : decode cX6_next 93 = .ok (.invokevirtual 230, 3) := by decide +kernel
theorem dX6_next_96 : decode cX6_next 96 = .ok (.lreturn, 1) := by decide +kernel
theorem dX6_steps_0 : decode cX6_steps 0 = .ok (.iload_n 1, 1) := by decide +kernel
theorem dX6_steps_1 : decode cX6_steps 1 = .ok (.lload_n 2, 1) := by decide +kernel
theorem dX6_steps_2 : decode cX6_steps 2 = .ok (.invokestatic 108, 3) := by decide +kernel
theorem dX6_steps_5 : decode cX6_steps 5 = .ok (.astore 6, 2) := by decide +kernel
theorem dX6_steps_7 : decode cX6_steps 7 = .ok (.aload 6, 2) := by decide +kernel
theorem dX6_steps_9 : decode cX6_steps 9 = .ok (.lload 4, 2) := by decide +kernel
theorem dX6_steps_11 : decode cX6_steps 11 = .ok (.invokestatic 246, 3) := by decide +kernel
theorem dX6_steps_14 : decode cX6_steps 14 = .ok (.aload 6, 2) := by decide +kernel
theorem dX6_steps_16 : decode cX6_steps 16 = .ok (.lload_n 2, 1) := by decide +kernel
theorem dX6_steps_17 : decode cX6_steps 17 = .ok (.invokevirtual 221, 3) := by decide +kernel
theorem dX6_steps_20 : decode cX6_steps 20 = .ok (.ifCond .ne 13, 3) := by decide +kernel
theorem dX6_steps_23 : decode cX6_steps 23 = .ok (.aload 6, 2) := by decide +kernel
theorem dX6_steps_25 : decode cX6_steps 25 = .ok (.lload 4, 2) := by decide +kernel
theorem dX6_steps_27 : decode cX6_steps 27 = .ok (.invokevirtual 221, 3) := by decide +kernel
theorem dX6_steps_30 : decode cX6_steps 30 = .ok (.ifCond .eq 13, 3) := by decide +kernel
theorem dX6_steps_33 : decode cX6_steps 33 = .ok (.new 66, 3) := by decide +kernel
theorem dX6_steps_36 : decode cX6_steps 36 = .ok (.dup, 1) := by decide +kernel
theorem dX6_steps_37 : decode cX6_steps 37 = .ok (.ldc 249, 2) := by decide +kernel
theorem dX6_steps_39 : decode cX6_steps 39 = .ok (.invokespecial 70, 3) := by decide +kernel
theorem dX6_steps_42 : decode cX6_steps 42 = .ok (.athrow, 1) := by decide +kernel
theorem dX6_steps_43 : decode cX6_steps 43 = .ok (.aload 6, 2) := by decide +kernel
theorem dX6_steps_45 : decode cX6_steps 45 = .ok (.lload_n 2, 1) := by decide +kernel
theorem dX6_steps_46 : decode cX6_steps 46 = .ok (.invokevirtual 251, 3) := by decide +kernel
theorem dX6_steps_49 : decode cX6_steps 49 = .ok (.lstore 7, 2) := by decide +kernel
theorem dX6_steps_51 : decode cX6_steps 51 = .ok (.aload 6, 2) := by decide +kernel
theorem dX6_steps_53 : decode cX6_steps 53 = .ok (.lload 4, 2) := by decide +kernel
theorem dX6_steps_55 : decode cX6_steps 55 = .ok (.invokevirtual 251, 3) := by decide +kernel
theorem dX6_steps_58 : decode cX6_steps 58 = .ok (.lstore 9, 2) := by decide +kernel
theorem dX6_steps_60 : decode cX6_steps 60 = .ok (.lload 9, 2) := by decide +kernel
theorem dX6_steps_62 : decode cX6_steps 62 = .ok (.lload 7, 2) := by decide +kernel
theorem dX6_steps_64 : decode cX6_steps 64 = .ok (.lsub, 1) := by decide +kernel
theorem dX6_steps_65 : decode cX6_steps 65 = .ok (.lstore 11, 2) := by decide +kernel
theorem dX6_steps_67 : decode cX6_steps 67 = .ok (.lload 7, 2) := by decide +kernel
theorem dX6_steps_69 : decode cX6_steps 69 = .ok (.lconst 0, 1) := by decide +kernel
theorem dX6_steps_70 : decode cX6_steps 70 = .ok (.lcmp, 1) := by decide +kernel
theorem dX6_steps_71 : decode cX6_steps 71 = .ok (.ifCond .ge 21, 3) := by decide +kernel
theorem dX6_steps_74 : decode cX6_steps 74 = .ok (.lload 9, 2) := by decide +kernel
theorem dX6_steps_76 : decode cX6_steps 76 = .ok (.lconst 0, 1) := by decide +kernel
theorem dX6_steps_77 : decode cX6_steps 77 = .ok (.lcmp, 1) := by decide +kernel
theorem dX6_steps_78 : decode cX6_steps 78 = .ok (.ifCond .le 14, 3) := by decide +kernel
theorem dX6_steps_81 : decode cX6_steps 81 = .ok (.lload 11, 2) := by decide +kernel
theorem dX6_steps_83 : decode cX6_steps 83 = .ok (.lconst 0, 1) := by decide +kernel
theorem dX6_steps_84 : decode cX6_steps 84 = .ok (.lcmp, 1) := by decide +kernel
theorem dX6_steps_85 : decode cX6_steps 85 = .ok (.ifCond .ge 7, 3) := by decide +kernel
theorem dX6_steps_88 : decode cX6_steps 88 = .ok (.ldc2_w 256, 3) := by decide +kernel
theorem dX6_steps_91 : decode cX6_steps 91 = .ok (.lreturn, 1) := by decide +kernel
theorem dX6_steps_92 : decode cX6_steps 92 = .ok (.lload 7, 2) := by decide +kernel
theorem dX6_steps_94 : decode cX6_steps 94 = .ok (.lconst 0, 1) := by decide +kernel
theorem dX6_steps_95 : decode cX6_steps 95 = .ok (.lcmp, 1) := by decide +kernel
theorem dX6_steps_96 : decode cX6_steps 96 = .ok (.ifCond .le 21, 3) := by decide +kernel
theorem dX6_steps_99 : decode cX6_steps 99 = .ok (.lload 9, 2) := by decide +kernel
theorem dX6_steps_101 : decode cX6_steps 101 = .ok (.lconst 0, 1) := by decide +kernel
theorem dX6_steps_102 : decode cX6_steps 102 = .ok (.lcmp, 1) := by decide +kernel
theorem dX6_steps_103 : decode cX6_steps 103 = .ok (.ifCond .ge 14, 3) := by decide +kernel
theorem dX6_steps_106 : decode cX6_steps 106 = .ok (.lload 11, 2) := by decide +kernel
theorem dX6_steps_108 : decode cX6_steps 108 = .ok (.lconst 0, 1) := by decide +kernel
theorem dX6_steps_109 : decode cX6_steps 109 = .ok (.lcmp, 1) := by decide +kernel
theorem dX6_steps_110 : decode cX6_steps 110 = .ok (.ifCond .lt 7, 3) := by decide +kernel
theorem dX6_steps_113 : decode cX6_steps 113 = .ok (.ldc2_w 258, 3) := by decide +kernel
theorem dX6_steps_116 : decode cX6_steps 116 = .ok (.lreturn, 1) := by decide +kernel
theorem dX6_steps_117 : decode cX6_steps 117 = .ok (.lload 11, 2) := by decide +kernel
theorem dX6_steps_119 : decode cX6_steps 119 = .ok (.lreturn, 1) := by decide +kernel
theorem dX6_compare_0 : decode cX6_compare 0 = .ok (.iload_n 1, 1) := by decide +kernel
theorem dX6_compare_1 : decode cX6_compare 1 = .ok (.lload_n 2, 1) := by decide +kernel
theorem dX6_compare_2 : decode cX6_compare 2 = .ok (.invokestatic 108, 3) := by decide +kernel
theorem dX6_compare_5 : decode cX6_compare 5 = .ok (.astore 6, 2) := by decide +kernel
theorem dX6_compare_7 : decode cX6_compare 7 = .ok (.aload 6, 2) := by decide +kernel
theorem dX6_compare_9 : decode cX6_compare 9 = .ok (.lload 4, 2) := by decide +kernel
theorem dX6_compare_11 : decode cX6_compare 11 = .ok (.invokestatic 246, 3) := by decide +kernel
theorem dX6_compare_14 : decode cX6_compare 14 = .ok (.aload 6, 2) := by decide +kernel
theorem dX6_compare_16 : decode cX6_compare 16 = .ok (.lload_n 2, 1) := by decide +kernel
theorem dX6_compare_17 : decode cX6_compare 17 = .ok (.invokevirtual 221, 3) := by decide +kernel
theorem dX6_compare_20 : decode cX6_compare 20 = .ok (.ifCond .ne 13, 3) := by decide +kernel
theorem dX6_compare_23 : decode cX6_compare 23 = .ok (.aload 6, 2) := by decide +kernel
theorem dX6_compare_25 : decode cX6_compare 25 = .ok (.lload 4, 2) := by decide +kernel
theorem dX6_compare_27 : decode cX6_compare 27 = .ok (.invokevirtual 221, 3) := by decide +kernel
theorem dX6_compare_30 : decode cX6_compare 30 = .ok (.ifCond .eq 5, 3) := by decide +kernel
theorem dX6_compare_33 : decode cX6_compare 33 = .ok (.iconst 2, 1) := by decide +kernel
theorem dX6_compare_34 : decode cX6_compare 34 = .ok (.ireturn, 1) := by decide +kernel
theorem dX6_compare_35 : decode cX6_compare 35 = .ok (.aload 6, 2) := by decide +kernel
theorem dX6_compare_37 : decode cX6_compare 37 = .ok (.lload_n 2, 1) := by decide +kernel
theorem dX6_compare_38 : decode cX6_compare 38 = .ok (.invokevirtual 251, 3) := by decide +kernel
theorem dX6_compare_41 : decode cX6_compare 41 = .ok (.aload 6, 2) := by decide +kernel
theorem dX6_compare_43 : decode cX6_compare 43 = .ok (.lload 4, 2) := by decide +kernel
theorem dX6_compare_45 : decode cX6_compare 45 = .ok (.invokevirtual 251, 3) := by decide +kernel
theorem dX6_compare_48 : decode cX6_compare 48 = .ok (.invokestatic 260, 3) := by decide +kernel
theorem dX6_compare_51 : decode cX6_compare 51 = .ok (.ireturn, 1) := by decide +kernel
theorem dX6_order_0 : decode cX6_order 0 = .ok (.iload_n 1, 1) := by decide +kernel
theorem dX6_order_1 : decode cX6_order 1 = .ok (.lload_n 2, 1) := by decide +kernel
theorem dX6_order_2 : decode cX6_order 2 = .ok (.invokestatic 108, 3) := by decide +kernel
theorem dX6_order_5 : decode cX6_order 5 = .ok (.astore 6, 2) := by decide +kernel
theorem dX6_order_7 : decode cX6_order 7 = .ok (.aload 6, 2) := by decide +kernel
theorem dX6_order_9 : decode cX6_order 9 = .ok (.lload 4, 2) := by decide +kernel
theorem dX6_order_11 : decode cX6_order 11 = .ok (.invokestatic 246, 3) := by decide +kernel
theorem dX6_order_14 : decode cX6_order 14 = .ok (.aload 6, 2) := by decide +kernel
theorem dX6_order_16 : decode cX6_order 16 = .ok (.lload_n 2, 1) := by decide +kernel
theorem dX6_order_17 : decode cX6_order 17 = .ok (.invokevirtual 134, 3) := by decide +kernel
theorem dX6_order_20 : decode cX6_order 20 = .ok (.aload 6, 2) := by decide +kernel
theorem dX6_order_22 : decode cX6_order 22 = .ok (.lload 4, 2) := by decide +kernel
theorem dX6_order_24 : decode cX6_order 24 = .ok (.invokevirtual 134, 3) := by decide +kernel
theorem dX6_order_27 : decode cX6_order 27 = .ok (.if_icmp .eq 18, 3) := by decide +kernel
theorem dX6_order_30 : decode cX6_order 30 = .ok (.aload 6, 2) := by decide +kernel
theorem dX6_order_32 : decode cX6_order 32 = .ok (.lload_n 2, 1) := by decide +kernel
theorem dX6_order_33 : decode cX6_order 33 = .ok (.invokevirtual 134, 3) := by decide +kernel
theorem dX6_order_36 : decode cX6_order 36 = .ok (.ifCond .eq 7, 3) := by decide +kernel
theorem dX6_order_39 : decode cX6_order 39 = .ok (.iconst (-1), 1) := by decide +kernel
theorem dX6_order_40 : decode cX6_order 40 = .ok (.goto 4, 3) := by decide +kernel
theorem dX6_order_43 : decode cX6_order 43 = .ok (.iconst 1, 1) := by decide +kernel
theorem dX6_order_44 : decode cX6_order 44 = .ok (.ireturn, 1) := by decide +kernel
theorem dX6_order_45 : decode cX6_order 45 = .ok (.aload 6, 2) := by decide +kernel
theorem dX6_order_47 : decode cX6_order 47 = .ok (.lload_n 2, 1) := by decide +kernel
theorem dX6_order_48 : decode cX6_order 48 = .ok (.invokevirtual 237, 3) := by decide +kernel
theorem dX6_order_51 : decode cX6_order 51 = .ok (.aload 6, 2) := by decide +kernel
theorem dX6_order_53 : decode cX6_order 53 = .ok (.lload 4, 2) := by decide +kernel
theorem dX6_order_55 : decode cX6_order 55 = .ok (.invokevirtual 237, 3) := by decide +kernel
theorem dX6_order_58 : decode cX6_order 58 = .ok (.invokestatic 260, 3) := by decide +kernel
theorem dX6_order_61 : decode cX6_order 61 = .ok (.istore 7, 2) := by decide +kernel
theorem dX6_order_63 : decode cX6_order 63 = .ok (.aload 6, 2) := by decide +kernel
theorem dX6_order_65 : decode cX6_order 65 = .ok (.lload_n 2, 1) := by decide +kernel
theorem dX6_order_66 : decode cX6_order 66 = .ok (.invokevirtual 134, 3) := by decide +kernel
theorem dX6_order_69 : decode cX6_order 69 = .ok (.ifCond .eq 9, 3) := by decide +kernel
theorem dX6_order_72 : decode cX6_order 72 = .ok (.iload 7, 2) := by decide +kernel
theorem dX6_order_74 : decode cX6_order 74 = .ok (.ineg, 1) := by decide +kernel
theorem dX6_order_75 : decode cX6_order 75 = .ok (.goto 5, 3) := by decide +kernel
theorem dX6_order_78 : decode cX6_order 78 = .ok (.iload 7, 2) := by decide +kernel
theorem dX6_order_80 : decode cX6_order 80 = .ok (.ireturn, 1) := by decide +kernel
theorem dX6_kind_0 : decode cX6_kind 0 = .ok (.iload_n 1, 1) := by decide +kernel
theorem dX6_kind_1 : decode cX6_kind 1 = .ok (.lload_n 2, 1) := by decide +kernel
theorem dX6_kind_2 : decode cX6_kind 2 = .ok (.invokestatic 108, 3) := by decide +kernel
theorem dX6_kind_5 : decode cX6_kind 5 = .ok (.astore 4, 2) := by decide +kernel
theorem dX6_kind_7 : decode cX6_kind 7 = .ok (.aload 4, 2) := by decide +kernel
theorem dX6_kind_9 : decode cX6_kind 9 = .ok (.lload_n 2, 1) := by decide +kernel
theorem dX6_kind_10 : decode cX6_kind 10 = .ok (.invokevirtual 128, 3) := by decide +kernel
theorem dX6_kind_13 : decode cX6_kind 13 = .ok (.ifCond .eq 5, 3) := by decide +kernel
theorem dX6_kind_16 : decode cX6_kind 16 = .ok (.iconst 0, 1) := by decide +kernel
theorem dX6_kind_17 : decode cX6_kind 17 = .ok (.ireturn, 1) := by decide +kernel
theorem dX6_kind_18 : decode cX6_kind 18 = .ok (.aload 4, 2) := by decide +kernel
theorem dX6_kind_20 : decode cX6_kind 20 = .ok (.lload_n 2, 1) := by decide +kernel
theorem dX6_kind_21 : decode cX6_kind 21 = .ok (.invokevirtual 115, 3) := by decide +kernel
theorem dX6_kind_24 : decode cX6_kind 24 = .ok (.ifCond .eq 18, 3) := by decide +kernel
theorem dX6_kind_27 : decode cX6_kind 27 = .ok (.aload 4, 2) := by decide +kernel
theorem dX6_kind_29 : decode cX6_kind 29 = .ok (.lload_n 2, 1) := by decide +kernel
theorem dX6_kind_30 : decode cX6_kind 30 = .ok (.invokevirtual 264, 3) := by decide +kernel
theorem dX6_kind_33 : decode cX6_kind 33 = .ok (.ifCond .ne 7, 3) := by decide +kernel
theorem dX6_kind_36 : decode cX6_kind 36 = .ok (.iconst 1, 1) := by decide +kernel
theorem dX6_kind_37 : decode cX6_kind 37 = .ok (.goto 4, 3) := by decide +kernel
theorem dX6_kind_40 : decode cX6_kind 40 = .ok (.iconst 2, 1) := by decide +kernel
theorem dX6_kind_41 : decode cX6_kind 41 = .ok (.ireturn, 1) := by decide +kernel
theorem dX6_kind_42 : decode cX6_kind 42 = .ok (.aload 4, 2) := by decide +kernel
theorem dX6_kind_44 : decode cX6_kind 44 = .ok (.lload_n 2, 1) := by decide +kernel
theorem dX6_kind_45 : decode cX6_kind 45 = .ok (.invokevirtual 221, 3) := by decide +kernel
theorem dX6_kind_48 : decode cX6_kind 48 = .ok (.ifCond .eq 7, 3) := by decide +kernel
theorem dX6_kind_51 : decode cX6_kind 51 = .ok (.iconst 4, 1) := by decide +kernel
theorem dX6_kind_52 : decode cX6_kind 52 = .ok (.goto 4, 3) := by decide +kernel
theorem dX6_kind_55 : decode cX6_kind 55 = .ok (.iconst 3, 1) := by decide +kernel
theorem dX6_kind_56 : decode cX6_kind 56 = .ok (.ireturn, 1) := by decide +kernel
theorem dX6_reads_0 : decode cX6_reads 0 = .ok (.iload_n 1, 1) := by decide +kernel
theorem dX6_reads_1 : decode cX6_reads 1 = .ok (.lload_n 2, 1) := by decide +kernel
theorem dX6_reads_2 : decode cX6_reads 2 = .ok (.invokestatic 108, 3) := by decide +kernel
theorem dX6_reads_5 : decode cX6_reads 5 = .ok (.astore 7, 2) := by decide +kernel
theorem dX6_reads_7 : decode cX6_reads 7 = .ok (.iload 6, 2) := by decide +kernel
theorem dX6_reads_9 : decode cX6_reads 9 = .ok (.invokestatic 206, 3) := by decide +kernel
theorem dX6_reads_12 : decode cX6_reads 12 = .ok (.aload_n 0, 1) := by decide +kernel
theorem dX6_reads_13 : decode cX6_reads 13 = .ok (.aload 7, 2) := by decide +kernel
theorem dX6_reads_15 : decode cX6_reads 15 = .ok (.lload 4, 2) := by decide +kernel
theorem dX6_reads_17 : decode cX6_reads 17 = .ok (.iload 6, 2) := by decide +kernel
theorem dX6_reads_19 : decode cX6_reads 19 = .ok (.iconst 0, 1) := by decide +kernel
theorem dX6_reads_20 : decode cX6_reads 20 = .ok (.invokevirtual 209, 3) := by decide +kernel
theorem dX6_reads_23 : decode cX6_reads 23 = .ok (.aload_n 0, 1) := by decide +kernel
theorem dX6_reads_24 : decode cX6_reads 24 = .ok (.getfield 38, 3) := by decide +kernel
theorem dX6_reads_27 : decode cX6_reads 27 = .ok (.getfield 267, 3) := by decide +kernel
theorem dX6_reads_30 : decode cX6_reads 30 = .ok (.lload_n 2, 1) := by decide +kernel
theorem dX6_reads_31 : decode cX6_reads 31 = .ok (.lcmp, 1) := by decide +kernel
theorem dX6_reads_32 : decode cX6_reads 32 = .ok (.ifCond .ne 7, 3) := by decide +kernel
theorem dX6_reads_35 : decode cX6_reads 35 = .ok (.iconst 1, 1) := by decide +kernel
theorem dX6_reads_36 : decode cX6_reads 36 = .ok (.goto 4, 3) := by decide +kernel
theorem dX6_reads_39 : decode cX6_reads 39 = .ok (.iconst 0, 1) := by decide +kernel
theorem dX6_reads_40 : decode cX6_reads 40 = .ok (.ireturn, 1) := by decide +kernel
theorem dX6_holds_0 : decode cX6_holds 0 = .ok (.iload_n 1, 1) := by decide +kernel
theorem dX6_holds_1 : decode cX6_holds 1 = .ok (.lload_n 2, 1) := by decide +kernel
theorem dX6_holds_2 : decode cX6_holds 2 = .ok (.invokestatic 108, 3) := by decide +kernel
theorem dX6_holds_5 : decode cX6_holds 5 = .ok (.astore 4, 2) := by decide +kernel
theorem dX6_holds_7 : decode cX6_holds 7 = .ok (.aload 4, 2) := by decide +kernel
theorem dX6_holds_9 : decode cX6_holds 9 = .ok (.lload_n 2, 1) := by decide +kernel
theorem dX6_holds_10 : decode cX6_holds 10 = .ok (.invokestatic 148, 3) := by decide +kernel
theorem dX6_holds_13 : decode cX6_holds 13 = .ok (.aload 4, 2) := by decide +kernel
theorem dX6_holds_15 : decode cX6_holds 15 = .ok (.lload_n 2, 1) := by decide +kernel
theorem dX6_holds_16 : decode cX6_holds 16 = .ok (.invokevirtual 128, 3) := by decide +kernel
theorem dX6_holds_19 : decode cX6_holds 19 = .ok (.ifCond .eq 14, 3) := by decide +kernel
theorem dX6_holds_22 : decode cX6_holds 22 = .ok (.new 66, 3) := by decide +kernel
theorem dX6_holds_25 : decode cX6_holds 25 = .ok (.dup, 1) := by decide +kernel
theorem dX6_holds_26 : decode cX6_holds 26 = .ok (.ldc_w 270, 3) := by decide +kernel
theorem dX6_holds_29 : decode cX6_holds 29 = .ok (.invokespecial 70, 3) := by decide +kernel
theorem dX6_holds_32 : decode cX6_holds 32 = .ok (.athrow, 1) := by decide +kernel
theorem dX6_holds_33 : decode cX6_holds 33 = .ok (.aload_n 0, 1) := by decide +kernel
theorem dX6_holds_34 : decode cX6_holds 34 = .ok (.aload 4, 2) := by decide +kernel
theorem dX6_holds_36 : decode cX6_holds 36 = .ok (.lload_n 2, 1) := by decide +kernel
theorem dX6_holds_37 : decode cX6_holds 37 = .ok (.invokevirtual 131, 3) := by decide +kernel
theorem dX6_holds_40 : decode cX6_holds 40 = .ok (.istore 5, 2) := by decide +kernel
theorem dX6_holds_42 : decode cX6_holds 42 = .ok (.aload_n 0, 1) := by decide +kernel
theorem dX6_holds_43 : decode cX6_holds 43 = .ok (.aload 4, 2) := by decide +kernel
theorem dX6_holds_45 : decode cX6_holds 45 = .ok (.lload_n 2, 1) := by decide +kernel
theorem dX6_holds_46 : decode cX6_holds 46 = .ok (.invokevirtual 272, 3) := by decide +kernel
theorem dX6_holds_49 : decode cX6_holds 49 = .ok (.ifCond .ne 5, 3) := by decide +kernel
theorem dX6_holds_52 : decode cX6_holds 52 = .ok (.iconst 0, 1) := by decide +kernel
theorem dX6_holds_53 : decode cX6_holds 53 = .ok (.ireturn, 1) := by decide +kernel
theorem dX6_holds_54 : decode cX6_holds 54 = .ok (.iload 5, 2) := by decide +kernel
theorem dX6_holds_56 : decode cX6_holds 56 = .ok (.iconst 1, 1) := by decide +kernel
theorem dX6_holds_57 : decode cX6_holds 57 = .ok (.if_icmp .ne 5, 3) := by decide +kernel
theorem dX6_holds_60 : decode cX6_holds 60 = .ok (.iconst 1, 1) := by decide +kernel
theorem dX6_holds_61 : decode cX6_holds 61 = .ok (.ireturn, 1) := by decide +kernel
theorem dX6_holds_62 : decode cX6_holds 62 = .ok (.aload_n 0, 1) := by decide +kernel
theorem dX6_holds_63 : decode cX6_holds 63 = .ok (.getfield 45, 3) := by decide +kernel
theorem dX6_holds_66 : decode cX6_holds 66 = .ok (.invokevirtual 157, 3) := by decide +kernel
theorem dX6_holds_69 : decode cX6_holds 69 = .ok (.iload 5, 2) := by decide +kernel
theorem dX6_holds_71 : decode cX6_holds 71 = .ok (.isub, 1) := by decide +kernel
theorem dX6_holds_72 : decode cX6_holds 72 = .ok (.iconst 1, 1) := by decide +kernel
theorem dX6_holds_73 : decode cX6_holds 73 = .ok (.iadd, 1) := by decide +kernel
theorem dX6_holds_74 : decode cX6_holds 74 = .ok (.istore 6, 2) := by decide +kernel
theorem dX6_holds_76 : decode cX6_holds 76 = .ok (.aload_n 0, 1) := by decide +kernel
theorem dX6_holds_77 : decode cX6_holds 77 = .ok (.getfield 55, 3) := by decide +kernel
theorem dX6_holds_80 : decode cX6_holds 80 = .ok (.aload_n 0, 1) := by decide +kernel
theorem dX6_holds_81 : decode cX6_holds 81 = .ok (.getfield 45, 3) := by decide +kernel
theorem dX6_holds_84 : decode cX6_holds 84 = .ok (.iload 6, 2) := by decide +kernel
theorem dX6_holds_86 : decode cX6_holds 86 = .ok (.invokevirtual 276, 3) := by decide +kernel
theorem dX6_holds_89 : decode cX6_holds 89 = .ok (.aload_n 0, 1) := by decide +kernel
theorem dX6_holds_90 : decode cX6_holds 90 = .ok (.aload 4, 2) := by decide +kernel
theorem dX6_holds_92 : decode cX6_holds 92 = .ok (.lload_n 2, 1) := by decide +kernel
theorem dX6_holds_93 : decode cX6_holds 93 = .ok (.invokevirtual 272, 3) := by decide +kernel
theorem dX6_holds_96 : decode cX6_holds 96 = .ok (.ifCond .eq 5, 3) := by decide +kernel
theorem dX6_holds_99 : decode cX6_holds 99 = .ok (.iconst 0, 1) := by decide +kernel
theorem dX6_holds_100 : decode cX6_holds 100 = .ok (.ireturn, 1) := by decide +kernel
theorem dX6_holds_101 : decode cX6_holds 101 = .ok (.aload_n 0, 1) := by decide +kernel
theorem dX6_holds_102 : decode cX6_holds 102 = .ok (.getfield 55, 3) := by decide +kernel
theorem dX6_holds_105 : decode cX6_holds 105 = .ok (.aload_n 0, 1) := by decide +kernel
theorem dX6_holds_106 : decode cX6_holds 106 = .ok (.getfield 45, 3) := by decide +kernel
theorem dX6_holds_109 : decode cX6_holds 109 = .ok (.iload 6, 2) := by decide +kernel
theorem dX6_holds_111 : decode cX6_holds 111 = .ok (.invokevirtual 276, 3) := by decide +kernel
theorem dX6_holds_114 : decode cX6_holds 114 = .ok (.aload_n 0, 1) := by decide +kernel
theorem dX6_holds_115 : decode cX6_holds 115 = .ok (.getfield 55, 3) := by decide +kernel
theorem dX6_holds_118 : decode cX6_holds 118 = .ok (.iload 6, 2) := by decide +kernel
theorem dX6_holds_120 : decode cX6_holds 120 = .ok (.invokevirtual 280, 3) := by decide +kernel
theorem dX6_holds_123 : decode cX6_holds 123 = .ok (.aload_n 0, 1) := by decide +kernel
theorem dX6_holds_124 : decode cX6_holds 124 = .ok (.aload 4, 2) := by decide +kernel
theorem dX6_holds_126 : decode cX6_holds 126 = .ok (.lload_n 2, 1) := by decide +kernel
theorem dX6_holds_127 : decode cX6_holds 127 = .ok (.invokevirtual 272, 3) := by decide +kernel
theorem dX6_holds_130 : decode cX6_holds 130 = .ok (.ifCond .ne 7, 3) := by decide +kernel
theorem dX6_holds_133 : decode cX6_holds 133 = .ok (.iconst 1, 1) := by decide +kernel
theorem dX6_holds_134 : decode cX6_holds 134 = .ok (.goto 4, 3) := by decide +kernel
theorem dX6_holds_137 : decode cX6_holds 137 = .ok (.iconst 0, 1) := by decide +kernel
theorem dX6_holds_138 : decode cX6_holds 138 = .ok (.ireturn, 1) := by decide +kernel
theorem dX6_shapeOf_0 : decode cX6_shapeOf 0 = .ok (.iload_n 0, 1) := by decide +kernel
theorem dX6_shapeOf_1 : decode cX6_shapeOf 1 = .ok (.ifCond .lt 11, 3) := by decide +kernel
theorem dX6_shapeOf_4 : decode cX6_shapeOf 4 = .ok (.iload_n 0, 1) := by decide +kernel
theorem dX6_shapeOf_5 : decode cX6_shapeOf 5 = .ok (.getstatic 283, 3) := by decide +kernel
theorem dX6_shapeOf_8 : decode cX6_shapeOf 8 = .ok (.arraylength, 1) := by decide +kernel
theorem dX6_shapeOf_9 : decode cX6_shapeOf 9 = .ok (.if_icmp .lt 14, 3) := by decide +kernel
theorem dX6_shapeOf_12 : decode cX6_shapeOf 12 = .ok (.new 66, 3) := by decide +kernel
theorem dX6_shapeOf_15 : decode cX6_shapeOf 15 = .ok (.dup, 1) := by decide +kernel
theorem dX6_shapeOf_16 : decode cX6_shapeOf 16 = .ok (.ldc_w 287, 3) := by decide +kernel
theorem dX6_shapeOf_19 : decode cX6_shapeOf 19 = .ok (.invokespecial 70, 3) := by decide +kernel
theorem dX6_shapeOf_22 : decode cX6_shapeOf 22 = .ok (.athrow, 1) := by decide +kernel
theorem dX6_shapeOf_23 : decode cX6_shapeOf 23 = .ok (.getstatic 283, 3) := by decide +kernel
theorem dX6_shapeOf_26 : decode cX6_shapeOf 26 = .ok (.iload_n 0, 1) := by decide +kernel
theorem dX6_shapeOf_27 : decode cX6_shapeOf 27 = .ok (.aaload, 1) := by decide +kernel
theorem dX6_shapeOf_28 : decode cX6_shapeOf 28 = .ok (.areturn, 1) := by decide +kernel
theorem dX6_shapeOwning_0 : decode cX6_shapeOwning 0 = .ok (.iload_n 0, 1) := by decide +kernel
theorem dX6_shapeOwning_1 : decode cX6_shapeOwning 1 = .ok (.invokestatic 89, 3) := by decide +kernel
theorem dX6_shapeOwning_4 : decode cX6_shapeOwning 4 = .ok (.astore_n 3, 1) := by decide +kernel
theorem dX6_shapeOwning_5 : decode cX6_shapeOwning 5 = .ok (.aload_n 3, 1) := by decide +kernel
theorem dX6_shapeOwning_6 : decode cX6_shapeOwning 6 = .ok (.lload_n 1, 1) := by decide +kernel
theorem dX6_shapeOwning_7 : decode cX6_shapeOwning 7 = .ok (.invokestatic 246, 3) := by decide +kernel
theorem dX6_shapeOwning_10 : decode cX6_shapeOwning 10 = .ok (.aload_n 3, 1) := by decide +kernel
theorem dX6_shapeOwning_11 : decode cX6_shapeOwning 11 = .ok (.areturn, 1) := by decide +kernel
theorem dX6_needPattern_0 : decode cX6_needPattern 0 = .ok (.aload_n 0, 1) := by decide +kernel
theorem dX6_needPattern_1 : decode cX6_needPattern 1 = .ok (.lload_n 1, 1) := by decide +kernel
theorem dX6_needPattern_2 : decode cX6_needPattern 2 = .ok (.invokevirtual 289, 3) := by decide +kernel
theorem dX6_needPattern_5 : decode cX6_needPattern 5 = .ok (.ifCond .ne 14, 3) := by decide +kernel
theorem dX6_needPattern_8 : decode cX6_needPattern 8 = .ok (.new 66, 3) := by decide +kernel
theorem dX6_needPattern_11 : decode cX6_needPattern 11 = .ok (.dup, 1) := by decide +kernel
theorem dX6_needPattern_12 : decode cX6_needPattern 12 = .ok (.ldc_w 292, 3) := by decide +kernel
theorem dX6_needPattern_15 : decode cX6_needPattern 15 = .ok (.invokespecial 70, 3) := by decide +kernel
theorem dX6_needPattern_18 : decode cX6_needPattern 18 = .ok (.athrow, 1) := by decide +kernel
theorem dX6_needPattern_19 : decode cX6_needPattern 19 = .ok (.return_, 1) := by decide +kernel
theorem dX6_needFinite_0 : decode cX6_needFinite 0 = .ok (.aload_n 0, 1) := by decide +kernel
theorem dX6_needFinite_1 : decode cX6_needFinite 1 = .ok (.lload_n 1, 1) := by decide +kernel
theorem dX6_needFinite_2 : decode cX6_needFinite 2 = .ok (.invokevirtual 115, 3) := by decide +kernel
theorem dX6_needFinite_5 : decode cX6_needFinite 5 = .ok (.ifCond .ne 14, 3) := by decide +kernel
theorem dX6_needFinite_8 : decode cX6_needFinite 8 = .ok (.new 66, 3) := by decide +kernel
theorem dX6_needFinite_11 : decode cX6_needFinite 11 = .ok (.dup, 1) := by decide +kernel
theorem dX6_needFinite_12 : decode cX6_needFinite 12 = .ok (.ldc_w 294, 3) := by decide +kernel
theorem dX6_needFinite_15 : decode cX6_needFinite 15 = .ok (.invokespecial 70, 3) := by decide +kernel
theorem dX6_needFinite_18 : decode cX6_needFinite 18 = .ok (.athrow, 1) := by decide +kernel
theorem dX6_needFinite_19 : decode cX6_needFinite 19 = .ok (.return_, 1) := by decide +kernel
theorem dX6_needWay_0 : decode cX6_needWay 0 = .ok (.iload_n 0, 1) := by decide +kernel
theorem dX6_needWay_1 : decode cX6_needWay 1 = .ok (.ifCond .lt 8, 3) := by decide +kernel
theorem dX6_needWay_4 : decode cX6_needWay 4 = .ok (.iload_n 0, 1) := by decide +kernel
theorem dX6_needWay_5 : decode cX6_needWay 5 = .ok (.iconst 4, 1) := by decide +kernel
theorem dX6_needWay_6 : decode cX6_needWay 6 = .ok (.if_icmp .le 14, 3) := by decide +kernel
theorem dX6_needWay_9 : decode cX6_needWay 9 = .ok (.new 66, 3) := by decide +kernel
theorem dX6_needWay_12 : decode cX6_needWay 12 = .ok (.dup, 1) := by decide +kernel
theorem dX6_needWay_13 : decode cX6_needWay 13 = .ok (.ldc_w 296, 3) := by decide +kernel
theorem dX6_needWay_16 : decode cX6_needWay 16 = .ok (.invokespecial 70, 3) := by decide +kernel
theorem dX6_needWay_19 : decode cX6_needWay 19 = .ok (.athrow, 1) := by decide +kernel
theorem dX6_needWay_20 : decode cX6_needWay 20 = .ok (.return_, 1) := by decide +kernel
theorem dX6_needForm_0 : decode cX6_needForm 0 = .ok (.iload_n 0, 1) := by decide +kernel
theorem dX6_needForm_1 : decode cX6_needForm 1 = .ok (.ifCond .lt 8, 3) := by decide +kernel
theorem dX6_needForm_4 : decode cX6_needForm 4 = .ok (.iload_n 0, 1) := by decide +kernel
theorem dX6_needForm_5 : decode cX6_needForm 5 = .ok (.iconst 2, 1) := by decide +kernel
theorem dX6_needForm_6 : decode cX6_needForm 6 = .ok (.if_icmp .le 14, 3) := by decide +kernel
theorem dX6_needForm_9 : decode cX6_needForm 9 = .ok (.new 66, 3) := by decide +kernel
theorem dX6_needForm_12 : decode cX6_needForm 12 = .ok (.dup, 1) := by decide +kernel
theorem dX6_needForm_13 : decode cX6_needForm 13 = .ok (.ldc_w 298, 3) := by decide +kernel
theorem dX6_needForm_16 : decode cX6_needForm 16 = .ok (.invokespecial 70, 3) := by decide +kernel
theorem dX6_needForm_19 : decode cX6_needForm 19 = .ok (.athrow, 1) := by decide +kernel
theorem dX6_needForm_20 : decode cX6_needForm 20 = .ok (.return_, 1) := by decide +kernel
theorem dX6_needTens_0 : decode cX6_needTens 0 = .ok (.iload_n 0, 1) := by decide +kernel
theorem dX6_needTens_1 : decode cX6_needTens 1 = .ok (.sipush (-5000), 3) := by decide +kernel
theorem dX6_needTens_4 : decode cX6_needTens 4 = .ok (.if_icmp .lt 10, 3) := by decide +kernel
theorem dX6_needTens_7 : decode cX6_needTens 7 = .ok (.iload_n 0, 1) := by decide +kernel
theorem dX6_needTens_8 : decode cX6_needTens 8 = .ok (.sipush 5000, 3) := by decide +kernel
theorem dX6_needTens_11 : decode cX6_needTens 11 = .ok (.if_icmp .le 14, 3) := by decide +kernel
theorem dX6_needTens_14 : decode cX6_needTens 14 = .ok (.new 66, 3) := by decide +kernel
theorem dX6_needTens_17 : decode cX6_needTens 17 = .ok (.dup, 1) := by decide +kernel
theorem dX6_needTens_18 : decode cX6_needTens 18 = .ok (.ldc_w 300, 3) := by decide +kernel
theorem dX6_needTens_21 : decode cX6_needTens 21 = .ok (.invokespecial 70, 3) := by decide +kernel
theorem dX6_needTens_24 : decode cX6_needTens 24 = .ok (.athrow, 1) := by decide +kernel
theorem dX6_needTens_25 : decode cX6_needTens 25 = .ok (.return_, 1) := by decide +kernel
theorem dX6_signOf_0 : decode cX6_signOf 0 = .ok (.lload_n 0, 1) := by decide +kernel
theorem dX6_signOf_1 : decode cX6_signOf 1 = .ok (.lload_n 2, 1) := by decide +kernel
theorem dX6_signOf_2 : decode cX6_signOf 2 = .ok (.lcmp, 1) := by decide +kernel
theorem dX6_signOf_3 : decode cX6_signOf 3 = .ok (.ifCond .ne 5, 3) := by decide +kernel
theorem dX6_signOf_6 : decode cX6_signOf 6 = .ok (.iconst 0, 1) := by decide +kernel
theorem dX6_signOf_7 : decode cX6_signOf 7 = .ok (.ireturn, 1) := by decide +kernel
theorem dX6_signOf_8 : decode cX6_signOf 8 = .ok (.lload_n 0, 1) := by decide +kernel
theorem dX6_signOf_9 : decode cX6_signOf 9 = .ok (.lload_n 2, 1) := by decide +kernel
theorem dX6_signOf_10 : decode cX6_signOf 10 = .ok (.lcmp, 1) := by decide +kernel
theorem dX6_signOf_11 : decode cX6_signOf 11 = .ok (.ifCond .ge 7, 3) := by decide +kernel
theorem dX6_signOf_14 : decode cX6_signOf 14 = .ok (.iconst (-1), 1) := by decide +kernel
theorem dX6_signOf_15 : decode cX6_signOf 15 = .ok (.goto 4, 3) := by decide +kernel
theorem dX6_signOf_18 : decode cX6_signOf 18 = .ok (.iconst 1, 1) := by decide +kernel
theorem dX6_signOf_19 : decode cX6_signOf 19 = .ok (.ireturn, 1) := by decide +kernel
theorem dX6_goesUp_0 : decode cX6_goesUp 0 = .ok (.iload_n 0, 1) := by decide +kernel
theorem dX6_goesUp_1 : decode cX6_goesUp 1 = .ok (.tableswitch 94 0 4 #[35, 55, 94, 66, 80], 35) := by decide +kernel
theorem dX6_goesUp_36 : decode cX6_goesUp 36 = .ok (.iload_n 3, 1) := by decide +kernel
theorem dX6_goesUp_37 : decode cX6_goesUp 37 = .ok (.iconst 3, 1) := by decide +kernel
theorem dX6_goesUp_38 : decode cX6_goesUp 38 = .ok (.if_icmp .eq 12, 3) := by decide +kernel
theorem dX6_goesUp_41 : decode cX6_goesUp 41 = .ok (.iload_n 3, 1) := by decide +kernel
theorem dX6_goesUp_42 : decode cX6_goesUp 42 = .ok (.iconst 2, 1) := by decide +kernel
theorem dX6_goesUp_43 : decode cX6_goesUp 43 = .ok (.if_icmp .ne 11, 3) := by decide +kernel
theorem dX6_goesUp_46 : decode cX6_goesUp 46 = .ok (.iload_n 2, 1) := by decide +kernel
theorem dX6_goesUp_47 : decode cX6_goesUp 47 = .ok (.ifCond .eq 7, 3) := by decide +kernel
theorem dX6_goesUp_50 : decode cX6_goesUp 50 = .ok (.iconst 1, 1) := by decide +kernel
theorem dX6_goesUp_51 : decode cX6_goesUp 51 = .ok (.goto 4, 3) := by decide +kernel
theorem dX6_goesUp_54 : decode cX6_goesUp 54 = .ok (.iconst 0, 1) := by decide +kernel
theorem dX6_goesUp_55 : decode cX6_goesUp 55 = .ok (.ireturn, 1) := by decide +kernel
theorem dX6_goesUp_56 : decode cX6_goesUp 56 = .ok (.iload_n 3, 1) := by decide +kernel
theorem dX6_goesUp_57 : decode cX6_goesUp 57 = .ok (.iconst 2, 1) := by decide +kernel
theorem dX6_goesUp_58 : decode cX6_goesUp 58 = .ok (.if_icmp .lt 7, 3) := by decide +kernel
theorem dX6_goesUp_61 : decode cX6_goesUp 61 = .ok (.iconst 1, 1) := by decide +kernel
theorem dX6_goesUp_62 : decode cX6_goesUp 62 = .ok (.goto 4, 3) := by decide +kernel
theorem dX6_goesUp_65 : decode cX6_goesUp 65 = .ok (.iconst 0, 1) := by decide +kernel
theorem dX6_goesUp_66 : decode cX6_goesUp 66 = .ok (.ireturn, 1) := by decide +kernel
theorem dX6_goesUp_67 : decode cX6_goesUp 67 = .ok (.iload_n 3, 1) := by decide +kernel
theorem dX6_goesUp_68 : decode cX6_goesUp 68 = .ok (.ifCond .eq 11, 3) := by decide +kernel
theorem dX6_goesUp_71 : decode cX6_goesUp 71 = .ok (.iload_n 1, 1) := by decide +kernel
theorem dX6_goesUp_72 : decode cX6_goesUp 72 = .ok (.ifCond .ne 7, 3) := by decide +kernel
theorem dX6_goesUp_75 : decode cX6_goesUp 75 = .ok (.iconst 1, 1) := by decide +kernel
theorem dX6_goesUp_76 : decode cX6_goesUp 76 = .ok (.goto 4, 3) := by decide +kernel
theorem dX6_goesUp_79 : decode cX6_goesUp 79 = .ok (.iconst 0, 1) := by decide +kernel
theorem dX6_goesUp_80 : decode cX6_goesUp 80 = .ok (.ireturn, 1) := by decide +kernel
theorem dX6_goesUp_81 : decode cX6_goesUp 81 = .ok (.iload_n 3, 1) := by decide +kernel
theorem dX6_goesUp_82 : decode cX6_goesUp 82 = .ok (.ifCond .eq 11, 3) := by decide +kernel
theorem dX6_goesUp_85 : decode cX6_goesUp 85 = .ok (.iload_n 1, 1) := by decide +kernel
theorem dX6_goesUp_86 : decode cX6_goesUp 86 = .ok (.ifCond .eq 7, 3) := by decide +kernel
theorem dX6_goesUp_89 : decode cX6_goesUp 89 = .ok (.iconst 1, 1) := by decide +kernel
theorem dX6_goesUp_90 : decode cX6_goesUp 90 = .ok (.goto 4, 3) := by decide +kernel
theorem dX6_goesUp_93 : decode cX6_goesUp 93 = .ok (.iconst 0, 1) := by decide +kernel
theorem dX6_goesUp_94 : decode cX6_goesUp 94 = .ok (.ireturn, 1) := by decide +kernel
theorem dX6_goesUp_95 : decode cX6_goesUp 95 = .ok (.iconst 0, 1) := by decide +kernel
theorem dX6_goesUp_96 : decode cX6_goesUp 96 = .ok (.ireturn, 1) := by decide +kernel
theorem dX6_keepResult_0 : decode cX6_keepResult 0 = .ok (.aload_n 0, 1) := by decide +kernel
theorem dX6_keepResult_1 : decode cX6_keepResult 1 = .ok (.aload_n 0, 1) := by decide +kernel
theorem dX6_keepResult_2 : decode cX6_keepResult 2 = .ok (.getfield 38, 3) := by decide +kernel
theorem dX6_keepResult_5 : decode cX6_keepResult 5 = .ok (.getfield 267, 3) := by decide +kernel
theorem dX6_keepResult_8 : decode cX6_keepResult 8 = .ok (.putfield 58, 3) := by decide +kernel
theorem dX6_keepResult_11 : decode cX6_keepResult 11 = .ok (.aload_n 0, 1) := by decide +kernel
theorem dX6_keepResult_12 : decode cX6_keepResult 12 = .ok (.aload_n 0, 1) := by decide +kernel
theorem dX6_keepResult_13 : decode cX6_keepResult 13 = .ok (.getfield 38, 3) := by decide +kernel
theorem dX6_keepResult_16 : decode cX6_keepResult 16 = .ok (.getfield 302, 3) := by decide +kernel
theorem dX6_keepResult_19 : decode cX6_keepResult 19 = .ok (.putfield 62, 3) := by decide +kernel
theorem dX6_keepResult_22 : decode cX6_keepResult 22 = .ok (.aload_n 0, 1) := by decide +kernel
theorem dX6_keepResult_23 : decode cX6_keepResult 23 = .ok (.getfield 58, 3) := by decide +kernel
theorem dX6_keepResult_26 : decode cX6_keepResult 26 = .ok (.lreturn, 1) := by decide +kernel
theorem dX6_roundScanned_0 : decode cX6_roundScanned 0 = .ok (.aload_n 0, 1) := by decide +kernel
theorem dX6_roundScanned_1 : decode cX6_roundScanned 1 = .ok (.getfield 31, 3) := by decide +kernel
theorem dX6_roundScanned_4 : decode cX6_roundScanned 4 = .ok (.getfield 305, 3) := by decide +kernel
theorem dX6_roundScanned_7 : decode cX6_roundScanned 7 = .ok (.iconst 2, 1) := by decide +kernel
theorem dX6_roundScanned_8 : decode cX6_roundScanned 8 = .ok (.if_icmp .ne 28, 3) := by decide +kernel
theorem dX6_roundScanned_11 : decode cX6_roundScanned 11 = .ok (.aload_n 0, 1) := by decide +kernel
theorem dX6_roundScanned_12 : decode cX6_roundScanned 12 = .ok (.getfield 38, 3) := by decide +kernel
theorem dX6_roundScanned_15 : decode cX6_roundScanned 15 = .ok (.aload_n 1, 1) := by decide +kernel
theorem dX6_roundScanned_16 : decode cX6_roundScanned 16 = .ok (.aload_n 0, 1) := by decide +kernel
theorem dX6_roundScanned_17 : decode cX6_roundScanned 17 = .ok (.getfield 31, 3) := by decide +kernel
theorem dX6_roundScanned_20 : decode cX6_roundScanned 20 = .ok (.getfield 308, 3) := by decide +kernel
theorem dX6_roundScanned_23 : decode cX6_roundScanned 23 = .ok (.aload_n 1, 1) := by decide +kernel
theorem dX6_roundScanned_24 : decode cX6_roundScanned 24 = .ok (.invokevirtual 234, 3) := by decide +kernel
theorem dX6_roundScanned_27 : decode cX6_roundScanned 27 = .ok (.invokevirtual 230, 3) := by decide +kernel
theorem dX6_roundScanned_30 : decode cX6_roundScanned 30 = .ok (.invokevirtual 213, 3) := by decide +kernel
theorem dX6_roundScanned_33 : decode cX6_roundScanned 33 = .ok (.goto 98, 3) := by decide +kernel
theorem dX6_roundScanned_36 : decode cX6_roundScanned 36 = .ok (.aload_n 0, 1) := by decide +kernel
theorem dX6_roundScanned_37 : decode cX6_roundScanned 37 = .ok (.getfield 31, 3) := by decide +kernel
theorem dX6_roundScanned_40 : decode cX6_roundScanned 40 = .ok (.getfield 305, 3) := by decide +kernel
theorem dX6_roundScanned_43 : decode cX6_roundScanned 43 = .ok (.iconst 3, 1) := by decide +kernel
theorem dX6_roundScanned_44 : decode cX6_roundScanned 44 = .ok (.if_icmp .ne 29, 3) := by decide +kernel
theorem dX6_roundScanned_47 : decode cX6_roundScanned 47 = .ok (.aload_n 0, 1) := by decide +kernel
theorem dX6_roundScanned_48 : decode cX6_roundScanned 48 = .ok (.getfield 38, 3) := by decide +kernel
theorem dX6_roundScanned_51 : decode cX6_roundScanned 51 = .ok (.aload_n 1, 1) := by decide +kernel
theorem dX6_roundScanned_52 : decode cX6_roundScanned 52 = .ok (.aload_n 0, 1) := by decide +kernel
theorem dX6_roundScanned_53 : decode cX6_roundScanned 53 = .ok (.getfield 31, 3) := by decide +kernel
theorem dX6_roundScanned_56 : decode cX6_roundScanned 56 = .ok (.getfield 308, 3) := by decide +kernel
theorem dX6_roundScanned_59 : decode cX6_roundScanned 59 = .ok (.aload_n 1, 1) := by decide +kernel
theorem dX6_roundScanned_60 : decode cX6_roundScanned 60 = .ok (.lconst 0, 1) := by decide +kernel
theorem dX6_roundScanned_61 : decode cX6_roundScanned 61 = .ok (.invokevirtual 227, 3) := by decide +kernel
theorem dX6_roundScanned_64 : decode cX6_roundScanned 64 = .ok (.invokevirtual 230, 3) := by decide +kernel
theorem dX6_roundScanned_67 : decode cX6_roundScanned 67 = .ok (.invokevirtual 213, 3) := by decide +kernel
theorem dX6_roundScanned_70 : decode cX6_roundScanned 70 = .ok (.goto 61, 3) := by decide +kernel
theorem dX6_roundScanned_73 : decode cX6_roundScanned 73 = .ok (.aload_n 0, 1) := by decide +kernel
theorem dX6_roundScanned_74 : decode cX6_roundScanned 74 = .ok (.getfield 31, 3) := by decide +kernel
theorem dX6_roundScanned_77 : decode cX6_roundScanned 77 = .ok (.invokevirtual 309, 3) := by decide +kernel
theorem dX6_roundScanned_80 : decode cX6_roundScanned 80 = .ok (.ifCond .eq 25, 3) := by decide +kernel
theorem dX6_roundScanned_83 : decode cX6_roundScanned 83 = .ok (.aload_n 0, 1) := by decide +kernel
theorem dX6_roundScanned_84 : decode cX6_roundScanned 84 = .ok (.getfield 38, 3) := by decide +kernel
theorem dX6_roundScanned_87 : decode cX6_roundScanned 87 = .ok (.aload_n 1, 1) := by decide +kernel
theorem dX6_roundScanned_88 : decode cX6_roundScanned 88 = .ok (.aload_n 0, 1) := by decide +kernel
theorem dX6_roundScanned_89 : decode cX6_roundScanned 89 = .ok (.getfield 31, 3) := by decide +kernel
theorem dX6_roundScanned_92 : decode cX6_roundScanned 92 = .ok (.getfield 308, 3) := by decide +kernel
theorem dX6_roundScanned_95 : decode cX6_roundScanned 95 = .ok (.lconst 0, 1) := by decide +kernel
theorem dX6_roundScanned_96 : decode cX6_roundScanned 96 = .ok (.invokevirtual 230, 3) := by decide +kernel
theorem dX6_roundScanned_99 : decode cX6_roundScanned 99 = .ok (.invokevirtual 213, 3) := by decide +kernel
theorem dX6_roundScanned_102 : decode cX6_roundScanned 102 = .ok (.goto 29, 3) := by decide +kernel
theorem dX6_roundScanned_105 : decode cX6_roundScanned 105 = .ok (.aload_n 0, 1) := by decide +kernel
theorem dX6_roundScanned_106 : decode cX6_roundScanned 106 = .ok (.getfield 31, 3) := by decide +kernel
theorem dX6_roundScanned_109 : decode cX6_roundScanned 109 = .ok (.getfield 305, 3) := by decide +kernel
theorem dX6_roundScanned_112 : decode cX6_roundScanned 112 = .ok (.iconst 1, 1) := by decide +kernel
theorem dX6_roundScanned_113 : decode cX6_roundScanned 113 = .ok (.if_icmp .ne 12, 3) := by decide +kernel
theorem dX6_roundScanned_116 : decode cX6_roundScanned 116 = .ok (.aload_n 0, 1) := by decide +kernel
theorem dX6_roundScanned_117 : decode cX6_roundScanned 117 = .ok (.aload_n 1, 1) := by decide +kernel
theorem dX6_roundScanned_118 : decode cX6_roundScanned 118 = .ok (.iload_n 2, 1) := by decide +kernel
theorem dX6_roundScanned_119 : decode cX6_roundScanned 119 = .ok (.invokevirtual 312, 3) := by decide +kernel
theorem dX6_roundScanned_122 : decode cX6_roundScanned 122 = .ok (.goto 9, 3) := by decide +kernel
theorem dX6_roundScanned_125 : decode cX6_roundScanned 125 = .ok (.aload_n 0, 1) := by decide +kernel
theorem dX6_roundScanned_126 : decode cX6_roundScanned 126 = .ok (.aload_n 1, 1) := by decide +kernel
theorem dX6_roundScanned_127 : decode cX6_roundScanned 127 = .ok (.iload_n 2, 1) := by decide +kernel
theorem dX6_roundScanned_128 : decode cX6_roundScanned 128 = .ok (.invokevirtual 315, 3) := by decide +kernel
theorem dX6_roundScanned_131 : decode cX6_roundScanned 131 = .ok (.return_, 1) := by decide +kernel
theorem dX6_roundHexadecimal_0 : decode cX6_roundHexadecimal 0 = .ok (.lconst 0, 1) := by decide +kernel
theorem dX6_roundHexadecimal_1 : decode cX6_roundHexadecimal 1 = .ok (.lstore_n 3, 1) := by decide +kernel
theorem dX6_roundHexadecimal_2 : decode cX6_roundHexadecimal 2 = .ok (.iconst 0, 1) := by decide +kernel
theorem dX6_roundHexadecimal_3 : decode cX6_roundHexadecimal 3 = .ok (.istore 5, 2) := by decide +kernel
theorem dX6_roundHexadecimal_5 : decode cX6_roundHexadecimal 5 = .ok (.aload_n 0, 1) := by decide +kernel
theorem dX6_roundHexadecimal_6 : decode cX6_roundHexadecimal 6 = .ok (.getfield 31, 3) := by decide +kernel
theorem dX6_roundHexadecimal_9 : decode cX6_roundHexadecimal 9 = .ok (.getfield 318, 3) := by decide +kernel
theorem dX6_roundHexadecimal_12 : decode cX6_roundHexadecimal 12 = .ok (.iconst 4, 1) := by decide +kernel
theorem dX6_roundHexadecimal_13 : decode cX6_roundHexadecimal 13 = .ok (.aload_n 0, 1) := by decide +kernel
theorem dX6_roundHexadecimal_14 : decode cX6_roundHexadecimal 14 = .ok (.getfield 31, 3) := by decide +kernel
theorem dX6_roundHexadecimal_17 : decode cX6_roundHexadecimal 17 = .ok (.getfield 321, 3) := by decide +kernel
theorem dX6_roundHexadecimal_20 : decode cX6_roundHexadecimal 20 = .ok (.imul, 1) := by decide +kernel
theorem dX6_roundHexadecimal_21 : decode cX6_roundHexadecimal 21 = .ok (.iadd, 1) := by decide +kernel
theorem dX6_roundHexadecimal_22 : decode cX6_roundHexadecimal 22 = .ok (.istore 6, 2) := by decide +kernel
theorem dX6_roundHexadecimal_24 : decode cX6_roundHexadecimal 24 = .ok (.aload_n 0, 1) := by decide +kernel
theorem dX6_roundHexadecimal_25 : decode cX6_roundHexadecimal 25 = .ok (.getfield 31, 3) := by decide +kernel
theorem dX6_roundHexadecimal_28 : decode cX6_roundHexadecimal 28 = .ok (.getfield 324, 3) := by decide +kernel
theorem dX6_roundHexadecimal_31 : decode cX6_roundHexadecimal 31 = .ok (.istore 7, 2) := by decide +kernel
theorem dX6_roundHexadecimal_33 : decode cX6_roundHexadecimal 33 = .ok (.iload 7, 2) := by decide +kernel
theorem dX6_roundHexadecimal_35 : decode cX6_roundHexadecimal 35 = .ok (.aload_n 0, 1) := by decide +kernel
theorem dX6_roundHexadecimal_36 : decode cX6_roundHexadecimal 36 = .ok (.getfield 31, 3) := by decide +kernel
theorem dX6_roundHexadecimal_39 : decode cX6_roundHexadecimal 39 = .ok (.getfield 327, 3) := by decide +kernel
theorem dX6_roundHexadecimal_42 : decode cX6_roundHexadecimal 42 = .ok (.if_icmp .ge 64, 3) := by decide +kernel
theorem dX6_roundHexadecimal_45 : decode cX6_roundHexadecimal 45 = .ok (.aload_n 0, 1) := by decide +kernel
theorem dX6_roundHexadecimal_46 : decode cX6_roundHexadecimal 46 = .ok (.getfield 14, 3) := by decide +kernel
theorem dX6_roundHexadecimal_49 : decode cX6_roundHexadecimal 49 = .ok (.iload 7, 2) := by decide +kernel
theorem dX6_roundHexadecimal_51 : decode cX6_roundHexadecimal 51 = .ok (.invokevirtual 85, 3) := by decide +kernel
theorem dX6_roundHexadecimal_54 : decode cX6_roundHexadecimal 54 = .ok (.invokestatic 330, 3) := by decide +kernel
theorem dX6_roundHexadecimal_57 : decode cX6_roundHexadecimal 57 = .ok (.istore 8, 2) := by decide +kernel
theorem dX6_roundHexadecimal_59 : decode cX6_roundHexadecimal 59 = .ok (.iload 8, 2) := by decide +kernel
theorem dX6_roundHexadecimal_61 : decode cX6_roundHexadecimal 61 = .ok (.ifCond .ge 6, 3) := by decide +kernel
theorem dX6_roundHexadecimal_64 : decode cX6_roundHexadecimal 64 = .ok (.goto 36, 3) := by decide +kernel
theorem dX6_roundHexadecimal_67 : decode cX6_roundHexadecimal 67 = .ok (.lload_n 3, 1) := by decide +kernel
theorem dX6_roundHexadecimal_68 : decode cX6_roundHexadecimal 68 = .ok (.bipush 56, 2) := by decide +kernel
theorem dX6_roundHexadecimal_70 : decode cX6_roundHexadecimal 70 = .ok (.lushr, 1) := by decide +kernel
theorem dX6_roundHexadecimal_71 : decode cX6_roundHexadecimal 71 = .ok (.lconst 0, 1) := by decide +kernel
theorem dX6_roundHexadecimal_72 : decode cX6_roundHexadecimal 72 = .ok (.lcmp, 1) := by decide +kernel
theorem dX6_roundHexadecimal_73 : decode cX6_roundHexadecimal 73 = .ok (.ifCond .ne 19, 3) := by decide +kernel
theorem dX6_roundHexadecimal_76 : decode cX6_roundHexadecimal 76 = .ok (.lload_n 3, 1) := by decide +kernel
theorem dX6_roundHexadecimal_77 : decode cX6_roundHexadecimal 77 = .ok (.ldc2_w 333, 3) := by decide +kernel
theorem dX6_roundHexadecimal_80 : decode cX6_roundHexadecimal 80 = .ok (.lmul, 1) := by decide +kernel
theorem dX6_roundHexadecimal_81 : decode cX6_roundHexadecimal 81 = .ok (.iload 8, 2) := by decide +kernel
theorem dX6_roundHexadecimal_83 : decode cX6_roundHexadecimal 83 = .ok (.i2l, 1) := by decide +kernel
theorem dX6_roundHexadecimal_84 : decode cX6_roundHexadecimal 84 = .ok (.ladd, 1) := by decide +kernel
theorem dX6_roundHexadecimal_85 : decode cX6_roundHexadecimal 85 = .ok (.lstore_n 3, 1) := by decide +kernel
theorem dX6_roundHexadecimal_86 : decode cX6_roundHexadecimal 86 = .ok (.iinc 6 (-4), 3) := by decide +kernel
theorem dX6_roundHexadecimal_89 : decode cX6_roundHexadecimal 89 = .ok (.goto 11, 3) := by decide +kernel
theorem dX6_roundHexadecimal_92 : decode cX6_roundHexadecimal 92 = .ok (.iload 8, 2) := by decide +kernel
theorem dX6_roundHexadecimal_94 : decode cX6_roundHexadecimal 94 = .ok (.ifCond .eq 6, 3) := by decide +kernel
theorem dX6_roundHexadecimal_97 : decode cX6_roundHexadecimal 97 = .ok (.iconst 1, 1) := by decide +kernel
theorem dX6_roundHexadecimal_98 : decode cX6_roundHexadecimal 98 = .ok (.istore 5, 2) := by decide +kernel
theorem dX6_roundHexadecimal_100 : decode cX6_roundHexadecimal 100 = .ok (.iinc 7 1, 3) := by decide +kernel
theorem dX6_roundHexadecimal_103 : decode cX6_roundHexadecimal 103 = .ok (.goto (-70), 3) := by decide +kernel
theorem dX6_roundHexadecimal_106 : decode cX6_roundHexadecimal 106 = .ok (.aload_n 0, 1) := by decide +kernel
theorem dX6_roundHexadecimal_107 : decode cX6_roundHexadecimal 107 = .ok (.getfield 38, 3) := by decide +kernel
theorem dX6_roundHexadecimal_110 : decode cX6_roundHexadecimal 110 = .ok (.aload_n 1, 1) := by decide +kernel
theorem dX6_roundHexadecimal_111 : decode cX6_roundHexadecimal 111 = .ok (.aload_n 0, 1) := by decide +kernel
theorem dX6_roundHexadecimal_112 : decode cX6_roundHexadecimal 112 = .ok (.getfield 31, 3) := by decide +kernel
theorem dX6_roundHexadecimal_115 : decode cX6_roundHexadecimal 115 = .ok (.getfield 308, 3) := by decide +kernel
theorem dX6_roundHexadecimal_118 : decode cX6_roundHexadecimal 118 = .ok (.lload_n 3, 1) := by decide +kernel
theorem dX6_roundHexadecimal_119 : decode cX6_roundHexadecimal 119 = .ok (.iload 6, 2) := by decide +kernel
theorem dX6_roundHexadecimal_121 : decode cX6_roundHexadecimal 121 = .ok (.i2l, 1) := by decide +kernel
theorem dX6_roundHexadecimal_122 : decode cX6_roundHexadecimal 122 = .ok (.iload 5, 2) := by decide +kernel
theorem dX6_roundHexadecimal_124 : decode cX6_roundHexadecimal 124 = .ok (.iload_n 2, 1) := by decide +kernel
theorem dX6_roundHexadecimal_125 : decode cX6_roundHexadecimal 125 = .ok (.invokevirtual 217, 3) := by decide +kernel
theorem dX6_roundHexadecimal_128 : decode cX6_roundHexadecimal 128 = .ok (.return_, 1) := by decide +kernel
theorem dX6_roundDecimal_0 : decode cX6_roundDecimal 0 = .ok (.aload_n 0, 1) := by decide +kernel
theorem dX6_roundDecimal_1 : decode cX6_roundDecimal 1 = .ok (.getfield 31, 3) := by decide +kernel
theorem dX6_roundDecimal_4 : decode cX6_roundDecimal 4 = .ok (.getfield 321, 3) := by decide +kernel
theorem dX6_roundDecimal_7 : decode cX6_roundDecimal 7 = .ok (.aload_n 0, 1) := by decide +kernel
theorem dX6_roundDecimal_8 : decode cX6_roundDecimal 8 = .ok (.getfield 31, 3) := by decide +kernel
theorem dX6_roundDecimal_11 : decode cX6_roundDecimal 11 = .ok (.getfield 318, 3) := by decide +kernel
theorem dX6_roundDecimal_14 : decode cX6_roundDecimal 14 = .ok (.iadd, 1) := by decide +kernel
theorem dX6_roundDecimal_15 : decode cX6_roundDecimal 15 = .ok (.istore_n 3, 1) := by decide +kernel
theorem dX6_roundDecimal_16 : decode cX6_roundDecimal 16 = .ok (.aload_n 0, 1) := by decide +kernel
theorem dX6_roundDecimal_17 : decode cX6_roundDecimal 17 = .ok (.aload_n 1, 1) := by decide +kernel
theorem dX6_roundDecimal_18 : decode cX6_roundDecimal 18 = .ok (.aload_n 0, 1) := by decide +kernel
theorem dX6_roundDecimal_19 : decode cX6_roundDecimal 19 = .ok (.getfield 31, 3) := by decide +kernel
theorem dX6_roundDecimal_22 : decode cX6_roundDecimal 22 = .ok (.getfield 308, 3) := by decide +kernel
theorem dX6_roundDecimal_25 : decode cX6_roundDecimal 25 = .ok (.iload_n 3, 1) := by decide +kernel
theorem dX6_roundDecimal_26 : decode cX6_roundDecimal 26 = .ok (.aload_n 0, 1) := by decide +kernel
theorem dX6_roundDecimal_27 : decode cX6_roundDecimal 27 = .ok (.getfield 31, 3) := by decide +kernel
theorem dX6_roundDecimal_30 : decode cX6_roundDecimal 30 = .ok (.getfield 335, 3) := by decide +kernel
theorem dX6_roundDecimal_33 : decode cX6_roundDecimal 33 = .ok (.isub, 1) := by decide +kernel
theorem dX6_roundDecimal_34 : decode cX6_roundDecimal 34 = .ok (.iload_n 2, 1) := by decide +kernel
theorem dX6_roundDecimal_35 : decode cX6_roundDecimal 35 = .ok (.invokevirtual 338, 3) := by decide +kernel
theorem dX6_roundDecimal_38 : decode cX6_roundDecimal 38 = .ok (.ifCond .eq 4, 3) := by decide +kernel
theorem dX6_roundDecimal_41 : decode cX6_roundDecimal 41 = .ok (.return_, 1) := by decide +kernel
theorem dX6_roundDecimal_42 : decode cX6_roundDecimal 42 = .ok (.aload_n 0, 1) := by decide +kernel
theorem dX6_roundDecimal_43 : decode cX6_roundDecimal 43 = .ok (.getfield 45, 3) := by decide +kernel
theorem dX6_roundDecimal_46 : decode cX6_roundDecimal 46 = .ok (.aload_n 0, 1) := by decide +kernel
theorem dX6_roundDecimal_47 : decode cX6_roundDecimal 47 = .ok (.getfield 14, 3) := by decide +kernel
theorem dX6_roundDecimal_50 : decode cX6_roundDecimal 50 = .ok (.aload_n 0, 1) := by decide +kernel
theorem dX6_roundDecimal_51 : decode cX6_roundDecimal 51 = .ok (.getfield 31, 3) := by decide +kernel
theorem dX6_roundDecimal_54 : decode cX6_roundDecimal 54 = .ok (.getfield 324, 3) := by decide +kernel
theorem dX6_roundDecimal_57 : decode cX6_roundDecimal 57 = .ok (.aload_n 0, 1) := by decide +kernel
theorem dX6_roundDecimal_58 : decode cX6_roundDecimal 58 = .ok (.getfield 31, 3) := by decide +kernel
theorem dX6_roundDecimal_61 : decode cX6_roundDecimal 61 = .ok (.getfield 327, 3) := by decide +kernel
theorem dX6_roundDecimal_64 : decode cX6_roundDecimal 64 = .ok (.iload_n 3, 1) := by decide +kernel
theorem dX6_roundDecimal_65 : decode cX6_roundDecimal 65 = .ok (.iconst 1, 1) := by decide +kernel
theorem dX6_roundDecimal_66 : decode cX6_roundDecimal 66 = .ok (.isub, 1) := by decide +kernel
theorem dX6_roundDecimal_67 : decode cX6_roundDecimal 67 = .ok (.invokevirtual 342, 3) := by decide +kernel
theorem dX6_roundDecimal_70 : decode cX6_roundDecimal 70 = .ok (.aload_n 0, 1) := by decide +kernel
theorem dX6_roundDecimal_71 : decode cX6_roundDecimal 71 = .ok (.aload_n 0, 1) := by decide +kernel
theorem dX6_roundDecimal_72 : decode cX6_roundDecimal 72 = .ok (.getfield 45, 3) := by decide +kernel
theorem dX6_roundDecimal_75 : decode cX6_roundDecimal 75 = .ok (.aload_n 1, 1) := by decide +kernel
theorem dX6_roundDecimal_76 : decode cX6_roundDecimal 76 = .ok (.aload_n 0, 1) := by decide +kernel
theorem dX6_roundDecimal_77 : decode cX6_roundDecimal 77 = .ok (.getfield 31, 3) := by decide +kernel
theorem dX6_roundDecimal_80 : decode cX6_roundDecimal 80 = .ok (.getfield 308, 3) := by decide +kernel
theorem dX6_roundDecimal_83 : decode cX6_roundDecimal 83 = .ok (.iload_n 2, 1) := by decide +kernel
theorem dX6_roundDecimal_84 : decode cX6_roundDecimal 84 = .ok (.invokevirtual 346, 3) := by decide +kernel
theorem dX6_roundDecimal_87 : decode cX6_roundDecimal 87 = .ok (.return_, 1) := by decide +kernel
theorem dX6_roundTens_0 : decode cX6_roundTens 0 = .ok (.lload_n 2, 1) := by decide +kernel
theorem dX6_roundTens_1 : decode cX6_roundTens 1 = .ok (.lconst 0, 1) := by decide +kernel
theorem dX6_roundTens_2 : decode cX6_roundTens 2 = .ok (.lcmp, 1) := by decide +kernel
theorem dX6_roundTens_3 : decode cX6_roundTens 3 = .ok (.ifCond .ne 12, 3) := by decide +kernel
theorem dX6_roundTens_6 : decode cX6_roundTens 6 = .ok (.aload_n 0, 1) := by decide +kernel
theorem dX6_roundTens_7 : decode cX6_roundTens 7 = .ok (.getfield 38, 3) := by decide +kernel
theorem dX6_roundTens_10 : decode cX6_roundTens 10 = .ok (.lconst 0, 1) := by decide +kernel
theorem dX6_roundTens_11 : decode cX6_roundTens 11 = .ok (.invokevirtual 213, 3) := by decide +kernel
theorem dX6_roundTens_14 : decode cX6_roundTens 14 = .ok (.return_, 1) := by decide +kernel
theorem dX6_roundTens_15 : decode cX6_roundTens 15 = .ok (.lload_n 2, 1) := by decide +kernel
theorem dX6_roundTens_16 : decode cX6_roundTens 16 = .ok (.lconst 0, 1) := by decide +kernel
theorem dX6_roundTens_17 : decode cX6_roundTens 17 = .ok (.lcmp, 1) := by decide +kernel
theorem dX6_roundTens_18 : decode cX6_roundTens 18 = .ok (.ifCond .ge 7, 3) := by decide +kernel
theorem dX6_roundTens_21 : decode cX6_roundTens 21 = .ok (.lload_n 2, 1) := by decide +kernel
theorem dX6_roundTens_22 : decode cX6_roundTens 22 = .ok (.goto 5, 3) := by decide +kernel
theorem dX6_roundTens_25 : decode cX6_roundTens 25 = .ok (.lload_n 2, 1) := by decide +kernel
theorem dX6_roundTens_26 : decode cX6_roundTens 26 = .ok (.lneg, 1) := by decide +kernel
theorem dX6_roundTens_27 : decode cX6_roundTens 27 = .ok (.lstore 6, 2) := by decide +kernel
theorem dX6_roundTens_29 : decode cX6_roundTens 29 = .ok (.lload 6, 2) := by decide +kernel
theorem dX6_roundTens_31 : decode cX6_roundTens 31 = .ok (.invokestatic 350, 3) := by decide +kernel
theorem dX6_roundTens_34 : decode cX6_roundTens 34 = .ok (.istore 8, 2) := by decide +kernel
theorem dX6_roundTens_36 : decode cX6_roundTens 36 = .ok (.aload_n 0, 1) := by decide +kernel
theorem dX6_roundTens_37 : decode cX6_roundTens 37 = .ok (.aload_n 1, 1) := by decide +kernel
theorem dX6_roundTens_38 : decode cX6_roundTens 38 = .ok (.lload_n 2, 1) := by decide +kernel
theorem dX6_roundTens_39 : decode cX6_roundTens 39 = .ok (.lconst 0, 1) := by decide +kernel
theorem dX6_roundTens_40 : decode cX6_roundTens 40 = .ok (.lcmp, 1) := by decide +kernel
theorem dX6_roundTens_41 : decode cX6_roundTens 41 = .ok (.ifCond .ge 7, 3) := by decide +kernel
theorem dX6_roundTens_44 : decode cX6_roundTens 44 = .ok (.iconst 1, 1) := by decide +kernel
theorem dX6_roundTens_45 : decode cX6_roundTens 45 = .ok (.goto 4, 3) := by decide +kernel
theorem dX6_roundTens_48 : decode cX6_roundTens 48 = .ok (.iconst 0, 1) := by decide +kernel
theorem dX6_roundTens_49 : decode cX6_roundTens 49 = .ok (.iload 8, 2) := by decide +kernel
theorem dX6_roundTens_51 : decode cX6_roundTens 51 = .ok (.iload 4, 2) := by decide +kernel
theorem dX6_roundTens_53 : decode cX6_roundTens 53 = .ok (.iadd, 1) := by decide +kernel
theorem dX6_roundTens_54 : decode cX6_roundTens 54 = .ok (.iload 5, 2) := by decide +kernel
theorem dX6_roundTens_56 : decode cX6_roundTens 56 = .ok (.invokevirtual 338, 3) := by decide +kernel
theorem dX6_roundTens_59 : decode cX6_roundTens 59 = .ok (.ifCond .eq 4, 3) := by decide +kernel
theorem dX6_roundTens_62 : decode cX6_roundTens 62 = .ok (.return_, 1) := by decide +kernel
theorem dX6_roundTens_63 : decode cX6_roundTens 63 = .ok (.aload_n 0, 1) := by decide +kernel
theorem dX6_roundTens_64 : decode cX6_roundTens 64 = .ok (.getfield 45, 3) := by decide +kernel
theorem dX6_roundTens_67 : decode cX6_roundTens 67 = .ok (.invokevirtual 125, 3) := by decide +kernel
theorem dX6_roundTens_70 : decode cX6_roundTens 70 = .ok (.iconst 0, 1) := by decide +kernel
theorem dX6_roundTens_71 : decode cX6_roundTens 71 = .ok (.istore 9, 2) := by decide +kernel
theorem dX6_roundTens_73 : decode cX6_roundTens 73 = .ok (.iload 9, 2) := by decide +kernel
theorem dX6_roundTens_75 : decode cX6_roundTens 75 = .ok (.iload 8, 2) := by decide +kernel
theorem dX6_roundTens_77 : decode cX6_roundTens 77 = .ok (.if_icmp .ge 37, 3) := by decide +kernel
theorem dX6_roundTens_80 : decode cX6_roundTens 80 = .ok (.aload_n 0, 1) := by decide +kernel
theorem dX6_roundTens_81 : decode cX6_roundTens 81 = .ok (.getfield 45, 3) := by decide +kernel
theorem dX6_roundTens_84 : decode cX6_roundTens 84 = .ok (.lload 6, 2) := by decide +kernel
theorem dX6_roundTens_86 : decode cX6_roundTens 86 = .ok (.ldc2_w 353, 3) := by decide +kernel
theorem dX6_roundTens_89 : decode cX6_roundTens 89 = .ok (.lrem, 1) := by decide +kernel
theorem dX6_roundTens_90 : decode cX6_roundTens 90 = .ok (.lneg, 1) := by decide +kernel
theorem dX6_roundTens_91 : decode cX6_roundTens 91 = .ok (.l2i, 1) := by decide +kernel
theorem dX6_roundTens_92 : decode cX6_roundTens 92 = .ok (.iload 4, 2) := by decide +kernel
theorem dX6_roundTens_94 : decode cX6_roundTens 94 = .ok (.iload 9, 2) := by decide +kernel
theorem dX6_roundTens_96 : decode cX6_roundTens 96 = .ok (.iadd, 1) := by decide +kernel
theorem dX6_roundTens_97 : decode cX6_roundTens 97 = .ok (.invokevirtual 355, 3) := by decide +kernel
theorem dX6_roundTens_100 : decode cX6_roundTens 100 = .ok (.lload 6, 2) := by decide +kernel
theorem dX6_roundTens_102 : decode cX6_roundTens 102 = .ok (.ldc2_w 353, 3) := by decide +kernel
theorem dX6_roundTens_105 : decode cX6_roundTens 105 = .ok (.ldiv, 1) := by decide +kernel
theorem dX6_roundTens_106 : decode cX6_roundTens 106 = .ok (.lstore 6, 2) := by decide +kernel
theorem dX6_roundTens_108 : decode cX6_roundTens 108 = .ok (.iinc 9 1, 3) := by decide +kernel
theorem dX6_roundTens_111 : decode cX6_roundTens 111 = .ok (.goto (-38), 3) := by decide +kernel
theorem dX6_roundTens_114 : decode cX6_roundTens 114 = .ok (.aload_n 0, 1) := by decide +kernel
theorem dX6_roundTens_115 : decode cX6_roundTens 115 = .ok (.aload_n 0, 1) := by decide +kernel
theorem dX6_roundTens_116 : decode cX6_roundTens 116 = .ok (.getfield 45, 3) := by decide +kernel
theorem dX6_roundTens_119 : decode cX6_roundTens 119 = .ok (.aload_n 1, 1) := by decide +kernel
theorem dX6_roundTens_120 : decode cX6_roundTens 120 = .ok (.lload_n 2, 1) := by decide +kernel
theorem dX6_roundTens_121 : decode cX6_roundTens 121 = .ok (.lconst 0, 1) := by decide +kernel
theorem dX6_roundTens_122 : decode cX6_roundTens 122 = .ok (.lcmp, 1) := by decide +kernel
theorem dX6_roundTens_123 : decode cX6_roundTens 123 = .ok (.ifCond .ge 7, 3) := by decide +kernel
theorem dX6_roundTens_126 : decode cX6_roundTens 126 = .ok (.iconst 1, 1) := by decide +kernel
theorem dX6_roundTens_127 : decode cX6_roundTens 127 = .ok (.goto 4, 3) := by decide +kernel
theorem dX6_roundTens_130 : decode cX6_roundTens 130 = .ok (.iconst 0, 1) := by decide +kernel
theorem dX6_roundTens_131 : decode cX6_roundTens 131 = .ok (.iload 5, 2) := by decide +kernel
theorem dX6_roundTens_133 : decode cX6_roundTens 133 = .ok (.invokevirtual 346, 3) := by decide +kernel
theorem dX6_roundTens_136 : decode cX6_roundTens 136 = .ok (.return_, 1) := by decide +kernel
theorem dX6_digitsOf_0 : decode cX6_digitsOf 0 = .ok (.iconst 0, 1) := by decide +kernel
theorem dX6_digitsOf_1 : decode cX6_digitsOf 1 = .ok (.istore_n 2, 1) := by decide +kernel
theorem dX6_digitsOf_2 : decode cX6_digitsOf 2 = .ok (.lload_n 0, 1) := by decide +kernel
theorem dX6_digitsOf_3 : decode cX6_digitsOf 3 = .ok (.lstore_n 3, 1) := by decide +kernel
theorem dX6_digitsOf_4 : decode cX6_digitsOf 4 = .ok (.lload_n 3, 1) := by decide +kernel
theorem dX6_digitsOf_5 : decode cX6_digitsOf 5 = .ok (.lconst 0, 1) := by decide +kernel
theorem dX6_digitsOf_6 : decode cX6_digitsOf 6 = .ok (.lcmp, 1) := by decide +kernel
theorem dX6_digitsOf_7 : decode cX6_digitsOf 7 = .ok (.ifCond .eq 21, 3) := by decide +kernel
theorem dX6_digitsOf_10 : decode cX6_digitsOf 10 = .ok (.iload_n 2, 1) := by decide +kernel
theorem dX6_digitsOf_11 : decode cX6_digitsOf 11 = .ok (.bipush 19, 2) := by decide +kernel
theorem dX6_digitsOf_13 : decode cX6_digitsOf 13 = .ok (.if_icmp .ge 15, 3) := by decide +kernel
theorem dX6_digitsOf_16 : decode cX6_digitsOf 16 = .ok (.iinc 2 1, 3) := by decide +kernel
theorem dX6_digitsOf_19 : decode cX6_digitsOf 19 = .ok (.lload_n 3, 1) := by decide +kernel
theorem dX6_digitsOf_20 : decode cX6_digitsOf 20 = .ok (.ldc2_w 353, 3) := by decide +kernel
theorem dX6_digitsOf_23 : decode cX6_digitsOf 23 = .ok (.ldiv, 1) := by decide +kernel
theorem dX6_digitsOf_24 : decode cX6_digitsOf 24 = .ok (.lstore_n 3, 1) := by decide +kernel
theorem dX6_digitsOf_25 : decode cX6_digitsOf 25 = .ok (.goto (-21), 3) := by decide +kernel
theorem dX6_digitsOf_28 : decode cX6_digitsOf 28 = .ok (.iload_n 2, 1) := by decide +kernel
theorem dX6_digitsOf_29 : decode cX6_digitsOf 29 = .ok (.ireturn, 1) := by decide +kernel
theorem dX6_roundedFar_0 : decode cX6_roundedFar 0 = .ok (.iload_n 3, 1) := by decide +kernel
theorem dX6_roundedFar_1 : decode cX6_roundedFar 1 = .ok (.sipush 310, 3) := by decide +kernel
theorem dX6_roundedFar_4 : decode cX6_roundedFar 4 = .ok (.if_icmp .le 21, 3) := by decide +kernel
theorem dX6_roundedFar_7 : decode cX6_roundedFar 7 = .ok (.aload_n 0, 1) := by decide +kernel
theorem dX6_roundedFar_8 : decode cX6_roundedFar 8 = .ok (.getfield 38, 3) := by decide +kernel
theorem dX6_roundedFar_11 : decode cX6_roundedFar 11 = .ok (.aload_n 1, 1) := by decide +kernel
theorem dX6_roundedFar_12 : decode cX6_roundedFar 12 = .ok (.iload_n 2, 1) := by decide +kernel
theorem dX6_roundedFar_13 : decode cX6_roundedFar 13 = .ok (.lconst 1, 1) := by decide +kernel
theorem dX6_roundedFar_14 : decode cX6_roundedFar 14 = .ok (.ldc2_w 359, 3) := by decide +kernel
theorem dX6_roundedFar_17 : decode cX6_roundedFar 17 = .ok (.iconst 1, 1) := by decide +kernel
theorem dX6_roundedFar_18 : decode cX6_roundedFar 18 = .ok (.iload 4, 2) := by decide +kernel
theorem dX6_roundedFar_20 : decode cX6_roundedFar 20 = .ok (.invokevirtual 217, 3) := by decide +kernel
theorem dX6_roundedFar_23 : decode cX6_roundedFar 23 = .ok (.iconst 1, 1) := by decide +kernel
theorem dX6_roundedFar_24 : decode cX6_roundedFar 24 = .ok (.ireturn, 1) := by decide +kernel
theorem dX6_roundedFar_25 : decode cX6_roundedFar 25 = .ok (.iload_n 3, 1) := by decide +kernel
theorem dX6_roundedFar_26 : decode cX6_roundedFar 26 = .ok (.sipush (-330), 3) := by decide +kernel
theorem dX6_roundedFar_29 : decode cX6_roundedFar 29 = .ok (.if_icmp .ge 21, 3) := by decide +kernel
theorem dX6_roundedFar_32 : decode cX6_roundedFar 32 = .ok (.aload_n 0, 1) := by decide +kernel
theorem dX6_roundedFar_33 : decode cX6_roundedFar 33 = .ok (.getfield 38, 3) := by decide +kernel
theorem dX6_roundedFar_36 : decode cX6_roundedFar 36 = .ok (.aload_n 1, 1) := by decide +kernel
theorem dX6_roundedFar_37 : decode cX6_roundedFar 37 = .ok (.iload_n 2, 1) := by decide +kernel
theorem dX6_roundedFar_38 : decode cX6_roundedFar 38 = .ok (.lconst 1, 1) := by decide +kernel
theorem dX6_roundedFar_39 : decode cX6_roundedFar 39 = .ok (.ldc2_w 361, 3) := by decide +kernel
theorem dX6_roundedFar_42 : decode cX6_roundedFar 42 = .ok (.iconst 1, 1) := by decide +kernel
theorem dX6_roundedFar_43 : decode cX6_roundedFar 43 = .ok (.iload 4, 2) := by decide +kernel
theorem dX6_roundedFar_45 : decode cX6_roundedFar 45 = .ok (.invokevirtual 217, 3) := by decide +kernel
theorem dX6_roundedFar_48 : decode cX6_roundedFar 48 = .ok (.iconst 1, 1) := by decide +kernel
theorem dX6_roundedFar_49 : decode cX6_roundedFar 49 = .ok (.ireturn, 1) := by decide +kernel
theorem dX6_roundedFar_50 : decode cX6_roundedFar 50 = .ok (.iconst 0, 1) := by decide +kernel
theorem dX6_roundedFar_51 : decode cX6_roundedFar 51 = .ok (.ireturn, 1) := by decide +kernel
theorem dX6_roundRow_0 : decode cX6_roundRow 0 = .ok (.bipush 61, 2) := by decide +kernel
theorem dX6_roundRow_2 : decode cX6_roundRow 2 = .ok (.aload_n 1, 1) := by decide +kernel
theorem dX6_roundRow_3 : decode cX6_roundRow 3 = .ok (.invokevirtual 157, 3) := by decide +kernel
theorem dX6_roundRow_6 : decode cX6_roundRow 6 = .ok (.invokestatic 363, 3) := by decide +kernel
theorem dX6_roundRow_9 : decode cX6_roundRow 9 = .ok (.isub, 1) := by decide +kernel
theorem dX6_roundRow_10 : decode cX6_roundRow 10 = .ok (.istore 5, 2) := by decide +kernel
theorem dX6_roundRow_12 : decode cX6_roundRow 12 = .ok (.aload_n 1, 1) := by decide +kernel
theorem dX6_roundRow_13 : decode cX6_roundRow 13 = .ok (.iload 5, 2) := by decide +kernel
theorem dX6_roundRow_15 : decode cX6_roundRow 15 = .ok (.invokevirtual 366, 3) := by decide +kernel
theorem dX6_roundRow_18 : decode cX6_roundRow 18 = .ok (.aload_n 0, 1) := by decide +kernel
theorem dX6_roundRow_19 : decode cX6_roundRow 19 = .ok (.getfield 38, 3) := by decide +kernel
theorem dX6_roundRow_22 : decode cX6_roundRow 22 = .ok (.aload_n 2, 1) := by decide +kernel
theorem dX6_roundRow_23 : decode cX6_roundRow 23 = .ok (.iload_n 3, 1) := by decide +kernel
theorem dX6_roundRow_24 : decode cX6_roundRow 24 = .ok (.aload_n 1, 1) := by decide +kernel
theorem dX6_roundRow_25 : decode cX6_roundRow 25 = .ok (.invokevirtual 369, 3) := by decide +kernel
theorem dX6_roundRow_28 : decode cX6_roundRow 28 = .ok (.iload 5, 2) := by decide +kernel
theorem dX6_roundRow_30 : decode cX6_roundRow 30 = .ok (.ineg, 1) := by decide +kernel
theorem dX6_roundRow_31 : decode cX6_roundRow 31 = .ok (.i2l, 1) := by decide +kernel
theorem dX6_roundRow_32 : decode cX6_roundRow 32 = .ok (.aload_n 1, 1) := by decide +kernel
theorem dX6_roundRow_33 : decode cX6_roundRow 33 = .ok (.invokevirtual 372, 3) := by decide +kernel
theorem dX6_roundRow_36 : decode cX6_roundRow 36 = .ok (.iload 4, 2) := by decide +kernel
theorem dX6_roundRow_38 : decode cX6_roundRow 38 = .ok (.invokevirtual 217, 3) := by decide +kernel
theorem dX6_roundRow_41 : decode cX6_roundRow 41 = .ok (.return_, 1) := by decide +kernel
theorem dX6_candidateReads_0 : decode cX6_candidateReads 0 = .ok (.aload_n 0, 1) := by decide +kernel
theorem dX6_candidateReads_1 : decode cX6_candidateReads 1 = .ok (.aload_n 0, 1) := by decide +kernel
theorem dX6_candidateReads_2 : decode cX6_candidateReads 2 = .ok (.getfield 55, 3) := by decide +kernel
theorem dX6_candidateReads_5 : decode cX6_candidateReads 5 = .ok (.aload_n 1, 1) := by decide +kernel
theorem dX6_candidateReads_6 : decode cX6_candidateReads 6 = .ok (.aload_n 1, 1) := by decide +kernel
theorem dX6_candidateReads_7 : decode cX6_candidateReads 7 = .ok (.lload_n 2, 1) := by decide +kernel
theorem dX6_candidateReads_8 : decode cX6_candidateReads 8 = .ok (.invokevirtual 134, 3) := by decide +kernel
theorem dX6_candidateReads_11 : decode cX6_candidateReads 11 = .ok (.iconst 0, 1) := by decide +kernel
theorem dX6_candidateReads_12 : decode cX6_candidateReads 12 = .ok (.invokevirtual 346, 3) := by decide +kernel
theorem dX6_candidateReads_15 : decode cX6_candidateReads 15 = .ok (.aload_n 0, 1) := by decide +kernel
theorem dX6_candidateReads_16 : decode cX6_candidateReads 16 = .ok (.getfield 38, 3) := by decide +kernel
theorem dX6_candidateReads_19 : decode cX6_candidateReads 19 = .ok (.getfield 267, 3) := by decide +kernel
theorem dX6_candidateReads_22 : decode cX6_candidateReads 22 = .ok (.lload_n 2, 1) := by decide +kernel
theorem dX6_candidateReads_23 : decode cX6_candidateReads 23 = .ok (.lcmp, 1) := by decide +kernel
theorem dX6_candidateReads_24 : decode cX6_candidateReads 24 = .ok (.ifCond .ne 7, 3) := by decide +kernel
theorem dX6_candidateReads_27 : decode cX6_candidateReads 27 = .ok (.iconst 1, 1) := by decide +kernel
theorem dX6_candidateReads_28 : decode cX6_candidateReads 28 = .ok (.goto 4, 3) := by decide +kernel
theorem dX6_candidateReads_31 : decode cX6_candidateReads 31 = .ok (.iconst 0, 1) := by decide +kernel
theorem dX6_candidateReads_32 : decode cX6_candidateReads 32 = .ok (.ireturn, 1) := by decide +kernel
theorem dX6_setSize_0 : decode cX6_setSize 0 = .ok (.aload_n 0, 1) := by decide +kernel
theorem dX6_setSize_1 : decode cX6_setSize 1 = .ok (.aload_n 1, 1) := by decide +kernel
theorem dX6_setSize_2 : decode cX6_setSize 2 = .ok (.lload_n 2, 1) := by decide +kernel
theorem dX6_setSize_3 : decode cX6_setSize 3 = .ok (.invokevirtual 173, 3) := by decide +kernel
theorem dX6_setSize_6 : decode cX6_setSize 6 = .ok (.invokevirtual 375, 3) := by decide +kernel
theorem dX6_setSize_9 : decode cX6_setSize 9 = .ok (.aload_n 0, 1) := by decide +kernel
theorem dX6_setSize_10 : decode cX6_setSize 10 = .ok (.aload_n 1, 1) := by decide +kernel
theorem dX6_setSize_11 : decode cX6_setSize 11 = .ok (.lload_n 2, 1) := by decide +kernel
theorem dX6_setSize_12 : decode cX6_setSize 12 = .ok (.invokevirtual 177, 3) := by decide +kernel
theorem dX6_setSize_15 : decode cX6_setSize 15 = .ok (.invokevirtual 366, 3) := by decide +kernel
theorem dX6_setSize_18 : decode cX6_setSize 18 = .ok (.return_, 1) := by decide +kernel
theorem dX6_setMiddle_0 : decode cX6_setMiddle 0 = .ok (.aload_n 0, 1) := by decide +kernel
theorem dX6_setMiddle_1 : decode cX6_setMiddle 1 = .ok (.ldc2_w 378, 3) := by decide +kernel
theorem dX6_setMiddle_4 : decode cX6_setMiddle 4 = .ok (.aload_n 1, 1) := by decide +kernel
theorem dX6_setMiddle_5 : decode cX6_setMiddle 5 = .ok (.lload_n 2, 1) := by decide +kernel
theorem dX6_setMiddle_6 : decode cX6_setMiddle 6 = .ok (.invokevirtual 173, 3) := by decide +kernel
theorem dX6_setMiddle_9 : decode cX6_setMiddle 9 = .ok (.lmul, 1) := by decide +kernel
theorem dX6_setMiddle_10 : decode cX6_setMiddle 10 = .ok (.lconst 1, 1) := by decide +kernel
theorem dX6_setMiddle_11 : decode cX6_setMiddle 11 = .ok (.ladd, 1) := by decide +kernel
theorem dX6_setMiddle_12 : decode cX6_setMiddle 12 = .ok (.invokevirtual 375, 3) := by decide +kernel
theorem dX6_setMiddle_15 : decode cX6_setMiddle 15 = .ok (.aload_n 0, 1) := by decide +kernel
theorem dX6_setMiddle_16 : decode cX6_setMiddle 16 = .ok (.aload_n 1, 1) := by decide +kernel
theorem dX6_setMiddle_17 : decode cX6_setMiddle 17 = .ok (.lload_n 2, 1) := by decide +kernel
theorem dX6_setMiddle_18 : decode cX6_setMiddle 18 = .ok (.invokevirtual 177, 3) := by decide +kernel
theorem dX6_setMiddle_21 : decode cX6_setMiddle 21 = .ok (.iconst 1, 1) := by decide +kernel
theorem dX6_setMiddle_22 : decode cX6_setMiddle 22 = .ok (.isub, 1) := by decide +kernel
theorem dX6_setMiddle_23 : decode cX6_setMiddle 23 = .ok (.invokevirtual 366, 3) := by decide +kernel
theorem dX6_setMiddle_26 : decode cX6_setMiddle 26 = .ok (.return_, 1) := by decide +kernel
theorem dX6_setLowerMiddle_0 : decode cX6_setLowerMiddle 0 = .ok (.aload_n 1, 1) := by decide +kernel
theorem dX6_setLowerMiddle_1 : decode cX6_setLowerMiddle 1 = .ok (.lload_n 2, 1) := by decide +kernel
theorem dX6_setLowerMiddle_2 : decode cX6_setLowerMiddle 2 = .ok (.invokevirtual 380, 3) := by decide +kernel
theorem dX6_setLowerMiddle_5 : decode cX6_setLowerMiddle 5 = .ok (.ifCond .eq 32, 3) := by decide +kernel
theorem dX6_setLowerMiddle_8 : decode cX6_setLowerMiddle 8 = .ok (.aload_n 0, 1) := by decide +kernel
theorem dX6_setLowerMiddle_9 : decode cX6_setLowerMiddle 9 = .ok (.ldc2_w 383, 3) := by decide +kernel
theorem dX6_setLowerMiddle_12 : decode cX6_setLowerMiddle 12 = .ok (.aload_n 1, 1) := by decide +kernel
theorem dX6_setLowerMiddle_13 : decode cX6_setLowerMiddle 13 = .ok (.lload_n 2, 1) := by decide +kernel
theorem dX6_setLowerMiddle_14 : decode cX6_setLowerMiddle 14 = .ok (.invokevirtual 173, 3) := by decide +kernel
theorem dX6_setLowerMiddle_17 : decode cX6_setLowerMiddle 17 = .ok (.lmul, 1) := by decide +kernel
theorem dX6_setLowerMiddle_18 : decode cX6_setLowerMiddle 18 = .ok (.lconst 1, 1) := by decide +kernel
theorem dX6_setLowerMiddle_19 : decode cX6_setLowerMiddle 19 = .ok (.lsub, 1) := by decide +kernel
theorem dX6_setLowerMiddle_20 : decode cX6_setLowerMiddle 20 = .ok (.invokevirtual 375, 3) := by decide +kernel
theorem dX6_setLowerMiddle_23 : decode cX6_setLowerMiddle 23 = .ok (.aload_n 0, 1) := by decide +kernel
theorem dX6_setLowerMiddle_24 : decode cX6_setLowerMiddle 24 = .ok (.aload_n 1, 1) := by decide +kernel
theorem dX6_setLowerMiddle_25 : decode cX6_setLowerMiddle 25 = .ok (.lload_n 2, 1) := by decide +kernel
theorem dX6_setLowerMiddle_26 : decode cX6_setLowerMiddle 26 = .ok (.invokevirtual 177, 3) := by decide +kernel
theorem dX6_setLowerMiddle_29 : decode cX6_setLowerMiddle 29 = .ok (.iconst 2, 1) := by decide +kernel
theorem dX6_setLowerMiddle_30 : decode cX6_setLowerMiddle 30 = .ok (.isub, 1) := by decide +kernel
theorem dX6_setLowerMiddle_31 : decode cX6_setLowerMiddle 31 = .ok (.invokevirtual 366, 3) := by decide +kernel
theorem dX6_setLowerMiddle_34 : decode cX6_setLowerMiddle 34 = .ok (.goto 29, 3) := by decide +kernel
theorem dX6_setLowerMiddle_37 : decode cX6_setLowerMiddle 37 = .ok (.aload_n 0, 1) := by decide +kernel
theorem dX6_setLowerMiddle_38 : decode cX6_setLowerMiddle 38 = .ok (.ldc2_w 378, 3) := by decide +kernel
theorem dX6_setLowerMiddle_41 : decode cX6_setLowerMiddle 41 = .ok (.aload_n 1, 1) := by decide +kernel
theorem dX6_setLowerMiddle_42 : decode cX6_setLowerMiddle 42 = .ok (.lload_n 2, 1) := by decide +kernel
theorem dX6_setLowerMiddle_43 : decode cX6_setLowerMiddle 43 = .ok (.invokevirtual 173, 3) := by decide +kernel
theorem dX6_setLowerMiddle_46 : decode cX6_setLowerMiddle 46 = .ok (.lmul, 1) := by decide +kernel
theorem dX6_setLowerMiddle_47 : decode cX6_setLowerMiddle 47 = .ok (.lconst 1, 1) := by decide +kernel
theorem dX6_setLowerMiddle_48 : decode cX6_setLowerMiddle 48 = .ok (.lsub, 1) := by decide +kernel
theorem dX6_setLowerMiddle_49 : decode cX6_setLowerMiddle 49 = .ok (.invokevirtual 375, 3) := by decide +kernel
theorem dX6_setLowerMiddle_52 : decode cX6_setLowerMiddle 52 = .ok (.aload_n 0, 1) := by decide +kernel
theorem dX6_setLowerMiddle_53 : decode cX6_setLowerMiddle 53 = .ok (.aload_n 1, 1) := by decide +kernel
theorem dX6_setLowerMiddle_54 : decode cX6_setLowerMiddle 54 = .ok (.lload_n 2, 1) := by decide +kernel
theorem dX6_setLowerMiddle_55 : decode cX6_setLowerMiddle 55 = .ok (.invokevirtual 177, 3) := by decide +kernel
theorem dX6_setLowerMiddle_58 : decode cX6_setLowerMiddle 58 = .ok (.iconst 1, 1) := by decide +kernel
theorem dX6_setLowerMiddle_59 : decode cX6_setLowerMiddle 59 = .ok (.isub, 1) := by decide +kernel
theorem dX6_setLowerMiddle_60 : decode cX6_setLowerMiddle 60 = .ok (.invokevirtual 366, 3) := by decide +kernel
theorem dX6_setLowerMiddle_63 : decode cX6_setLowerMiddle 63 = .ok (.return_, 1) := by decide +kernel
theorem dX6_findShortest_0 : decode cX6_findShortest 0 = .ok (.aload_n 0, 1) := by decide +kernel
theorem dX6_findShortest_1 : decode cX6_findShortest 1 = .ok (.getfield 45, 3) := by decide +kernel
theorem dX6_findShortest_4 : decode cX6_findShortest 4 = .ok (.aload_n 1, 1) := by decide +kernel
theorem dX6_findShortest_5 : decode cX6_findShortest 5 = .ok (.lload_n 2, 1) := by decide +kernel
theorem dX6_findShortest_6 : decode cX6_findShortest 6 = .ok (.invokestatic 141, 3) := by decide +kernel
theorem dX6_findShortest_9 : decode cX6_findShortest 9 = .ok (.aload_n 0, 1) := by decide +kernel
theorem dX6_findShortest_10 : decode cX6_findShortest 10 = .ok (.getfield 52, 3) := by decide +kernel
theorem dX6_findShortest_13 : decode cX6_findShortest 13 = .ok (.aload_n 1, 1) := by decide +kernel
theorem dX6_findShortest_14 : decode cX6_findShortest 14 = .ok (.lload_n 2, 1) := by decide +kernel
theorem dX6_findShortest_15 : decode cX6_findShortest 15 = .ok (.invokestatic 152, 3) := by decide +kernel
theorem dX6_findShortest_18 : decode cX6_findShortest 18 = .ok (.aload_n 0, 1) := by decide +kernel
theorem dX6_findShortest_19 : decode cX6_findShortest 19 = .ok (.getfield 49, 3) := by decide +kernel
theorem dX6_findShortest_22 : decode cX6_findShortest 22 = .ok (.aload_n 1, 1) := by decide +kernel
theorem dX6_findShortest_23 : decode cX6_findShortest 23 = .ok (.lload_n 2, 1) := by decide +kernel
theorem dX6_findShortest_24 : decode cX6_findShortest 24 = .ok (.invokestatic 385, 3) := by decide +kernel
theorem dX6_findShortest_27 : decode cX6_findShortest 27 = .ok (.lload_n 2, 1) := by decide +kernel
theorem dX6_findShortest_28 : decode cX6_findShortest 28 = .ok (.lconst 1, 1) := by decide +kernel
theorem dX6_findShortest_29 : decode cX6_findShortest 29 = .ok (.land, 1) := by decide +kernel
theorem dX6_findShortest_30 : decode cX6_findShortest 30 = .ok (.lconst 0, 1) := by decide +kernel
theorem dX6_findShortest_31 : decode cX6_findShortest 31 = .ok (.lcmp, 1) := by decide +kernel
theorem dX6_findShortest_32 : decode cX6_findShortest 32 = .ok (.ifCond .ne 7, 3) := by decide +kernel
theorem dX6_findShortest_35 : decode cX6_findShortest 35 = .ok (.iconst 1, 1) := by decide +kernel
theorem dX6_findShortest_36 : decode cX6_findShortest 36 = .ok (.goto 4, 3) := by decide +kernel
theorem dX6_findShortest_39 : decode cX6_findShortest 39 = .ok (.iconst 0, 1) := by decide +kernel
theorem dX6_findShortest_40 : decode cX6_findShortest 40 = .ok (.istore 4, 2) := by decide +kernel
theorem dX6_findShortest_42 : decode cX6_findShortest 42 = .ok (.aload_n 0, 1) := by decide +kernel
theorem dX6_findShortest_43 : decode cX6_findShortest 43 = .ok (.getfield 45, 3) := by decide +kernel
theorem dX6_findShortest_46 : decode cX6_findShortest 46 = .ok (.invokevirtual 157, 3) := by decide +kernel
theorem dX6_findShortest_49 : decode cX6_findShortest 49 = .ok (.istore 5, 2) := by decide +kernel
theorem dX6_findShortest_51 : decode cX6_findShortest 51 = .ok (.iconst 1, 1) := by decide +kernel
theorem dX6_findShortest_52 : decode cX6_findShortest 52 = .ok (.istore 6, 2) := by decide +kernel
theorem dX6_findShortest_54 : decode cX6_findShortest 54 = .ok (.iload 6, 2) := by decide +kernel
theorem dX6_findShortest_56 : decode cX6_findShortest 56 = .ok (.bipush 20, 2) := by decide +kernel
theorem dX6_findShortest_58 : decode cX6_findShortest 58 = .ok (.if_icmp .ge 26, 3) := by decide +kernel
theorem dX6_findShortest_61 : decode cX6_findShortest 61 = .ok (.aload_n 0, 1) := by decide +kernel
theorem dX6_findShortest_62 : decode cX6_findShortest 62 = .ok (.iload 5, 2) := by decide +kernel
theorem dX6_findShortest_64 : decode cX6_findShortest 64 = .ok (.iload 6, 2) := by decide +kernel
theorem dX6_findShortest_66 : decode cX6_findShortest 66 = .ok (.isub, 1) := by decide +kernel
theorem dX6_findShortest_67 : decode cX6_findShortest 67 = .ok (.iload 4, 2) := by decide +kernel
theorem dX6_findShortest_69 : decode cX6_findShortest 69 = .ok (.invokevirtual 388, 3) := by decide +kernel
theorem dX6_findShortest_72 : decode cX6_findShortest 72 = .ok (.ifCond .eq 6, 3) := by decide +kernel
theorem dX6_findShortest_75 : decode cX6_findShortest 75 = .ok (.iload 6, 2) := by decide +kernel
theorem dX6_findShortest_77 : decode cX6_findShortest 77 = .ok (.ireturn, 1) := by decide +kernel
theorem dX6_findShortest_78 : decode cX6_findShortest 78 = .ok (.iinc 6 1, 3) := by decide +kernel
theorem dX6_findShortest_81 : decode cX6_findShortest 81 = .ok (.goto (-27), 3) := by decide +kernel
theorem dX6_findShortest_84 : decode cX6_findShortest 84 = .ok (.bipush 20, 2) := by decide +kernel
theorem dX6_findShortest_86 : decode cX6_findShortest 86 = .ok (.ireturn, 1) := by decide +kernel
theorem dX6_foundDownTo_0 : decode cX6_foundDownTo 0 = .ok (.aload_n 0, 1) := by decide +kernel
theorem dX6_foundDownTo_1 : decode cX6_foundDownTo 1 = .ok (.getfield 55, 3) := by decide +kernel
theorem dX6_foundDownTo_4 : decode cX6_foundDownTo 4 = .ok (.aload_n 0, 1) := by decide +kernel
theorem dX6_foundDownTo_5 : decode cX6_foundDownTo 5 = .ok (.getfield 45, 3) := by decide +kernel
theorem dX6_foundDownTo_8 : decode cX6_foundDownTo 8 = .ok (.iload_n 1, 1) := by decide +kernel
theorem dX6_foundDownTo_9 : decode cX6_foundDownTo 9 = .ok (.invokevirtual 276, 3) := by decide +kernel
theorem dX6_foundDownTo_12 : decode cX6_foundDownTo 12 = .ok (.aload_n 0, 1) := by decide +kernel
theorem dX6_foundDownTo_13 : decode cX6_foundDownTo 13 = .ok (.getfield 55, 3) := by decide +kernel
theorem dX6_foundDownTo_16 : decode cX6_foundDownTo 16 = .ok (.aload_n 0, 1) := by decide +kernel
theorem dX6_foundDownTo_17 : decode cX6_foundDownTo 17 = .ok (.getfield 49, 3) := by decide +kernel
theorem dX6_foundDownTo_20 : decode cX6_foundDownTo 20 = .ok (.invokevirtual 392, 3) := by decide +kernel
theorem dX6_foundDownTo_23 : decode cX6_foundDownTo 23 = .ok (.istore_n 3, 1) := by decide +kernel
theorem dX6_foundDownTo_24 : decode cX6_foundDownTo 24 = .ok (.iload_n 3, 1) := by decide +kernel
theorem dX6_foundDownTo_25 : decode cX6_foundDownTo 25 = .ok (.ifCond .gt 11, 3) := by decide +kernel
theorem dX6_foundDownTo_28 : decode cX6_foundDownTo 28 = .ok (.iload_n 3, 1) := by decide +kernel
theorem dX6_foundDownTo_29 : decode cX6_foundDownTo 29 = .ok (.ifCond .ne 11, 3) := by decide +kernel
theorem dX6_foundDownTo_32 : decode cX6_foundDownTo 32 = .ok (.iload_n 2, 1) := by decide +kernel
theorem dX6_foundDownTo_33 : decode cX6_foundDownTo 33 = .ok (.ifCond .eq 7, 3) := by decide +kernel
theorem dX6_foundDownTo_36 : decode cX6_foundDownTo 36 = .ok (.iconst 1, 1) := by decide +kernel
theorem dX6_foundDownTo_37 : decode cX6_foundDownTo 37 = .ok (.goto 4, 3) := by decide +kernel
theorem dX6_foundDownTo_40 : decode cX6_foundDownTo 40 = .ok (.iconst 0, 1) := by decide +kernel
theorem dX6_foundDownTo_41 : decode cX6_foundDownTo 41 = .ok (.istore 4, 2) := by decide +kernel
theorem dX6_foundDownTo_43 : decode cX6_foundDownTo 43 = .ok (.aload_n 0, 1) := by decide +kernel
theorem dX6_foundDownTo_44 : decode cX6_foundDownTo 44 = .ok (.getfield 55, 3) := by decide +kernel
theorem dX6_foundDownTo_47 : decode cX6_foundDownTo 47 = .ok (.iload_n 1, 1) := by decide +kernel
theorem dX6_foundDownTo_48 : decode cX6_foundDownTo 48 = .ok (.invokevirtual 280, 3) := by decide +kernel
theorem dX6_foundDownTo_51 : decode cX6_foundDownTo 51 = .ok (.aload_n 0, 1) := by decide +kernel
theorem dX6_foundDownTo_52 : decode cX6_foundDownTo 52 = .ok (.getfield 55, 3) := by decide +kernel
theorem dX6_foundDownTo_55 : decode cX6_foundDownTo 55 = .ok (.aload_n 0, 1) := by decide +kernel
theorem dX6_foundDownTo_56 : decode cX6_foundDownTo 56 = .ok (.getfield 52, 3) := by decide +kernel
theorem dX6_foundDownTo_59 : decode cX6_foundDownTo 59 = .ok (.invokevirtual 392, 3) := by decide +kernel
theorem dX6_foundDownTo_62 : decode cX6_foundDownTo 62 = .ok (.istore 5, 2) := by decide +kernel
theorem dX6_foundDownTo_64 : decode cX6_foundDownTo 64 = .ok (.iload 5, 2) := by decide +kernel
theorem dX6_foundDownTo_66 : decode cX6_foundDownTo 66 = .ok (.ifCond .lt 12, 3) := by decide +kernel
theorem dX6_foundDownTo_69 : decode cX6_foundDownTo 69 = .ok (.iload 5, 2) := by decide +kernel
theorem dX6_foundDownTo_71 : decode cX6_foundDownTo 71 = .ok (.ifCond .ne 11, 3) := by decide +kernel
theorem dX6_foundDownTo_74 : decode cX6_foundDownTo 74 = .ok (.iload_n 2, 1) := by decide +kernel
theorem dX6_foundDownTo_75 : decode cX6_foundDownTo 75 = .ok (.ifCond .eq 7, 3) := by decide +kernel
theorem dX6_foundDownTo_78 : decode cX6_foundDownTo 78 = .ok (.iconst 1, 1) := by decide +kernel
theorem dX6_foundDownTo_79 : decode cX6_foundDownTo 79 = .ok (.goto 4, 3) := by decide +kernel
theorem dX6_foundDownTo_82 : decode cX6_foundDownTo 82 = .ok (.iconst 0, 1) := by decide +kernel
theorem dX6_foundDownTo_83 : decode cX6_foundDownTo 83 = .ok (.istore 6, 2) := by decide +kernel
theorem dX6_foundDownTo_85 : decode cX6_foundDownTo 85 = .ok (.iload 4, 2) := by decide +kernel
theorem dX6_foundDownTo_87 : decode cX6_foundDownTo 87 = .ok (.ifCond .eq 18, 3) := by decide +kernel
theorem dX6_foundDownTo_90 : decode cX6_foundDownTo 90 = .ok (.iload 6, 2) := by decide +kernel
theorem dX6_foundDownTo_92 : decode cX6_foundDownTo 92 = .ok (.ifCond .eq 13, 3) := by decide +kernel
theorem dX6_foundDownTo_95 : decode cX6_foundDownTo 95 = .ok (.aload_n 0, 1) := by decide +kernel
theorem dX6_foundDownTo_96 : decode cX6_foundDownTo 96 = .ok (.iload_n 1, 1) := by decide +kernel
theorem dX6_foundDownTo_97 : decode cX6_foundDownTo 97 = .ok (.iconst 0, 1) := by decide +kernel
theorem dX6_foundDownTo_98 : decode cX6_foundDownTo 98 = .ok (.iconst 0, 1) := by decide +kernel
theorem dX6_foundDownTo_99 : decode cX6_foundDownTo 99 = .ok (.invokevirtual 160, 3) := by decide +kernel
theorem dX6_foundDownTo_102 : decode cX6_foundDownTo 102 = .ok (.goto 20, 3) := by decide +kernel
theorem dX6_foundDownTo_105 : decode cX6_foundDownTo 105 = .ok (.iload 4, 2) := by decide +kernel
theorem dX6_foundDownTo_107 : decode cX6_foundDownTo 107 = .ok (.ifCond .eq 15, 3) := by decide +kernel
theorem dX6_foundDownTo_110 : decode cX6_foundDownTo 110 = .ok (.aload_n 0, 1) := by decide +kernel
theorem dX6_foundDownTo_111 : decode cX6_foundDownTo 111 = .ok (.getfield 55, 3) := by decide +kernel
theorem dX6_foundDownTo_114 : decode cX6_foundDownTo 114 = .ok (.aload_n 0, 1) := by decide +kernel
theorem dX6_foundDownTo_115 : decode cX6_foundDownTo 115 = .ok (.getfield 45, 3) := by decide +kernel
theorem dX6_foundDownTo_118 : decode cX6_foundDownTo 118 = .ok (.iload_n 1, 1) := by decide +kernel
theorem dX6_foundDownTo_119 : decode cX6_foundDownTo 119 = .ok (.invokevirtual 276, 3) := by decide +kernel
theorem dX6_foundDownTo_122 : decode cX6_foundDownTo 122 = .ok (.iload 4, 2) := by decide +kernel
theorem dX6_foundDownTo_124 : decode cX6_foundDownTo 124 = .ok (.ifCond .ne 8, 3) := by decide +kernel
theorem dX6_foundDownTo_127 : decode cX6_foundDownTo 127 = .ok (.iload 6, 2) := by decide +kernel
theorem dX6_foundDownTo_129 : decode cX6_foundDownTo 129 = .ok (.ifCond .eq 7, 3) := by decide +kernel
theorem dX6_foundDownTo_132 : decode cX6_foundDownTo 132 = .ok (.iconst 1, 1) := by decide +kernel
theorem dX6_foundDownTo_133 : decode cX6_foundDownTo 133 = .ok (.goto 4, 3) := by decide +kernel
theorem dX6_foundDownTo_136 : decode cX6_foundDownTo 136 = .ok (.iconst 0, 1) := by decide +kernel
theorem dX6_foundDownTo_137 : decode cX6_foundDownTo 137 = .ok (.ireturn, 1) := by decide +kernel
theorem dX6_roundAt_0 : decode cX6_roundAt 0 = .ok (.aload_n 0, 1) := by decide +kernel
theorem dX6_roundAt_1 : decode cX6_roundAt 1 = .ok (.getfield 55, 3) := by decide +kernel
theorem dX6_roundAt_4 : decode cX6_roundAt 4 = .ok (.aload_n 0, 1) := by decide +kernel
theorem dX6_roundAt_5 : decode cX6_roundAt 5 = .ok (.getfield 45, 3) := by decide +kernel
theorem dX6_roundAt_8 : decode cX6_roundAt 8 = .ok (.iload_n 1, 1) := by decide +kernel
theorem dX6_roundAt_9 : decode cX6_roundAt 9 = .ok (.invokevirtual 276, 3) := by decide +kernel
theorem dX6_roundAt_12 : decode cX6_roundAt 12 = .ok (.aload_n 0, 1) := by decide +kernel
theorem dX6_roundAt_13 : decode cX6_roundAt 13 = .ok (.getfield 45, 3) := by decide +kernel
theorem dX6_roundAt_16 : decode cX6_roundAt 16 = .ok (.iload_n 1, 1) := by decide +kernel
theorem dX6_roundAt_17 : decode cX6_roundAt 17 = .ok (.invokevirtual 396, 3) := by decide +kernel
theorem dX6_roundAt_20 : decode cX6_roundAt 20 = .ok (.iconst 2, 1) := by decide +kernel
theorem dX6_roundAt_21 : decode cX6_roundAt 21 = .ok (.irem, 1) := by decide +kernel
theorem dX6_roundAt_22 : decode cX6_roundAt 22 = .ok (.ifCond .eq 7, 3) := by decide +kernel
theorem dX6_roundAt_25 : decode cX6_roundAt 25 = .ok (.iconst 1, 1) := by decide +kernel
theorem dX6_roundAt_26 : decode cX6_roundAt 26 = .ok (.goto 4, 3) := by decide +kernel
theorem dX6_roundAt_29 : decode cX6_roundAt 29 = .ok (.iconst 0, 1) := by decide +kernel
theorem dX6_roundAt_30 : decode cX6_roundAt 30 = .ok (.istore 4, 2) := by decide +kernel
theorem dX6_roundAt_32 : decode cX6_roundAt 32 = .ok (.iload_n 3, 1) := by decide +kernel
theorem dX6_roundAt_33 : decode cX6_roundAt 33 = .ok (.iload_n 2, 1) := by decide +kernel
theorem dX6_roundAt_34 : decode cX6_roundAt 34 = .ok (.iload 4, 2) := by decide +kernel
theorem dX6_roundAt_36 : decode cX6_roundAt 36 = .ok (.aload_n 0, 1) := by decide +kernel
theorem dX6_roundAt_37 : decode cX6_roundAt 37 = .ok (.getfield 45, 3) := by decide +kernel
theorem dX6_roundAt_40 : decode cX6_roundAt 40 = .ok (.iload_n 1, 1) := by decide +kernel
theorem dX6_roundAt_41 : decode cX6_roundAt 41 = .ok (.invokevirtual 397, 3) := by decide +kernel
theorem dX6_roundAt_44 : decode cX6_roundAt 44 = .ok (.invokestatic 400, 3) := by decide +kernel
theorem dX6_roundAt_47 : decode cX6_roundAt 47 = .ok (.ifCond .eq 11, 3) := by decide +kernel
theorem dX6_roundAt_50 : decode cX6_roundAt 50 = .ok (.aload_n 0, 1) := by decide +kernel
theorem dX6_roundAt_51 : decode cX6_roundAt 51 = .ok (.getfield 55, 3) := by decide +kernel
theorem dX6_roundAt_54 : decode cX6_roundAt 54 = .ok (.iload_n 1, 1) := by decide +kernel
theorem dX6_roundAt_55 : decode cX6_roundAt 55 = .ok (.invokevirtual 280, 3) := by decide +kernel
theorem dX6_roundAt_58 : decode cX6_roundAt 58 = .ok (.return_, 1) := by decide +kernel
theorem dX6_tellRow_0 : decode cX6_tellRow 0 = .ok (.aload_n 0, 1) := by decide +kernel
theorem dX6_tellRow_1 : decode cX6_tellRow 1 = .ok (.getfield 24, 3) := by decide +kernel
theorem dX6_tellRow_4 : decode cX6_tellRow 4 = .ok (.aload_n 1, 1) := by decide +kernel
theorem dX6_tellRow_5 : decode cX6_tellRow 5 = .ok (.iload_n 2, 1) := by decide +kernel
theorem dX6_tellRow_6 : decode cX6_tellRow 6 = .ok (.iload_n 3, 1) := by decide +kernel
theorem dX6_tellRow_7 : decode cX6_tellRow 7 = .ok (.invokevirtual 404, 3) := by decide +kernel
theorem dX6_tellRow_10 : decode cX6_tellRow 10 = .ok (.aload_n 0, 1) := by decide +kernel
theorem dX6_tellRow_11 : decode cX6_tellRow 11 = .ok (.getfield 18, 3) := by decide +kernel
theorem dX6_tellRow_14 : decode cX6_tellRow 14 = .ok (.iload_n 2, 1) := by decide +kernel
theorem dX6_tellRow_15 : decode cX6_tellRow 15 = .ok (.invokevirtual 170, 3) := by decide +kernel
theorem dX6_tellRow_18 : decode cX6_tellRow 18 = .ok (.aload_n 0, 1) := by decide +kernel
theorem dX6_tellRow_19 : decode cX6_tellRow 19 = .ok (.getfield 24, 3) := by decide +kernel
theorem dX6_tellRow_22 : decode cX6_tellRow 22 = .ok (.getfield 193, 3) := by decide +kernel
theorem dX6_tellRow_25 : decode cX6_tellRow 25 = .ok (.iconst 1, 1) := by decide +kernel
theorem dX6_tellRow_26 : decode cX6_tellRow 26 = .ok (.isub, 1) := by decide +kernel
theorem dX6_tellRow_27 : decode cX6_tellRow 27 = .ok (.istore 5, 2) := by decide +kernel
theorem dX6_tellRow_29 : decode cX6_tellRow 29 = .ok (.iload 4, 2) := by decide +kernel
theorem dX6_tellRow_31 : decode cX6_tellRow 31 = .ok (.iconst 1, 1) := by decide +kernel
theorem dX6_tellRow_32 : decode cX6_tellRow 32 = .ok (.if_icmp .eq 23, 3) := by decide +kernel
theorem dX6_tellRow_35 : decode cX6_tellRow 35 = .ok (.iload 4, 2) := by decide +kernel
theorem dX6_tellRow_37 : decode cX6_tellRow 37 = .ok (.iconst 2, 1) := by decide +kernel
theorem dX6_tellRow_38 : decode cX6_tellRow 38 = .ok (.if_icmp .ne 31, 3) := by decide +kernel
theorem dX6_tellRow_41 : decode cX6_tellRow 41 = .ok (.iload 5, 2) := by decide +kernel
theorem dX6_tellRow_43 : decode cX6_tellRow 43 = .ok (.bipush (-6), 2) := by decide +kernel
theorem dX6_tellRow_45 : decode cX6_tellRow 45 = .ok (.if_icmp .lt 24, 3) := by decide +kernel
theorem dX6_tellRow_48 : decode cX6_tellRow 48 = .ok (.iload 5, 2) := by decide +kernel
theorem dX6_tellRow_50 : decode cX6_tellRow 50 = .ok (.bipush 20, 2) := by decide +kernel
theorem dX6_tellRow_52 : decode cX6_tellRow 52 = .ok (.if_icmp .gt 17, 3) := by decide +kernel
theorem dX6_tellRow_55 : decode cX6_tellRow 55 = .ok (.aload_n 0, 1) := by decide +kernel
theorem dX6_tellRow_56 : decode cX6_tellRow 56 = .ok (.getfield 18, 3) := by decide +kernel
theorem dX6_tellRow_59 : decode cX6_tellRow 59 = .ok (.aload_n 0, 1) := by decide +kernel
theorem dX6_tellRow_60 : decode cX6_tellRow 60 = .ok (.getfield 24, 3) := by decide +kernel
theorem dX6_tellRow_63 : decode cX6_tellRow 63 = .ok (.invokevirtual 408, 3) := by decide +kernel
theorem dX6_tellRow_66 : decode cX6_tellRow 66 = .ok (.goto 14, 3) := by decide +kernel
theorem dX6_tellRow_69 : decode cX6_tellRow 69 = .ok (.aload_n 0, 1) := by decide +kernel
theorem dX6_tellRow_70 : decode cX6_tellRow 70 = .ok (.getfield 18, 3) := by decide +kernel
theorem dX6_tellRow_73 : decode cX6_tellRow 73 = .ok (.aload_n 0, 1) := by decide +kernel
theorem dX6_tellRow_74 : decode cX6_tellRow 74 = .ok (.getfield 24, 3) := by decide +kernel
theorem dX6_tellRow_77 : decode cX6_tellRow 77 = .ok (.invokevirtual 412, 3) := by decide +kernel
theorem dX6_tellRow_80 : decode cX6_tellRow 80 = .ok (.aload_n 0, 1) := by decide +kernel
theorem dX6_tellRow_81 : decode cX6_tellRow 81 = .ok (.getfield 18, 3) := by decide +kernel
theorem dX6_tellRow_84 : decode cX6_tellRow 84 = .ok (.getfield 82, 3) := by decide +kernel
theorem dX6_tellRow_87 : decode cX6_tellRow 87 = .ok (.ireturn, 1) := by decide +kernel
theorem dX6_tellName_0 : decode cX6_tellName 0 = .ok (.aload_n 0, 1) := by decide +kernel
theorem dX6_tellName_1 : decode cX6_tellName 1 = .ok (.getfield 24, 3) := by decide +kernel
theorem dX6_tellName_4 : decode cX6_tellName 4 = .ok (.aload_n 1, 1) := by decide +kernel
theorem dX6_tellName_5 : decode cX6_tellName 5 = .ok (.lload_n 2, 1) := by decide +kernel
theorem dX6_tellName_6 : decode cX6_tellName 6 = .ok (.invokevirtual 134, 3) := by decide +kernel
theorem dX6_tellName_9 : decode cX6_tellName 9 = .ok (.invokevirtual 166, 3) := by decide +kernel
theorem dX6_tellName_12 : decode cX6_tellName 12 = .ok (.aload_n 0, 1) := by decide +kernel
theorem dX6_tellName_13 : decode cX6_tellName 13 = .ok (.getfield 18, 3) := by decide +kernel
theorem dX6_tellName_16 : decode cX6_tellName 16 = .ok (.aload_n 1, 1) := by decide +kernel
theorem dX6_tellName_17 : decode cX6_tellName 17 = .ok (.lload_n 2, 1) := by decide +kernel
theorem dX6_tellName_18 : decode cX6_tellName 18 = .ok (.invokevirtual 134, 3) := by decide +kernel
theorem dX6_tellName_21 : decode cX6_tellName 21 = .ok (.invokevirtual 170, 3) := by decide +kernel
theorem dX6_tellName_24 : decode cX6_tellName 24 = .ok (.aload_n 0, 1) := by decide +kernel
theorem dX6_tellName_25 : decode cX6_tellName 25 = .ok (.getfield 18, 3) := by decide +kernel
theorem dX6_tellName_28 : decode cX6_tellName 28 = .ok (.aload_n 1, 1) := by decide +kernel
theorem dX6_tellName_29 : decode cX6_tellName 29 = .ok (.lload_n 2, 1) := by decide +kernel
theorem dX6_tellName_30 : decode cX6_tellName 30 = .ok (.invokevirtual 221, 3) := by decide +kernel
theorem dX6_tellName_33 : decode cX6_tellName 33 = .ok (.ifCond .eq 9, 3) := by decide +kernel
theorem dX6_tellName_36 : decode cX6_tellName 36 = .ok (.ldc_w 415, 3) := by decide +kernel
theorem dX6_tellName_39 : decode cX6_tellName 39 = .ok (.goto 6, 3) := by decide +kernel
theorem dX6_tellName_42 : decode cX6_tellName 42 = .ok (.ldc_w 417, 3) := by decide +kernel
theorem dX6_tellName_45 : decode cX6_tellName 45 = .ok (.invokevirtual 419, 3) := by decide +kernel
theorem dX6_tellName_48 : decode cX6_tellName 48 = .ok (.aload_n 0, 1) := by decide +kernel
theorem dX6_tellName_49 : decode cX6_tellName 49 = .ok (.getfield 18, 3) := by decide +kernel
theorem dX6_tellName_52 : decode cX6_tellName 52 = .ok (.getfield 82, 3) := by decide +kernel
theorem dX6_tellName_55 : decode cX6_tellName 55 = .ok (.ireturn, 1) := by decide +kernel
