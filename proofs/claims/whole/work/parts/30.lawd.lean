theorem dL_type_0 : decode cL_type 0 = .ok (.aload 4, 2) := by decide +kernel
theorem dL_type_2 : decode cL_type 2 = .ok (.iconst 0, 1) := by decide +kernel
theorem dL_type_3 : decode cL_type 3 = .ok (.aload_n 0, 1) := by decide +kernel
theorem dL_type_4 : decode cL_type 4 = .ok (.lload_n 1, 1) := by decide +kernel
theorem dL_type_5 : decode cL_type 5 = .ok (.iload_n 3, 1) := by decide +kernel
theorem dL_type_6 : decode cL_type 6 = .ok (.invokevirtual 7, 3) := by decide +kernel
theorem dL_type_9 : decode cL_type 9 = .ok (.i2l, 1) := by decide +kernel
theorem dL_type_10 : decode cL_type 10 = .ok (.lastore, 1) := by decide +kernel
theorem dL_type_11 : decode cL_type 11 = .ok (.goto 7, 3) := by decide +kernel
theorem dL_type_14 : decode cL_type 14 = .ok (.astore 5, 2) := by decide +kernel
theorem dL_type_16 : decode cL_type 16 = .ok (.iconst 1, 1) := by decide +kernel
theorem dL_type_17 : decode cL_type 17 = .ok (.ireturn, 1) := by decide +kernel
theorem dL_type_18 : decode cL_type 18 = .ok (.iconst 0, 1) := by decide +kernel
theorem dL_type_19 : decode cL_type 19 = .ok (.ireturn, 1) := by decide +kernel
theorem dL_read_0 : decode cL_read 0 = .ok (.aload_n 3, 1) := by decide +kernel
theorem dL_read_1 : decode cL_read 1 = .ok (.iconst 0, 1) := by decide +kernel
theorem dL_read_2 : decode cL_read 2 = .ok (.aload_n 0, 1) := by decide +kernel
theorem dL_read_3 : decode cL_read 3 = .ok (.iload_n 1, 1) := by decide +kernel
theorem dL_read_4 : decode cL_read 4 = .ok (.iload_n 2, 1) := by decide +kernel
theorem dL_read_5 : decode cL_read 5 = .ok (.invokevirtual 15, 3) := by decide +kernel
theorem dL_read_8 : decode cL_read 8 = .ok (.i2l, 1) := by decide +kernel
theorem dL_read_9 : decode cL_read 9 = .ok (.lastore, 1) := by decide +kernel
theorem dL_read_10 : decode cL_read 10 = .ok (.goto 7, 3) := by decide +kernel
theorem dL_read_13 : decode cL_read 13 = .ok (.astore 4, 2) := by decide +kernel
theorem dL_read_15 : decode cL_read 15 = .ok (.iconst 1, 1) := by decide +kernel
theorem dL_read_16 : decode cL_read 16 = .ok (.ireturn, 1) := by decide +kernel
theorem dL_read_17 : decode cL_read 17 = .ok (.iconst 0, 1) := by decide +kernel
theorem dL_read_18 : decode cL_read 18 = .ok (.ireturn, 1) := by decide +kernel
theorem dL_shortest_0 : decode cL_shortest 0 = .ok (.aload 5, 2) := by decide +kernel
theorem dL_shortest_2 : decode cL_shortest 2 = .ok (.iconst 0, 1) := by decide +kernel
theorem dL_shortest_3 : decode cL_shortest 3 = .ok (.aload_n 0, 1) := by decide +kernel
theorem dL_shortest_4 : decode cL_shortest 4 = .ok (.iload_n 1, 1) := by decide +kernel
theorem dL_shortest_5 : decode cL_shortest 5 = .ok (.lload_n 2, 1) := by decide +kernel
theorem dL_shortest_6 : decode cL_shortest 6 = .ok (.iload 4, 2) := by decide +kernel
theorem dL_shortest_8 : decode cL_shortest 8 = .ok (.invokevirtual 19, 3) := by decide +kernel
theorem dL_shortest_11 : decode cL_shortest 11 = .ok (.i2l, 1) := by decide +kernel
theorem dL_shortest_12 : decode cL_shortest 12 = .ok (.lastore, 1) := by decide +kernel
theorem dL_shortest_13 : decode cL_shortest 13 = .ok (.goto 7, 3) := by decide +kernel
theorem dL_shortest_16 : decode cL_shortest 16 = .ok (.astore 6, 2) := by decide +kernel
theorem dL_shortest_18 : decode cL_shortest 18 = .ok (.iconst 1, 1) := by decide +kernel
theorem dL_shortest_19 : decode cL_shortest 19 = .ok (.ireturn, 1) := by decide +kernel
theorem dL_shortest_20 : decode cL_shortest 20 = .ok (.iconst 0, 1) := by decide +kernel
theorem dL_shortest_21 : decode cL_shortest 21 = .ok (.ireturn, 1) := by decide +kernel
theorem dL_exact_0 : decode cL_exact 0 = .ok (.aload 5, 2) := by decide +kernel
theorem dL_exact_2 : decode cL_exact 2 = .ok (.iconst 0, 1) := by decide +kernel
theorem dL_exact_3 : decode cL_exact 3 = .ok (.aload_n 0, 1) := by decide +kernel
theorem dL_exact_4 : decode cL_exact 4 = .ok (.iload_n 1, 1) := by decide +kernel
theorem dL_exact_5 : decode cL_exact 5 = .ok (.lload_n 2, 1) := by decide +kernel
theorem dL_exact_6 : decode cL_exact 6 = .ok (.iload 4, 2) := by decide +kernel
theorem dL_exact_8 : decode cL_exact 8 = .ok (.invokevirtual 23, 3) := by decide +kernel
theorem dL_exact_11 : decode cL_exact 11 = .ok (.i2l, 1) := by decide +kernel
theorem dL_exact_12 : decode cL_exact 12 = .ok (.lastore, 1) := by decide +kernel
theorem dL_exact_13 : decode cL_exact 13 = .ok (.goto 7, 3) := by decide +kernel
theorem dL_exact_16 : decode cL_exact 16 = .ok (.astore 6, 2) := by decide +kernel
theorem dL_exact_18 : decode cL_exact 18 = .ok (.iconst 1, 1) := by decide +kernel
theorem dL_exact_19 : decode cL_exact 19 = .ok (.ireturn, 1) := by decide +kernel
theorem dL_exact_20 : decode cL_exact 20 = .ok (.iconst 0, 1) := by decide +kernel
theorem dL_exact_21 : decode cL_exact 21 = .ok (.ireturn, 1) := by decide +kernel
theorem dL_middle_0 : decode cL_middle 0 = .ok (.aload 5, 2) := by decide +kernel
theorem dL_middle_2 : decode cL_middle 2 = .ok (.iconst 0, 1) := by decide +kernel
theorem dL_middle_3 : decode cL_middle 3 = .ok (.aload_n 0, 1) := by decide +kernel
theorem dL_middle_4 : decode cL_middle 4 = .ok (.iload_n 1, 1) := by decide +kernel
theorem dL_middle_5 : decode cL_middle 5 = .ok (.lload_n 2, 1) := by decide +kernel
theorem dL_middle_6 : decode cL_middle 6 = .ok (.iload 4, 2) := by decide +kernel
theorem dL_middle_8 : decode cL_middle 8 = .ok (.invokevirtual 26, 3) := by decide +kernel
theorem dL_middle_11 : decode cL_middle 11 = .ok (.i2l, 1) := by decide +kernel
theorem dL_middle_12 : decode cL_middle 12 = .ok (.lastore, 1) := by decide +kernel
theorem dL_middle_13 : decode cL_middle 13 = .ok (.goto 7, 3) := by decide +kernel
theorem dL_middle_16 : decode cL_middle 16 = .ok (.astore 6, 2) := by decide +kernel
theorem dL_middle_18 : decode cL_middle 18 = .ok (.iconst 1, 1) := by decide +kernel
theorem dL_middle_19 : decode cL_middle 19 = .ok (.ireturn, 1) := by decide +kernel
theorem dL_middle_20 : decode cL_middle 20 = .ok (.iconst 0, 1) := by decide +kernel
theorem dL_middle_21 : decode cL_middle 21 = .ok (.ireturn, 1) := by decide +kernel
theorem dL_digits_0 : decode cL_digits 0 = .ok (.aload 7, 2) := by decide +kernel
theorem dL_digits_2 : decode cL_digits 2 = .ok (.iconst 0, 1) := by decide +kernel
theorem dL_digits_3 : decode cL_digits 3 = .ok (.aload_n 0, 1) := by decide +kernel
theorem dL_digits_4 : decode cL_digits 4 = .ok (.iload_n 1, 1) := by decide +kernel
theorem dL_digits_5 : decode cL_digits 5 = .ok (.lload_n 2, 1) := by decide +kernel
theorem dL_digits_6 : decode cL_digits 6 = .ok (.iload 4, 2) := by decide +kernel
theorem dL_digits_8 : decode cL_digits 8 = .ok (.iload 5, 2) := by decide +kernel
theorem dL_digits_10 : decode cL_digits 10 = .ok (.iload 6, 2) := by decide +kernel
theorem dL_digits_12 : decode cL_digits 12 = .ok (.invokevirtual 29, 3) := by decide +kernel
theorem dL_digits_15 : decode cL_digits 15 = .ok (.i2l, 1) := by decide +kernel
theorem dL_digits_16 : decode cL_digits 16 = .ok (.lastore, 1) := by decide +kernel
theorem dL_digits_17 : decode cL_digits 17 = .ok (.goto 7, 3) := by decide +kernel
theorem dL_digits_20 : decode cL_digits 20 = .ok (.astore 8, 2) := by decide +kernel
theorem dL_digits_22 : decode cL_digits 22 = .ok (.iconst 1, 1) := by decide +kernel
theorem dL_digits_23 : decode cL_digits 23 = .ok (.ireturn, 1) := by decide +kernel
theorem dL_digits_24 : decode cL_digits 24 = .ok (.iconst 0, 1) := by decide +kernel
theorem dL_digits_25 : decode cL_digits 25 = .ok (.ireturn, 1) := by decide +kernel
theorem dL_fixed_0 : decode cL_fixed 0 = .ok (.aload 6, 2) := by decide +kernel
theorem dL_fixed_2 : decode cL_fixed 2 = .ok (.iconst 0, 1) := by decide +kernel
theorem dL_fixed_3 : decode cL_fixed 3 = .ok (.aload_n 0, 1) := by decide +kernel
theorem dL_fixed_4 : decode cL_fixed 4 = .ok (.iload_n 1, 1) := by decide +kernel
theorem dL_fixed_5 : decode cL_fixed 5 = .ok (.lload_n 2, 1) := by decide +kernel
theorem dL_fixed_6 : decode cL_fixed 6 = .ok (.iload 4, 2) := by decide +kernel
theorem dL_fixed_8 : decode cL_fixed 8 = .ok (.iload 5, 2) := by decide +kernel
theorem dL_fixed_10 : decode cL_fixed 10 = .ok (.invokevirtual 33, 3) := by decide +kernel
theorem dL_fixed_13 : decode cL_fixed 13 = .ok (.i2l, 1) := by decide +kernel
theorem dL_fixed_14 : decode cL_fixed 14 = .ok (.lastore, 1) := by decide +kernel
theorem dL_fixed_15 : decode cL_fixed 15 = .ok (.goto 7, 3) := by decide +kernel
theorem dL_fixed_18 : decode cL_fixed 18 = .ok (.astore 7, 2) := by decide +kernel
theorem dL_fixed_20 : decode cL_fixed 20 = .ok (.iconst 1, 1) := by decide +kernel
theorem dL_fixed_21 : decode cL_fixed 21 = .ok (.ireturn, 1) := by decide +kernel
theorem dL_fixed_22 : decode cL_fixed 22 = .ok (.iconst 0, 1) := by decide +kernel
theorem dL_fixed_23 : decode cL_fixed 23 = .ok (.ireturn, 1) := by decide +kernel
theorem dL_hex_0 : decode cL_hex 0 = .ok (.aload 4, 2) := by decide +kernel
theorem dL_hex_2 : decode cL_hex 2 = .ok (.iconst 0, 1) := by decide +kernel
theorem dL_hex_3 : decode cL_hex 3 = .ok (.aload_n 0, 1) := by decide +kernel
theorem dL_hex_4 : decode cL_hex 4 = .ok (.iload_n 1, 1) := by decide +kernel
theorem dL_hex_5 : decode cL_hex 5 = .ok (.lload_n 2, 1) := by decide +kernel
theorem dL_hex_6 : decode cL_hex 6 = .ok (.invokevirtual 37, 3) := by decide +kernel
theorem dL_hex_9 : decode cL_hex 9 = .ok (.i2l, 1) := by decide +kernel
theorem dL_hex_10 : decode cL_hex 10 = .ok (.lastore, 1) := by decide +kernel
theorem dL_hex_11 : decode cL_hex 11 = .ok (.goto 7, 3) := by decide +kernel
theorem dL_hex_14 : decode cL_hex 14 = .ok (.astore 5, 2) := by decide +kernel
theorem dL_hex_16 : decode cL_hex 16 = .ok (.iconst 1, 1) := by decide +kernel
theorem dL_hex_17 : decode cL_hex 17 = .ok (.ireturn, 1) := by decide +kernel
theorem dL_hex_18 : decode cL_hex 18 = .ok (.iconst 0, 1) := by decide +kernel
theorem dL_hex_19 : decode cL_hex 19 = .ok (.ireturn, 1) := by decide +kernel
theorem dL_out_0 : decode cL_out 0 = .ok (.aload_n 2, 1) := by decide +kernel
theorem dL_out_1 : decode cL_out 1 = .ok (.iconst 0, 1) := by decide +kernel
theorem dL_out_2 : decode cL_out 2 = .ok (.aload_n 0, 1) := by decide +kernel
theorem dL_out_3 : decode cL_out 3 = .ok (.iload_n 1, 1) := by decide +kernel
theorem dL_out_4 : decode cL_out 4 = .ok (.invokevirtual 41, 3) := by decide +kernel
theorem dL_out_7 : decode cL_out 7 = .ok (.i2l, 1) := by decide +kernel
theorem dL_out_8 : decode cL_out 8 = .ok (.lastore, 1) := by decide +kernel
theorem dL_out_9 : decode cL_out 9 = .ok (.goto 6, 3) := by decide +kernel
theorem dL_out_12 : decode cL_out 12 = .ok (.astore_n 3, 1) := by decide +kernel
theorem dL_out_13 : decode cL_out 13 = .ok (.iconst 1, 1) := by decide +kernel
theorem dL_out_14 : decode cL_out 14 = .ok (.ireturn, 1) := by decide +kernel
theorem dL_out_15 : decode cL_out 15 = .ok (.iconst 0, 1) := by decide +kernel
theorem dL_out_16 : decode cL_out 16 = .ok (.ireturn, 1) := by decide +kernel
theorem dL_decimal_0 : decode cL_decimal 0 = .ok (.aload_n 2, 1) := by decide +kernel
theorem dL_decimal_1 : decode cL_decimal 1 = .ok (.iconst 0, 1) := by decide +kernel
theorem dL_decimal_2 : decode cL_decimal 2 = .ok (.aload_n 0, 1) := by decide +kernel
theorem dL_decimal_3 : decode cL_decimal 3 = .ok (.iload_n 1, 1) := by decide +kernel
theorem dL_decimal_4 : decode cL_decimal 4 = .ok (.invokevirtual 47, 3) := by decide +kernel
theorem dL_decimal_7 : decode cL_decimal 7 = .ok (.i2l, 1) := by decide +kernel
theorem dL_decimal_8 : decode cL_decimal 8 = .ok (.lastore, 1) := by decide +kernel
theorem dL_decimal_9 : decode cL_decimal 9 = .ok (.goto 6, 3) := by decide +kernel
theorem dL_decimal_12 : decode cL_decimal 12 = .ok (.astore_n 3, 1) := by decide +kernel
theorem dL_decimal_13 : decode cL_decimal 13 = .ok (.iconst 1, 1) := by decide +kernel
theorem dL_decimal_14 : decode cL_decimal 14 = .ok (.ireturn, 1) := by decide +kernel
theorem dL_decimal_15 : decode cL_decimal 15 = .ok (.iconst 0, 1) := by decide +kernel
theorem dL_decimal_16 : decode cL_decimal 16 = .ok (.ireturn, 1) := by decide +kernel
theorem dL_digit_0 : decode cL_digit 0 = .ok (.aload_n 2, 1) := by decide +kernel
theorem dL_digit_1 : decode cL_digit 1 = .ok (.iconst 0, 1) := by decide +kernel
theorem dL_digit_2 : decode cL_digit 2 = .ok (.aload_n 0, 1) := by decide +kernel
theorem dL_digit_3 : decode cL_digit 3 = .ok (.iload_n 1, 1) := by decide +kernel
theorem dL_digit_4 : decode cL_digit 4 = .ok (.invokevirtual 50, 3) := by decide +kernel
theorem dL_digit_7 : decode cL_digit 7 = .ok (.i2l, 1) := by decide +kernel
theorem dL_digit_8 : decode cL_digit 8 = .ok (.lastore, 1) := by decide +kernel
theorem dL_digit_9 : decode cL_digit 9 = .ok (.goto 6, 3) := by decide +kernel
theorem dL_digit_12 : decode cL_digit 12 = .ok (.astore_n 3, 1) := by decide +kernel
theorem dL_digit_13 : decode cL_digit 13 = .ok (.iconst 1, 1) := by decide +kernel
theorem dL_digit_14 : decode cL_digit 14 = .ok (.ireturn, 1) := by decide +kernel
theorem dL_digit_15 : decode cL_digit 15 = .ok (.iconst 0, 1) := by decide +kernel
theorem dL_digit_16 : decode cL_digit 16 = .ok (.ireturn, 1) := by decide +kernel
theorem dL_nearest_0 : decode cL_nearest 0 = .ok (.aload 6, 2) := by decide +kernel
theorem dL_nearest_2 : decode cL_nearest 2 = .ok (.iconst 0, 1) := by decide +kernel
theorem dL_nearest_3 : decode cL_nearest 3 = .ok (.aload_n 0, 1) := by decide +kernel
theorem dL_nearest_4 : decode cL_nearest 4 = .ok (.iload_n 1, 1) := by decide +kernel
theorem dL_nearest_5 : decode cL_nearest 5 = .ok (.lload_n 2, 1) := by decide +kernel
theorem dL_nearest_6 : decode cL_nearest 6 = .ok (.iload 4, 2) := by decide +kernel
theorem dL_nearest_8 : decode cL_nearest 8 = .ok (.iload 5, 2) := by decide +kernel
theorem dL_nearest_10 : decode cL_nearest 10 = .ok (.invokevirtual 53, 3) := by decide +kernel
theorem dL_nearest_13 : decode cL_nearest 13 = .ok (.lastore, 1) := by decide +kernel
theorem dL_nearest_14 : decode cL_nearest 14 = .ok (.goto 7, 3) := by decide +kernel
theorem dL_nearest_17 : decode cL_nearest 17 = .ok (.astore 7, 2) := by decide +kernel
theorem dL_nearest_19 : decode cL_nearest 19 = .ok (.iconst 1, 1) := by decide +kernel
theorem dL_nearest_20 : decode cL_nearest 20 = .ok (.ireturn, 1) := by decide +kernel
theorem dL_nearest_21 : decode cL_nearest 21 = .ok (.iconst 0, 1) := by decide +kernel
theorem dL_nearest_22 : decode cL_nearest 22 = .ok (.ireturn, 1) := by decide +kernel
theorem dL_power_0 : decode cL_power 0 = .ok (.aload 6, 2) := by decide +kernel
theorem dL_power_2 : decode cL_power 2 = .ok (.iconst 0, 1) := by decide +kernel
theorem dL_power_3 : decode cL_power 3 = .ok (.aload_n 0, 1) := by decide +kernel
theorem dL_power_4 : decode cL_power 4 = .ok (.iload_n 1, 1) := by decide +kernel
theorem dL_power_5 : decode cL_power 5 = .ok (.lload_n 2, 1) := by decide +kernel
theorem dL_power_6 : decode cL_power 6 = .ok (.iload 4, 2) := by decide +kernel
theorem dL_power_8 : decode cL_power 8 = .ok (.iload 5, 2) := by decide +kernel
theorem dL_power_10 : decode cL_power 10 = .ok (.invokevirtual 57, 3) := by decide +kernel
theorem dL_power_13 : decode cL_power 13 = .ok (.lastore, 1) := by decide +kernel
theorem dL_power_14 : decode cL_power 14 = .ok (.goto 7, 3) := by decide +kernel
theorem dL_power_17 : decode cL_power 17 = .ok (.astore 7, 2) := by decide +kernel
theorem dL_power_19 : decode cL_power 19 = .ok (.iconst 1, 1) := by decide +kernel
theorem dL_power_20 : decode cL_power 20 = .ok (.ireturn, 1) := by decide +kernel
theorem dL_power_21 : decode cL_power 21 = .ok (.iconst 0, 1) := by decide +kernel
theorem dL_power_22 : decode cL_power 22 = .ok (.ireturn, 1) := by decide +kernel
theorem dL_convert_0 : decode cL_convert 0 = .ok (.aload 6, 2) := by decide +kernel
theorem dL_convert_2 : decode cL_convert 2 = .ok (.iconst 0, 1) := by decide +kernel
theorem dL_convert_3 : decode cL_convert 3 = .ok (.aload_n 0, 1) := by decide +kernel
theorem dL_convert_4 : decode cL_convert 4 = .ok (.iload_n 1, 1) := by decide +kernel
theorem dL_convert_5 : decode cL_convert 5 = .ok (.lload_n 2, 1) := by decide +kernel
theorem dL_convert_6 : decode cL_convert 6 = .ok (.iload 4, 2) := by decide +kernel
theorem dL_convert_8 : decode cL_convert 8 = .ok (.iload 5, 2) := by decide +kernel
theorem dL_convert_10 : decode cL_convert 10 = .ok (.invokevirtual 60, 3) := by decide +kernel
theorem dL_convert_13 : decode cL_convert 13 = .ok (.lastore, 1) := by decide +kernel
theorem dL_convert_14 : decode cL_convert 14 = .ok (.goto 7, 3) := by decide +kernel
theorem dL_convert_17 : decode cL_convert 17 = .ok (.astore 7, 2) := by decide +kernel
theorem dL_convert_19 : decode cL_convert 19 = .ok (.iconst 1, 1) := by decide +kernel
theorem dL_convert_20 : decode cL_convert 20 = .ok (.ireturn, 1) := by decide +kernel
theorem dL_convert_21 : decode cL_convert 21 = .ok (.iconst 0, 1) := by decide +kernel
theorem dL_convert_22 : decode cL_convert 22 = .ok (.ireturn, 1) := by decide +kernel
theorem dL_next_0 : decode cL_next 0 = .ok (.aload 5, 2) := by decide +kernel
theorem dL_next_2 : decode cL_next 2 = .ok (.iconst 0, 1) := by decide +kernel
theorem dL_next_3 : decode cL_next 3 = .ok (.aload_n 0, 1) := by decide +kernel
theorem dL_next_4 : decode cL_next 4 = .ok (.iload_n 1, 1) := by decide +kernel
theorem dL_next_5 : decode cL_next 5 = .ok (.lload_n 2, 1) := by decide +kernel
theorem dL_next_6 : decode cL_next 6 = .ok (.iload 4, 2) := by decide +kernel
theorem dL_next_8 : decode cL_next 8 = .ok (.invokevirtual 63, 3) := by decide +kernel
theorem dL_next_11 : decode cL_next 11 = .ok (.lastore, 1) := by decide +kernel
theorem dL_next_12 : decode cL_next 12 = .ok (.goto 7, 3) := by decide +kernel
theorem dL_next_15 : decode cL_next 15 = .ok (.astore 6, 2) := by decide +kernel
theorem dL_next_17 : decode cL_next 17 = .ok (.iconst 1, 1) := by decide +kernel
theorem dL_next_18 : decode cL_next 18 = .ok (.ireturn, 1) := by decide +kernel
theorem dL_next_19 : decode cL_next 19 = .ok (.iconst 0, 1) := by decide +kernel
theorem dL_next_20 : decode cL_next 20 = .ok (.ireturn, 1) := by decide +kernel
theorem dL_steps_0 : decode cL_steps 0 = .ok (.aload 6, 2) := by decide +kernel
theorem dL_steps_2 : decode cL_steps 2 = .ok (.iconst 0, 1) := by decide +kernel
theorem dL_steps_3 : decode cL_steps 3 = .ok (.aload_n 0, 1) := by decide +kernel
theorem dL_steps_4 : decode cL_steps 4 = .ok (.iload_n 1, 1) := by decide +kernel
theorem dL_steps_5 : decode cL_steps 5 = .ok (.lload_n 2, 1) := by decide +kernel
theorem dL_steps_6 : decode cL_steps 6 = .ok (.lload 4, 2) := by decide +kernel
theorem dL_steps_8 : decode cL_steps 8 = .ok (.invokevirtual 67, 3) := by decide +kernel
theorem dL_steps_11 : decode cL_steps 11 = .ok (.lastore, 1) := by decide +kernel
theorem dL_steps_12 : decode cL_steps 12 = .ok (.goto 7, 3) := by decide +kernel
theorem dL_steps_15 : decode cL_steps 15 = .ok (.astore 7, 2) := by decide +kernel
theorem dL_steps_17 : decode cL_steps 17 = .ok (.iconst 1, 1) := by decide +kernel
theorem dL_steps_18 : decode cL_steps 18 = .ok (.ireturn, 1) := by decide +kernel
theorem dL_steps_19 : decode cL_steps 19 = .ok (.iconst 0, 1) := by decide +kernel
theorem dL_steps_20 : decode cL_steps 20 = .ok (.ireturn, 1) := by decide +kernel
theorem dL_compare_0 : decode cL_compare 0 = .ok (.aload 6, 2) := by decide +kernel
theorem dL_compare_2 : decode cL_compare 2 = .ok (.iconst 0, 1) := by decide +kernel
theorem dL_compare_3 : decode cL_compare 3 = .ok (.aload_n 0, 1) := by decide +kernel
theorem dL_compare_4 : decode cL_compare 4 = .ok (.iload_n 1, 1) := by decide +kernel
theorem dL_compare_5 : decode cL_compare 5 = .ok (.lload_n 2, 1) := by decide +kernel
theorem dL_compare_6 : decode cL_compare 6 = .ok (.lload 4, 2) := by decide +kernel
theorem dL_compare_8 : decode cL_compare 8 = .ok (.invokevirtual 71, 3) := by decide +kernel
theorem dL_compare_11 : decode cL_compare 11 = .ok (.i2l, 1) := by decide +kernel
theorem dL_compare_12 : decode cL_compare 12 = .ok (.lastore, 1) := by decide +kernel
theorem dL_compare_13 : decode cL_compare 13 = .ok (.goto 7, 3) := by decide +kernel
theorem dL_compare_16 : decode cL_compare 16 = .ok (.astore 7, 2) := by decide +kernel
theorem dL_compare_18 : decode cL_compare 18 = .ok (.iconst 1, 1) := by decide +kernel
theorem dL_compare_19 : decode cL_compare 19 = .ok (.ireturn, 1) := by decide +kernel
theorem dL_compare_20 : decode cL_compare 20 = .ok (.iconst 0, 1) := by decide +kernel
theorem dL_compare_21 : decode cL_compare 21 = .ok (.ireturn, 1) := by decide +kernel
theorem dL_order_0 : decode cL_order 0 = .ok (.aload 6, 2) := by decide +kernel
theorem dL_order_2 : decode cL_order 2 = .ok (.iconst 0, 1) := by decide +kernel
theorem dL_order_3 : decode cL_order 3 = .ok (.aload_n 0, 1) := by decide +kernel
theorem dL_order_4 : decode cL_order 4 = .ok (.iload_n 1, 1) := by decide +kernel
theorem dL_order_5 : decode cL_order 5 = .ok (.lload_n 2, 1) := by decide +kernel
theorem dL_order_6 : decode cL_order 6 = .ok (.lload 4, 2) := by decide +kernel
theorem dL_order_8 : decode cL_order 8 = .ok (.invokevirtual 75, 3) := by decide +kernel
theorem dL_order_11 : decode cL_order 11 = .ok (.i2l, 1) := by decide +kernel
theorem dL_order_12 : decode cL_order 12 = .ok (.lastore, 1) := by decide +kernel
theorem dL_order_13 : decode cL_order 13 = .ok (.goto 7, 3) := by decide +kernel
theorem dL_order_16 : decode cL_order 16 = .ok (.astore 7, 2) := by decide +kernel
theorem dL_order_18 : decode cL_order 18 = .ok (.iconst 1, 1) := by decide +kernel
theorem dL_order_19 : decode cL_order 19 = .ok (.ireturn, 1) := by decide +kernel
theorem dL_order_20 : decode cL_order 20 = .ok (.iconst 0, 1) := by decide +kernel
theorem dL_order_21 : decode cL_order 21 = .ok (.ireturn, 1) := by decide +kernel
theorem dL_kind_0 : decode cL_kind 0 = .ok (.aload 4, 2) := by decide +kernel
theorem dL_kind_2 : decode cL_kind 2 = .ok (.iconst 0, 1) := by decide +kernel
theorem dL_kind_3 : decode cL_kind 3 = .ok (.aload_n 0, 1) := by decide +kernel
theorem dL_kind_4 : decode cL_kind 4 = .ok (.iload_n 1, 1) := by decide +kernel
theorem dL_kind_5 : decode cL_kind 5 = .ok (.lload_n 2, 1) := by decide +kernel
theorem dL_kind_6 : decode cL_kind 6 = .ok (.invokevirtual 78, 3) := by decide +kernel
theorem dL_kind_9 : decode cL_kind 9 = .ok (.i2l, 1) := by decide +kernel
theorem dL_kind_10 : decode cL_kind 10 = .ok (.lastore, 1) := by decide +kernel
theorem dL_kind_11 : decode cL_kind 11 = .ok (.goto 7, 3) := by decide +kernel
theorem dL_kind_14 : decode cL_kind 14 = .ok (.astore 5, 2) := by decide +kernel
theorem dL_kind_16 : decode cL_kind 16 = .ok (.iconst 1, 1) := by decide +kernel
theorem dL_kind_17 : decode cL_kind 17 = .ok (.ireturn, 1) := by decide +kernel
theorem dL_kind_18 : decode cL_kind 18 = .ok (.iconst 0, 1) := by decide +kernel
theorem dL_kind_19 : decode cL_kind 19 = .ok (.ireturn, 1) := by decide +kernel
theorem dL_reads_0 : decode cL_reads 0 = .ok (.aload 7, 2) := by decide +kernel
theorem dL_reads_2 : decode cL_reads 2 = .ok (.iconst 0, 1) := by decide +kernel
theorem dL_reads_3 : decode cL_reads 3 = .ok (.aload_n 0, 1) := by decide +kernel
theorem dL_reads_4 : decode cL_reads 4 = .ok (.iload_n 1, 1) := by decide +kernel
theorem dL_reads_5 : decode cL_reads 5 = .ok (.lload_n 2, 1) := by decide +kernel
theorem dL_reads_6 : decode cL_reads 6 = .ok (.lload 4, 2) := by decide +kernel
theorem dL_reads_8 : decode cL_reads 8 = .ok (.iload 6, 2) := by decide +kernel
theorem dL_reads_10 : decode cL_reads 10 = .ok (.invokevirtual 81, 3) := by decide +kernel
theorem dL_reads_13 : decode cL_reads 13 = .ok (.ifCond .eq 7, 3) := by decide +kernel
theorem dL_reads_16 : decode cL_reads 16 = .ok (.lconst 1, 1) := by decide +kernel
theorem dL_reads_17 : decode cL_reads 17 = .ok (.goto 4, 3) := by decide +kernel
theorem dL_reads_20 : decode cL_reads 20 = .ok (.lconst 0, 1) := by decide +kernel
theorem dL_reads_21 : decode cL_reads 21 = .ok (.lastore, 1) := by decide +kernel
theorem dL_reads_22 : decode cL_reads 22 = .ok (.goto 7, 3) := by decide +kernel
theorem dL_reads_25 : decode cL_reads 25 = .ok (.astore 8, 2) := by decide +kernel
theorem dL_reads_27 : decode cL_reads 27 = .ok (.iconst 1, 1) := by decide +kernel
theorem dL_reads_28 : decode cL_reads 28 = .ok (.ireturn, 1) := by decide +kernel
theorem dL_reads_29 : decode cL_reads 29 = .ok (.iconst 0, 1) := by decide +kernel
theorem dL_reads_30 : decode cL_reads 30 = .ok (.ireturn, 1) := by decide +kernel
theorem dL_holds_0 : decode cL_holds 0 = .ok (.aload 4, 2) := by decide +kernel
theorem dL_holds_2 : decode cL_holds 2 = .ok (.iconst 0, 1) := by decide +kernel
theorem dL_holds_3 : decode cL_holds 3 = .ok (.aload_n 0, 1) := by decide +kernel
theorem dL_holds_4 : decode cL_holds 4 = .ok (.iload_n 1, 1) := by decide +kernel
theorem dL_holds_5 : decode cL_holds 5 = .ok (.lload_n 2, 1) := by decide +kernel
theorem dL_holds_6 : decode cL_holds 6 = .ok (.invokevirtual 85, 3) := by decide +kernel
theorem dL_holds_9 : decode cL_holds 9 = .ok (.ifCond .eq 7, 3) := by decide +kernel
theorem dL_holds_12 : decode cL_holds 12 = .ok (.lconst 1, 1) := by decide +kernel
theorem dL_holds_13 : decode cL_holds 13 = .ok (.goto 4, 3) := by decide +kernel
theorem dL_holds_16 : decode cL_holds 16 = .ok (.lconst 0, 1) := by decide +kernel
theorem dL_holds_17 : decode cL_holds 17 = .ok (.lastore, 1) := by decide +kernel
theorem dL_holds_18 : decode cL_holds 18 = .ok (.goto 7, 3) := by decide +kernel
theorem dL_holds_21 : decode cL_holds 21 = .ok (.astore 5, 2) := by decide +kernel
theorem dL_holds_23 : decode cL_holds 23 = .ok (.iconst 1, 1) := by decide +kernel
theorem dL_holds_24 : decode cL_holds 24 = .ok (.ireturn, 1) := by decide +kernel
theorem dL_holds_25 : decode cL_holds 25 = .ok (.iconst 0, 1) := by decide +kernel
theorem dL_holds_26 : decode cL_holds 26 = .ok (.ireturn, 1) := by decide +kernel
