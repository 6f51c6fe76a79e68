theorem lM_0 : Cond.constantLong RL 93 4294967295 ∈ gws := gws_of 1395 (by decide +kernel) (by decide +kernel)
theorem lM_1 : Cond.methodLink RL 95 yL_type ∈ gws := gws_of 260 (by decide +kernel) (by decide +kernel)
theorem lM_2 : Cond.methodLink RL 100 yX7_type ∈ gws := gws_of 1071 (by decide +kernel) (by decide +kernel)
theorem lM_3 : Cond.code yX7_type cX7_type 5 (some .int) ∈ gws := gws_of 1074 (by decide +kernel) (by decide +kernel)
theorem lM_4 : Cond.initialized yX7_type.cls ∈ gws := gws_of 63 (by decide +kernel) (by decide +kernel)
theorem lM_5 : Cond.instanceMethod yX7_type ∈ gws := gws_of 1072 (by decide +kernel) (by decide +kernel)
theorem lM_6 : Cond.selects yX7_type.cls yX7_type yX7_type ∈ gws := gws_of 1073 (by decide +kernel) (by decide +kernel)
theorem wvM_X7_type : Wv yX7_type cX7_type 5 (some .int) 2 := ⟨⟨lM_5, lM_6, lM_4, lM_3⟩, ⟨rfl, by decide, by decide, by decide +kernel⟩, by decide⟩
theorem lM_7 : Cond.methodLink RL 101 yX7_thrown ∈ gws := gws_of 1067 (by decide +kernel) (by decide +kernel)
theorem lM_8 : Cond.code yX7_thrown cX7_thrown 1 (some .int) ∈ gws := gws_of 1070 (by decide +kernel) (by decide +kernel)
theorem lM_9 : Cond.initialized yX7_thrown.cls ∈ gws := gws_of 63 (by decide +kernel) (by decide +kernel)
theorem lM_10 : Cond.instanceMethod yX7_thrown ∈ gws := gws_of 1068 (by decide +kernel) (by decide +kernel)
theorem lM_11 : Cond.selects yX7_thrown.cls yX7_thrown yX7_thrown ∈ gws := gws_of 1069 (by decide +kernel) (by decide +kernel)
theorem wvM_X7_thrown : Wv yX7_thrown cX7_thrown 1 (some .int) 0 := ⟨⟨lM_10, lM_11, lM_9, lM_8⟩, ⟨rfl, by decide, by decide, by decide +kernel⟩, by decide⟩
theorem lM_12 : Cond.methodLink RL 105 yX6_pass ∈ gws := gws_of 232 (by decide +kernel) (by decide +kernel)
theorem lM_13 : Cond.code yX6_pass cX6_pass 2 (some .int) ∈ gws := gws_of 235 (by decide +kernel) (by decide +kernel)
theorem lM_14 : Cond.initialized yX6_pass.cls ∈ gws := gws_of 56 (by decide +kernel) (by decide +kernel)
theorem lM_15 : Cond.instanceMethod yX6_pass ∈ gws := gws_of 233 (by decide +kernel) (by decide +kernel)
theorem lM_16 : Cond.selects yX6_pass.cls yX6_pass yX6_pass ∈ gws := gws_of 234 (by decide +kernel) (by decide +kernel)
theorem wvM_X6_pass : Wv yX6_pass cX6_pass 2 (some .int) 0 := ⟨⟨lM_15, lM_16, lM_14, lM_13⟩, ⟨rfl, by decide, by decide, by decide +kernel⟩, by decide⟩
theorem lM_17 : Cond.methodLink RL 108 yX7_pass ∈ gws := gws_of 1084 (by decide +kernel) (by decide +kernel)
theorem lM_18 : Cond.code yX7_pass cX7_pass 2 (some .int) ∈ gws := gws_of 1087 (by decide +kernel) (by decide +kernel)
theorem lM_19 : Cond.initialized yX7_pass.cls ∈ gws := gws_of 63 (by decide +kernel) (by decide +kernel)
theorem lM_20 : Cond.instanceMethod yX7_pass ∈ gws := gws_of 1085 (by decide +kernel) (by decide +kernel)
theorem lM_21 : Cond.selects yX7_pass.cls yX7_pass yX7_pass ∈ gws := gws_of 1086 (by decide +kernel) (by decide +kernel)
theorem wvM_X7_pass : Wv yX7_pass cX7_pass 2 (some .int) 0 := ⟨⟨lM_20, lM_21, lM_19, lM_18⟩, ⟨rfl, by decide, by decide, by decide +kernel⟩, by decide⟩
theorem lM_22 : Cond.methodLink RL 109 yX6_clear ∈ gws := gws_of 248 (by decide +kernel) (by decide +kernel)
theorem lM_23 : Cond.code yX6_clear cX6_clear 2 (some .int) ∈ gws := gws_of 251 (by decide +kernel) (by decide +kernel)
theorem lM_24 : Cond.initialized yX6_clear.cls ∈ gws := gws_of 56 (by decide +kernel) (by decide +kernel)
theorem lM_25 : Cond.instanceMethod yX6_clear ∈ gws := gws_of 249 (by decide +kernel) (by decide +kernel)
theorem lM_26 : Cond.selects yX6_clear.cls yX6_clear yX6_clear ∈ gws := gws_of 250 (by decide +kernel) (by decide +kernel)
theorem wvM_X6_clear : Wv yX6_clear cX6_clear 2 (some .int) 0 := ⟨⟨lM_25, lM_26, lM_24, lM_23⟩, ⟨rfl, by decide, by decide, by decide +kernel⟩, by decide⟩
theorem lM_27 : Cond.methodLink RL 112 yX7_clear ∈ gws := gws_of 1088 (by decide +kernel) (by decide +kernel)
theorem lM_28 : Cond.code yX7_clear cX7_clear 2 (some .int) ∈ gws := gws_of 1091 (by decide +kernel) (by decide +kernel)
theorem lM_29 : Cond.initialized yX7_clear.cls ∈ gws := gws_of 63 (by decide +kernel) (by decide +kernel)
theorem lM_30 : Cond.instanceMethod yX7_clear ∈ gws := gws_of 1089 (by decide +kernel) (by decide +kernel)
theorem lM_31 : Cond.selects yX7_clear.cls yX7_clear yX7_clear ∈ gws := gws_of 1090 (by decide +kernel) (by decide +kernel)
theorem wvM_X7_clear : Wv yX7_clear cX7_clear 2 (some .int) 0 := ⟨⟨lM_30, lM_31, lM_29, lM_28⟩, ⟨rfl, by decide, by decide, by decide +kernel⟩, by decide⟩
theorem lM_32 : Cond.methodLink RL 113 yL_read ∈ gws := gws_of 335 (by decide +kernel) (by decide +kernel)
theorem lM_33 : Cond.methodLink RL 116 yX7_read ∈ gws := gws_of 1092 (by decide +kernel) (by decide +kernel)
theorem lM_34 : Cond.code yX7_read cX7_read 8 (some .int) ∈ gws := gws_of 1095 (by decide +kernel) (by decide +kernel)
theorem lM_35 : Cond.initialized yX7_read.cls ∈ gws := gws_of 63 (by decide +kernel) (by decide +kernel)
theorem lM_36 : Cond.instanceMethod yX7_read ∈ gws := gws_of 1093 (by decide +kernel) (by decide +kernel)
theorem lM_37 : Cond.selects yX7_read.cls yX7_read yX7_read ∈ gws := gws_of 1094 (by decide +kernel) (by decide +kernel)
theorem wvM_X7_read : Wv yX7_read cX7_read 8 (some .int) 2 := ⟨⟨lM_36, lM_37, lM_35, lM_34⟩, ⟨rfl, by decide, by decide, by decide +kernel⟩, by decide⟩
theorem lM_38 : Cond.methodLink RL 117 yX6_result ∈ gws := gws_of 252 (by decide +kernel) (by decide +kernel)
theorem lM_39 : Cond.code yX6_result cX6_result 1 (some .long) ∈ gws := gws_of 255 (by decide +kernel) (by decide +kernel)
theorem lM_40 : Cond.initialized yX6_result.cls ∈ gws := gws_of 56 (by decide +kernel) (by decide +kernel)
theorem lM_41 : Cond.instanceMethod yX6_result ∈ gws := gws_of 253 (by decide +kernel) (by decide +kernel)
theorem lM_42 : Cond.selects yX6_result.cls yX6_result yX6_result ∈ gws := gws_of 254 (by decide +kernel) (by decide +kernel)
theorem wvM_X6_result : Wv yX6_result cX6_result 1 (some .long) 0 := ⟨⟨lM_41, lM_42, lM_40, lM_39⟩, ⟨rfl, by decide, by decide, by decide +kernel⟩, by decide⟩
theorem lM_43 : Cond.methodLink RL 121 yX7_result ∈ gws := gws_of 1212 (by decide +kernel) (by decide +kernel)
theorem lM_44 : Cond.code yX7_result cX7_result 1 (some .long) ∈ gws := gws_of 1215 (by decide +kernel) (by decide +kernel)
theorem lM_45 : Cond.initialized yX7_result.cls ∈ gws := gws_of 63 (by decide +kernel) (by decide +kernel)
theorem lM_46 : Cond.instanceMethod yX7_result ∈ gws := gws_of 1213 (by decide +kernel) (by decide +kernel)
theorem lM_47 : Cond.selects yX7_result.cls yX7_result yX7_result ∈ gws := gws_of 1214 (by decide +kernel) (by decide +kernel)
theorem wvM_X7_result : Wv yX7_result cX7_result 1 (some .long) 0 := ⟨⟨lM_46, lM_47, lM_45, lM_44⟩, ⟨rfl, by decide, by decide, by decide +kernel⟩, by decide⟩
theorem lM_48 : Cond.methodLink RL 122 yX6_flags ∈ gws := gws_of 256 (by decide +kernel) (by decide +kernel)
theorem lM_49 : Cond.code yX6_flags cX6_flags 1 (some .int) ∈ gws := gws_of 259 (by decide +kernel) (by decide +kernel)
theorem lM_50 : Cond.initialized yX6_flags.cls ∈ gws := gws_of 56 (by decide +kernel) (by decide +kernel)
theorem lM_51 : Cond.instanceMethod yX6_flags ∈ gws := gws_of 257 (by decide +kernel) (by decide +kernel)
theorem lM_52 : Cond.selects yX6_flags.cls yX6_flags yX6_flags ∈ gws := gws_of 258 (by decide +kernel) (by decide +kernel)
theorem wvM_X6_flags : Wv yX6_flags cX6_flags 1 (some .int) 0 := ⟨⟨lM_51, lM_52, lM_50, lM_49⟩, ⟨rfl, by decide, by decide, by decide +kernel⟩, by decide⟩
theorem lM_53 : Cond.methodLink RL 125 yX7_flags ∈ gws := gws_of 1216 (by decide +kernel) (by decide +kernel)
theorem lM_54 : Cond.code yX7_flags cX7_flags 1 (some .int) ∈ gws := gws_of 1219 (by decide +kernel) (by decide +kernel)
theorem lM_55 : Cond.initialized yX7_flags.cls ∈ gws := gws_of 63 (by decide +kernel) (by decide +kernel)
theorem lM_56 : Cond.instanceMethod yX7_flags ∈ gws := gws_of 1217 (by decide +kernel) (by decide +kernel)
theorem lM_57 : Cond.selects yX7_flags.cls yX7_flags yX7_flags ∈ gws := gws_of 1218 (by decide +kernel) (by decide +kernel)
theorem wvM_X7_flags : Wv yX7_flags cX7_flags 1 (some .int) 0 := ⟨⟨lM_56, lM_57, lM_55, lM_54⟩, ⟨rfl, by decide, by decide, by decide +kernel⟩, by decide⟩
theorem lM_58 : Cond.methodLink RL 126 yL_shortest ∈ gws := gws_of 611 (by decide +kernel) (by decide +kernel)
theorem lM_59 : Cond.methodLink RL 129 yX7_shortest ∈ gws := gws_of 1220 (by decide +kernel) (by decide +kernel)
theorem lM_60 : Cond.code yX7_shortest cX7_shortest 7 (some .int) ∈ gws := gws_of 1223 (by decide +kernel) (by decide +kernel)
theorem lM_61 : Cond.initialized yX7_shortest.cls ∈ gws := gws_of 63 (by decide +kernel) (by decide +kernel)
theorem lM_62 : Cond.instanceMethod yX7_shortest ∈ gws := gws_of 1221 (by decide +kernel) (by decide +kernel)
theorem lM_63 : Cond.selects yX7_shortest.cls yX7_shortest yX7_shortest ∈ gws := gws_of 1222 (by decide +kernel) (by decide +kernel)
theorem wvM_X7_shortest : Wv yX7_shortest cX7_shortest 7 (some .int) 3 := ⟨⟨lM_62, lM_63, lM_61, lM_60⟩, ⟨rfl, by decide, by decide, by decide +kernel⟩, by decide⟩
theorem lM_64 : Cond.methodLink RL 130 yL_exact ∈ gws := gws_of 781 (by decide +kernel) (by decide +kernel)
theorem lM_65 : Cond.methodLink RL 132 yX7_exact ∈ gws := gws_of 1295 (by decide +kernel) (by decide +kernel)
theorem lM_66 : Cond.code yX7_exact cX7_exact 7 (some .int) ∈ gws := gws_of 1298 (by decide +kernel) (by decide +kernel)
theorem lM_67 : Cond.initialized yX7_exact.cls ∈ gws := gws_of 63 (by decide +kernel) (by decide +kernel)
theorem lM_68 : Cond.instanceMethod yX7_exact ∈ gws := gws_of 1296 (by decide +kernel) (by decide +kernel)
theorem lM_69 : Cond.selects yX7_exact.cls yX7_exact yX7_exact ∈ gws := gws_of 1297 (by decide +kernel) (by decide +kernel)
theorem wvM_X7_exact : Wv yX7_exact cX7_exact 7 (some .int) 3 := ⟨⟨lM_68, lM_69, lM_67, lM_66⟩, ⟨rfl, by decide, by decide, by decide +kernel⟩, by decide⟩
theorem lM_70 : Cond.methodLink RL 133 yL_middle ∈ gws := gws_of 792 (by decide +kernel) (by decide +kernel)
theorem lM_71 : Cond.methodLink RL 135 yX7_middle ∈ gws := gws_of 1299 (by decide +kernel) (by decide +kernel)
theorem lM_72 : Cond.code yX7_middle cX7_middle 5 (some .int) ∈ gws := gws_of 1302 (by decide +kernel) (by decide +kernel)
theorem lM_73 : Cond.initialized yX7_middle.cls ∈ gws := gws_of 63 (by decide +kernel) (by decide +kernel)
theorem lM_74 : Cond.instanceMethod yX7_middle ∈ gws := gws_of 1300 (by decide +kernel) (by decide +kernel)
theorem lM_75 : Cond.selects yX7_middle.cls yX7_middle yX7_middle ∈ gws := gws_of 1301 (by decide +kernel) (by decide +kernel)
theorem wvM_X7_middle : Wv yX7_middle cX7_middle 5 (some .int) 3 := ⟨⟨lM_74, lM_75, lM_73, lM_72⟩, ⟨rfl, by decide, by decide, by decide +kernel⟩, by decide⟩
theorem lM_76 : Cond.methodLink RL 136 yL_digits ∈ gws := gws_of 803 (by decide +kernel) (by decide +kernel)
theorem lM_77 : Cond.methodLink RL 139 yX7_digits ∈ gws := gws_of 1303 (by decide +kernel) (by decide +kernel)
theorem lM_78 : Cond.code yX7_digits cX7_digits 10 (some .int) ∈ gws := gws_of 1306 (by decide +kernel) (by decide +kernel)
theorem lM_79 : Cond.initialized yX7_digits.cls ∈ gws := gws_of 63 (by decide +kernel) (by decide +kernel)
theorem lM_80 : Cond.instanceMethod yX7_digits ∈ gws := gws_of 1304 (by decide +kernel) (by decide +kernel)
theorem lM_81 : Cond.selects yX7_digits.cls yX7_digits yX7_digits ∈ gws := gws_of 1305 (by decide +kernel) (by decide +kernel)
theorem wvM_X7_digits : Wv yX7_digits cX7_digits 10 (some .int) 5 := ⟨⟨lM_80, lM_81, lM_79, lM_78⟩, ⟨rfl, by decide, by decide, by decide +kernel⟩, by decide⟩
theorem lM_82 : Cond.methodLink RL 140 yL_fixed ∈ gws := gws_of 811 (by decide +kernel) (by decide +kernel)
theorem lM_83 : Cond.methodLink RL 143 yX7_fixed ∈ gws := gws_of 1311 (by decide +kernel) (by decide +kernel)
theorem lM_84 : Cond.code yX7_fixed cX7_fixed 12 (some .int) ∈ gws := gws_of 1314 (by decide +kernel) (by decide +kernel)
theorem lM_85 : Cond.initialized yX7_fixed.cls ∈ gws := gws_of 63 (by decide +kernel) (by decide +kernel)
theorem lM_86 : Cond.instanceMethod yX7_fixed ∈ gws := gws_of 1312 (by decide +kernel) (by decide +kernel)
theorem lM_87 : Cond.selects yX7_fixed.cls yX7_fixed yX7_fixed ∈ gws := gws_of 1313 (by decide +kernel) (by decide +kernel)
theorem wvM_X7_fixed : Wv yX7_fixed cX7_fixed 12 (some .int) 4 := ⟨⟨lM_86, lM_87, lM_85, lM_84⟩, ⟨rfl, by decide, by decide, by decide +kernel⟩, by decide⟩
theorem lM_88 : Cond.methodLink RL 144 yL_hex ∈ gws := gws_of 819 (by decide +kernel) (by decide +kernel)
theorem lM_89 : Cond.methodLink RL 147 yX7_hex ∈ gws := gws_of 1315 (by decide +kernel) (by decide +kernel)
theorem lM_90 : Cond.code yX7_hex cX7_hex 6 (some .int) ∈ gws := gws_of 1318 (by decide +kernel) (by decide +kernel)
theorem lM_91 : Cond.initialized yX7_hex.cls ∈ gws := gws_of 63 (by decide +kernel) (by decide +kernel)
theorem lM_92 : Cond.instanceMethod yX7_hex ∈ gws := gws_of 1316 (by decide +kernel) (by decide +kernel)
theorem lM_93 : Cond.selects yX7_hex.cls yX7_hex yX7_hex ∈ gws := gws_of 1317 (by decide +kernel) (by decide +kernel)
theorem wvM_X7_hex : Wv yX7_hex cX7_hex 6 (some .int) 2 := ⟨⟨lM_92, lM_93, lM_91, lM_90⟩, ⟨rfl, by decide, by decide, by decide +kernel⟩, by decide⟩
theorem lM_94 : Cond.methodLink RL 148 yL_out ∈ gws := gws_of 833 (by decide +kernel) (by decide +kernel)
theorem lM_95 : Cond.methodLink RL 151 yX7_out ∈ gws := gws_of 1325 (by decide +kernel) (by decide +kernel)
theorem lM_96 : Cond.code yX7_out cX7_out 2 (some .int) ∈ gws := gws_of 1328 (by decide +kernel) (by decide +kernel)
theorem lM_97 : Cond.initialized yX7_out.cls ∈ gws := gws_of 63 (by decide +kernel) (by decide +kernel)
theorem lM_98 : Cond.instanceMethod yX7_out ∈ gws := gws_of 1326 (by decide +kernel) (by decide +kernel)
theorem lM_99 : Cond.selects yX7_out.cls yX7_out yX7_out ∈ gws := gws_of 1327 (by decide +kernel) (by decide +kernel)
theorem wvM_X7_out : Wv yX7_out cX7_out 2 (some .int) 1 := ⟨⟨lM_98, lM_99, lM_97, lM_96⟩, ⟨rfl, by decide, by decide, by decide +kernel⟩, by decide⟩
theorem lM_100 : Cond.methodLink RL 152 yL_decimal ∈ gws := gws_of 857 (by decide +kernel) (by decide +kernel)
theorem lM_101 : Cond.methodLink RL 154 yX7_decimal ∈ gws := gws_of 1329 (by decide +kernel) (by decide +kernel)
theorem lM_102 : Cond.code yX7_decimal cX7_decimal 2 (some .int) ∈ gws := gws_of 1332 (by decide +kernel) (by decide +kernel)
theorem lM_103 : Cond.initialized yX7_decimal.cls ∈ gws := gws_of 63 (by decide +kernel) (by decide +kernel)
theorem lM_104 : Cond.instanceMethod yX7_decimal ∈ gws := gws_of 1330 (by decide +kernel) (by decide +kernel)
theorem lM_105 : Cond.selects yX7_decimal.cls yX7_decimal yX7_decimal ∈ gws := gws_of 1331 (by decide +kernel) (by decide +kernel)
theorem wvM_X7_decimal : Wv yX7_decimal cX7_decimal 2 (some .int) 1 := ⟨⟨lM_104, lM_105, lM_103, lM_102⟩, ⟨rfl, by decide, by decide, by decide +kernel⟩, by decide⟩
theorem lM_106 : Cond.methodLink RL 155 yL_digit ∈ gws := gws_of 865 (by decide +kernel) (by decide +kernel)
theorem lM_107 : Cond.methodLink RL 157 yX7_digit ∈ gws := gws_of 1333 (by decide +kernel) (by decide +kernel)
theorem lM_108 : Cond.code yX7_digit cX7_digit 2 (some .int) ∈ gws := gws_of 1336 (by decide +kernel) (by decide +kernel)
theorem lM_109 : Cond.initialized yX7_digit.cls ∈ gws := gws_of 63 (by decide +kernel) (by decide +kernel)
theorem lM_110 : Cond.instanceMethod yX7_digit ∈ gws := gws_of 1334 (by decide +kernel) (by decide +kernel)
theorem lM_111 : Cond.selects yX7_digit.cls yX7_digit yX7_digit ∈ gws := gws_of 1335 (by decide +kernel) (by decide +kernel)
theorem wvM_X7_digit : Wv yX7_digit cX7_digit 2 (some .int) 1 := ⟨⟨lM_110, lM_111, lM_109, lM_108⟩, ⟨rfl, by decide, by decide, by decide +kernel⟩, by decide⟩
theorem lM_112 : Cond.methodLink RL 158 yL_nearest ∈ gws := gws_of 874 (by decide +kernel) (by decide +kernel)
theorem lM_113 : Cond.methodLink RL 160 yX7_nearest ∈ gws := gws_of 1337 (by decide +kernel) (by decide +kernel)
theorem lM_114 : Cond.code yX7_nearest cX7_nearest 6 (some .long) ∈ gws := gws_of 1340 (by decide +kernel) (by decide +kernel)
theorem lM_115 : Cond.initialized yX7_nearest.cls ∈ gws := gws_of 63 (by decide +kernel) (by decide +kernel)
theorem lM_116 : Cond.instanceMethod yX7_nearest ∈ gws := gws_of 1338 (by decide +kernel) (by decide +kernel)
theorem lM_117 : Cond.selects yX7_nearest.cls yX7_nearest yX7_nearest ∈ gws := gws_of 1339 (by decide +kernel) (by decide +kernel)
theorem wvM_X7_nearest : Wv yX7_nearest cX7_nearest 6 (some .long) 4 := ⟨⟨lM_116, lM_117, lM_115, lM_114⟩, ⟨rfl, by decide, by decide, by decide +kernel⟩, by decide⟩
theorem lM_118 : Cond.methodLink RL 161 yL_power ∈ gws := gws_of 897 (by decide +kernel) (by decide +kernel)
theorem lM_119 : Cond.methodLink RL 163 yX7_power ∈ gws := gws_of 1354 (by decide +kernel) (by decide +kernel)
theorem lM_120 : Cond.code yX7_power cX7_power 6 (some .long) ∈ gws := gws_of 1357 (by decide +kernel) (by decide +kernel)
theorem lM_121 : Cond.initialized yX7_power.cls ∈ gws := gws_of 63 (by decide +kernel) (by decide +kernel)
theorem lM_122 : Cond.instanceMethod yX7_power ∈ gws := gws_of 1355 (by decide +kernel) (by decide +kernel)
theorem lM_123 : Cond.selects yX7_power.cls yX7_power yX7_power ∈ gws := gws_of 1356 (by decide +kernel) (by decide +kernel)
theorem wvM_X7_power : Wv yX7_power cX7_power 6 (some .long) 4 := ⟨⟨lM_122, lM_123, lM_121, lM_120⟩, ⟨rfl, by decide, by decide, by decide +kernel⟩, by decide⟩
theorem lM_124 : Cond.methodLink RL 164 yL_convert ∈ gws := gws_of 904 (by decide +kernel) (by decide +kernel)
theorem lM_125 : Cond.methodLink RL 166 yX7_convert ∈ gws := gws_of 1358 (by decide +kernel) (by decide +kernel)
theorem lM_126 : Cond.code yX7_convert cX7_convert 11 (some .long) ∈ gws := gws_of 1361 (by decide +kernel) (by decide +kernel)
theorem lM_127 : Cond.initialized yX7_convert.cls ∈ gws := gws_of 63 (by decide +kernel) (by decide +kernel)
theorem lM_128 : Cond.instanceMethod yX7_convert ∈ gws := gws_of 1359 (by decide +kernel) (by decide +kernel)
theorem lM_129 : Cond.selects yX7_convert.cls yX7_convert yX7_convert ∈ gws := gws_of 1360 (by decide +kernel) (by decide +kernel)
theorem wvM_X7_convert : Wv yX7_convert cX7_convert 11 (some .long) 4 := ⟨⟨lM_128, lM_129, lM_127, lM_126⟩, ⟨rfl, by decide, by decide, by decide +kernel⟩, by decide⟩
theorem lM_130 : Cond.methodLink RL 167 yL_next ∈ gws := gws_of 915 (by decide +kernel) (by decide +kernel)
theorem lM_131 : Cond.methodLink RL 170 yX7_next ∈ gws := gws_of 1362 (by decide +kernel) (by decide +kernel)
theorem lM_132 : Cond.code yX7_next cX7_next 8 (some .long) ∈ gws := gws_of 1365 (by decide +kernel) (by decide +kernel)
theorem lM_133 : Cond.initialized yX7_next.cls ∈ gws := gws_of 63 (by decide +kernel) (by decide +kernel)
theorem lM_134 : Cond.instanceMethod yX7_next ∈ gws := gws_of 1363 (by decide +kernel) (by decide +kernel)
theorem lM_135 : Cond.selects yX7_next.cls yX7_next yX7_next ∈ gws := gws_of 1364 (by decide +kernel) (by decide +kernel)
theorem wvM_X7_next : Wv yX7_next cX7_next 8 (some .long) 3 := ⟨⟨lM_134, lM_135, lM_133, lM_132⟩, ⟨rfl, by decide, by decide, by decide +kernel⟩, by decide⟩
theorem lM_136 : Cond.methodLink RL 171 yL_steps ∈ gws := gws_of 926 (by decide +kernel) (by decide +kernel)
theorem lM_137 : Cond.methodLink RL 174 yX7_steps ∈ gws := gws_of 1366 (by decide +kernel) (by decide +kernel)
theorem lM_138 : Cond.code yX7_steps cX7_steps 13 (some .long) ∈ gws := gws_of 1369 (by decide +kernel) (by decide +kernel)
theorem lM_139 : Cond.initialized yX7_steps.cls ∈ gws := gws_of 63 (by decide +kernel) (by decide +kernel)
theorem lM_140 : Cond.instanceMethod yX7_steps ∈ gws := gws_of 1367 (by decide +kernel) (by decide +kernel)
theorem lM_141 : Cond.selects yX7_steps.cls yX7_steps yX7_steps ∈ gws := gws_of 1368 (by decide +kernel) (by decide +kernel)
theorem wvM_X7_steps : Wv yX7_steps cX7_steps 13 (some .long) 3 := ⟨⟨lM_140, lM_141, lM_139, lM_138⟩, ⟨rfl, by decide, by decide, by decide +kernel⟩, by decide⟩
theorem lM_142 : Cond.methodLink RL 175 yL_compare ∈ gws := gws_of 941 (by decide +kernel) (by decide +kernel)
theorem lM_143 : Cond.methodLink RL 177 yX7_compare ∈ gws := gws_of 1375 (by decide +kernel) (by decide +kernel)
theorem lM_144 : Cond.code yX7_compare cX7_compare 10 (some .int) ∈ gws := gws_of 1378 (by decide +kernel) (by decide +kernel)
theorem lM_145 : Cond.initialized yX7_compare.cls ∈ gws := gws_of 63 (by decide +kernel) (by decide +kernel)
theorem lM_146 : Cond.instanceMethod yX7_compare ∈ gws := gws_of 1376 (by decide +kernel) (by decide +kernel)
theorem lM_147 : Cond.selects yX7_compare.cls yX7_compare yX7_compare ∈ gws := gws_of 1377 (by decide +kernel) (by decide +kernel)
theorem wvM_X7_compare : Wv yX7_compare cX7_compare 10 (some .int) 3 := ⟨⟨lM_146, lM_147, lM_145, lM_144⟩, ⟨rfl, by decide, by decide, by decide +kernel⟩, by decide⟩
theorem lM_148 : Cond.methodLink RL 178 yL_order ∈ gws := gws_of 951 (by decide +kernel) (by decide +kernel)
theorem lM_149 : Cond.methodLink RL 180 yX7_order ∈ gws := gws_of 1379 (by decide +kernel) (by decide +kernel)
theorem lM_150 : Cond.code yX7_order cX7_order 12 (some .int) ∈ gws := gws_of 1382 (by decide +kernel) (by decide +kernel)
theorem lM_151 : Cond.initialized yX7_order.cls ∈ gws := gws_of 63 (by decide +kernel) (by decide +kernel)
theorem lM_152 : Cond.instanceMethod yX7_order ∈ gws := gws_of 1380 (by decide +kernel) (by decide +kernel)
theorem lM_153 : Cond.selects yX7_order.cls yX7_order yX7_order ∈ gws := gws_of 1381 (by decide +kernel) (by decide +kernel)
theorem wvM_X7_order : Wv yX7_order cX7_order 12 (some .int) 3 := ⟨⟨lM_152, lM_153, lM_151, lM_150⟩, ⟨rfl, by decide, by decide, by decide +kernel⟩, by decide⟩
theorem lM_154 : Cond.methodLink RL 181 yL_kind ∈ gws := gws_of 958 (by decide +kernel) (by decide +kernel)
theorem lM_155 : Cond.methodLink RL 183 yX7_kind ∈ gws := gws_of 1383 (by decide +kernel) (by decide +kernel)
theorem lM_156 : Cond.code yX7_kind cX7_kind 6 (some .int) ∈ gws := gws_of 1386 (by decide +kernel) (by decide +kernel)
theorem lM_157 : Cond.initialized yX7_kind.cls ∈ gws := gws_of 63 (by decide +kernel) (by decide +kernel)
theorem lM_158 : Cond.instanceMethod yX7_kind ∈ gws := gws_of 1384 (by decide +kernel) (by decide +kernel)
theorem lM_159 : Cond.selects yX7_kind.cls yX7_kind yX7_kind ∈ gws := gws_of 1385 (by decide +kernel) (by decide +kernel)
theorem wvM_X7_kind : Wv yX7_kind cX7_kind 6 (some .int) 2 := ⟨⟨lM_158, lM_159, lM_157, lM_156⟩, ⟨rfl, by decide, by decide, by decide +kernel⟩, by decide⟩
theorem lM_160 : Cond.methodLink RL 184 yL_reads ∈ gws := gws_of 966 (by decide +kernel) (by decide +kernel)
theorem lM_161 : Cond.methodLink RL 187 yX7_reads ∈ gws := gws_of 1387 (by decide +kernel) (by decide +kernel)
theorem lM_162 : Cond.code yX7_reads cX7_reads 7 (some .boolean) ∈ gws := gws_of 1390 (by decide +kernel) (by decide +kernel)
theorem lM_163 : Cond.initialized yX7_reads.cls ∈ gws := gws_of 63 (by decide +kernel) (by decide +kernel)
theorem lM_164 : Cond.instanceMethod yX7_reads ∈ gws := gws_of 1388 (by decide +kernel) (by decide +kernel)
theorem lM_165 : Cond.selects yX7_reads.cls yX7_reads yX7_reads ∈ gws := gws_of 1389 (by decide +kernel) (by decide +kernel)
theorem wvM_X7_reads : Wv yX7_reads cX7_reads 7 (some .boolean) 4 := ⟨⟨lM_164, lM_165, lM_163, lM_162⟩, ⟨rfl, by decide, by decide, by decide +kernel⟩, by decide⟩
theorem lM_166 : Cond.methodLink RL 188 yL_holds ∈ gws := gws_of 973 (by decide +kernel) (by decide +kernel)
theorem lM_167 : Cond.methodLink RL 190 yX7_holds ∈ gws := gws_of 1391 (by decide +kernel) (by decide +kernel)
theorem lM_168 : Cond.code yX7_holds cX7_holds 4 (some .boolean) ∈ gws := gws_of 1394 (by decide +kernel) (by decide +kernel)
theorem lM_169 : Cond.initialized yX7_holds.cls ∈ gws := gws_of 63 (by decide +kernel) (by decide +kernel)
theorem lM_170 : Cond.instanceMethod yX7_holds ∈ gws := gws_of 1392 (by decide +kernel) (by decide +kernel)
theorem lM_171 : Cond.selects yX7_holds.cls yX7_holds yX7_holds ∈ gws := gws_of 1393 (by decide +kernel) (by decide +kernel)
theorem wvM_X7_holds : Wv yX7_holds cX7_holds 4 (some .boolean) 2 := ⟨⟨lM_170, lM_171, lM_169, lM_168⟩, ⟨rfl, by decide, by decide, by decide +kernel⟩, by decide⟩
/-! The law's loop: what the class and the reference must have in common, call by call; and the walk of a turn. -/
def Agr (Inv : CS → MS → Prop) (cl : CS → Option (Unit ⊕ (Int64 × CS))) (mo : MS → Option (Int64 × MS)) : Prop := ∀ c m, Inv c m → ∃ v m', mo m = some (v, m') ∧ ((cl c = some (.inl ()) ∧ mI m' 0 = 1 ∧ Inv c m') ∨ ∃ c', cl c = some (.inr (v, c')) ∧ mI m' 0 = 0 ∧ Inv c' m')
noncomputable def mo_type (x1 : Int64) (x3 : Int32) (m : MS) : Option (Int64 × MS) := (f_X7_type x1 x3 m).map (fun s => (s.1.toInt64, s.2))
noncomputable def mo_read (x1 : Int32) (x2 : Int32) (m : MS) : Option (Int64 × MS) := (f_X7_read x1 x2 m).map (fun s => (s.1.toInt64, s.2))
noncomputable def mo_shortest (x1 : Int32) (x2 : Int64) (x4 : Int32) (m : MS) : Option (Int64 × MS) := (f_X7_shortest x1 x2 x4 m).map (fun s => (s.1.toInt64, s.2))
noncomputable def mo_exact (x1 : Int32) (x2 : Int64) (x4 : Int32) (m : MS) : Option (Int64 × MS) := (f_X7_exact x1 x2 x4 m).map (fun s => (s.1.toInt64, s.2))
noncomputable def mo_middle (x1 : Int32) (x2 : Int64) (x4 : Int32) (m : MS) : Option (Int64 × MS) := (f_X7_middle x1 x2 x4 m).map (fun s => (s.1.toInt64, s.2))
noncomputable def mo_digits (x1 : Int32) (x2 : Int64) (x4 : Int32) (x5 : Int32) (x6 : Int32) (m : MS) : Option (Int64 × MS) := (f_X7_digits x1 x2 x4 x5 x6 m).map (fun s => (s.1.toInt64, s.2))
noncomputable def mo_fixed (x1 : Int32) (x2 : Int64) (x4 : Int32) (x5 : Int32) (m : MS) : Option (Int64 × MS) := (f_X7_fixed x1 x2 x4 x5 m).map (fun s => (s.1.toInt64, s.2))
noncomputable def mo_hex (x1 : Int32) (x2 : Int64) (m : MS) : Option (Int64 × MS) := (f_X7_hex x1 x2 m).map (fun s => (s.1.toInt64, s.2))
noncomputable def mo_out (x1 : Int32) (m : MS) : Option (Int64 × MS) := (f_X7_out x1 m).map (fun s => (s.1.toInt64, s.2))
noncomputable def mo_decimal (x1 : Int32) (m : MS) : Option (Int64 × MS) := (some (f_X7_decimal x1 m)).map (fun s => (s.1.toInt64, s.2))
noncomputable def mo_digit (x1 : Int32) (m : MS) : Option (Int64 × MS) := (f_X7_digit x1 m).map (fun s => (s.1.toInt64, s.2))
noncomputable def mo_nearest (x1 : Int32) (x2 : Int64) (x4 : Int32) (x5 : Int32) (m : MS) : Option (Int64 × MS) := (f_X7_nearest x1 x2 x4 x5 m).map (fun s => (s.1, s.2))
noncomputable def mo_power (x1 : Int32) (x2 : Int64) (x4 : Int32) (x5 : Int32) (m : MS) : Option (Int64 × MS) := (f_X7_power x1 x2 x4 x5 m).map (fun s => (s.1, s.2))
noncomputable def mo_convert (x1 : Int32) (x2 : Int64) (x4 : Int32) (x5 : Int32) (m : MS) : Option (Int64 × MS) := (f_X7_convert x1 x2 x4 x5 m).map (fun s => (s.1, s.2))
noncomputable def mo_next (x1 : Int32) (x2 : Int64) (x4 : Int32) (m : MS) : Option (Int64 × MS) := (some (f_X7_next x1 x2 x4 m)).map (fun s => (s.1, s.2))
noncomputable def mo_steps (x1 : Int32) (x2 : Int64) (x4 : Int64) (m : MS) : Option (Int64 × MS) := (some (f_X7_steps x1 x2 x4 m)).map (fun s => (s.1, s.2))
noncomputable def mo_compare (x1 : Int32) (x2 : Int64) (x4 : Int64) (m : MS) : Option (Int64 × MS) := (some (f_X7_compare x1 x2 x4 m)).map (fun s => (s.1.toInt64, s.2))
noncomputable def mo_order (x1 : Int32) (x2 : Int64) (x4 : Int64) (m : MS) : Option (Int64 × MS) := (some (f_X7_order x1 x2 x4 m)).map (fun s => (s.1.toInt64, s.2))
noncomputable def mo_kind (x1 : Int32) (x2 : Int64) (m : MS) : Option (Int64 × MS) := (some (f_X7_kind x1 x2 m)).map (fun s => (s.1.toInt64, s.2))
noncomputable def mo_reads (x1 : Int32) (x2 : Int64) (x4 : Int64) (x6 : Int32) (m : MS) : Option (Int64 × MS) := (f_X7_reads x1 x2 x4 x6 m).map (fun s => ((if s.1 = 0 then 0 else 1), s.2))
noncomputable def mo_holds (x1 : Int32) (x2 : Int64) (m : MS) : Option (Int64 × MS) := (some (f_X7_holds x1 x2 m)).map (fun s => ((if s.1 = 0 then 0 else 1), s.2))
def AllA (Inv : CS → MS → Prop) : Prop :=
  (∀ (x1 : Int64) (x3 : Int32), Agr Inv (cl_type x1 x3) (mo_type x1 x3)) ∧
  (∀ (x1 : Int32) (x2 : Int32), Agr Inv (cl_read x1 x2) (mo_read x1 x2)) ∧
  (∀ (x1 : Int32) (x2 : Int64) (x4 : Int32), Agr Inv (cl_shortest x1 x2 x4) (mo_shortest x1 x2 x4)) ∧
  (∀ (x1 : Int32) (x2 : Int64) (x4 : Int32), Agr Inv (cl_exact x1 x2 x4) (mo_exact x1 x2 x4)) ∧
  (∀ (x1 : Int32) (x2 : Int64) (x4 : Int32), Agr Inv (cl_middle x1 x2 x4) (mo_middle x1 x2 x4)) ∧
  (∀ (x1 : Int32) (x2 : Int64) (x4 : Int32) (x5 : Int32) (x6 : Int32), Agr Inv (cl_digits x1 x2 x4 x5 x6) (mo_digits x1 x2 x4 x5 x6)) ∧
  (∀ (x1 : Int32) (x2 : Int64) (x4 : Int32) (x5 : Int32), Agr Inv (cl_fixed x1 x2 x4 x5) (mo_fixed x1 x2 x4 x5)) ∧
  (∀ (x1 : Int32) (x2 : Int64), Agr Inv (cl_hex x1 x2) (mo_hex x1 x2)) ∧
  (∀ (x1 : Int32), Agr Inv (cl_out x1) (mo_out x1)) ∧
  (∀ (x1 : Int32), Agr Inv (cl_decimal x1) (mo_decimal x1)) ∧
  (∀ (x1 : Int32), Agr Inv (cl_digit x1) (mo_digit x1)) ∧
  (∀ (x1 : Int32) (x2 : Int64) (x4 : Int32) (x5 : Int32), Agr Inv (cl_nearest x1 x2 x4 x5) (mo_nearest x1 x2 x4 x5)) ∧
  (∀ (x1 : Int32) (x2 : Int64) (x4 : Int32) (x5 : Int32), Agr Inv (cl_power x1 x2 x4 x5) (mo_power x1 x2 x4 x5)) ∧
  (∀ (x1 : Int32) (x2 : Int64) (x4 : Int32) (x5 : Int32), Agr Inv (cl_convert x1 x2 x4 x5) (mo_convert x1 x2 x4 x5)) ∧
  (∀ (x1 : Int32) (x2 : Int64) (x4 : Int32), Agr Inv (cl_next x1 x2 x4) (mo_next x1 x2 x4)) ∧
  (∀ (x1 : Int32) (x2 : Int64) (x4 : Int64), Agr Inv (cl_steps x1 x2 x4) (mo_steps x1 x2 x4)) ∧
  (∀ (x1 : Int32) (x2 : Int64) (x4 : Int64), Agr Inv (cl_compare x1 x2 x4) (mo_compare x1 x2 x4)) ∧
  (∀ (x1 : Int32) (x2 : Int64) (x4 : Int64), Agr Inv (cl_order x1 x2 x4) (mo_order x1 x2 x4)) ∧
  (∀ (x1 : Int32) (x2 : Int64), Agr Inv (cl_kind x1 x2) (mo_kind x1 x2)) ∧
  (∀ (x1 : Int32) (x2 : Int64) (x4 : Int64) (x6 : Int32), Agr Inv (cl_reads x1 x2 x4 x6) (mo_reads x1 x2 x4 x6)) ∧
  (∀ (x1 : Int32) (x2 : Int64), Agr Inv (cl_holds x1 x2) (mo_holds x1 x2)) ∧
  (∀ c m, Inv c m → ∃ v c' m', f_X6_pass c = some (v, c') ∧ f_X7_pass m = some (v, m') ∧ Inv c' m') ∧
  (∀ c m, Inv c m → ∃ v c' m', f_X6_clear c = (v, c') ∧ f_X7_clear m = (v, m') ∧ Inv c' m') ∧
  (∀ c m, Inv c m → ∃ m', f_X7_result m = (f_X6_result c, m') ∧ Inv c m') ∧
  (∀ c m, Inv c m → ∃ m', f_X7_flags m = (f_X6_flags c, m') ∧ Inv c m')
def LX (g : Cx) (b Ln : Nat) (xs : Nat → Int32) : Prop := va_X b Ln xs (cxs g) (cxs g).heap ∧ b < (cxs g).heap.size ∧ ¬ wA (cxw g) b
section AWL
variable {g : Cx} {own : String} {cc : ByteArray} {nL d mc ms pc k n : Nat} {L L' : List (Nat × Value)} {st : List Value} {σ σ' : SS} {b Ln : Nat} {xs : Nat → Int32}
theorem aw_sld {i : Int32} (hG : Gd g own cc nL d mc ms) (hX : LX g b Ln xs) (hin : vI i Ln) (hd : decode cc pc = .ok (.iaload, 1)) (kk : AW g (pc + 1) L (.int (xs i.toNatClampNeg) :: st) σ k n) : AW g pc L (.int i :: .ref b :: st) σ k n := by
  obtain ⟨⟨p, l, e, R, s⟩, ⟨m, args, below, meth, c⟩, w, N, Q⟩ := g
  obtain ⟨hx, hb, hml, hN, hown, hts, hlk, hK, hC, hNs, hsz, hR⟩ := hG
  intro H locs ls hP hS hl
  exact va_sld hx hb hX.1 hX.2.1 hX.2.2 hS (vp_in_iff.mpr hin) hd (kk H locs ls hP hS hl)
theorem aw_slen (hG : Gd g own cc nL d mc ms) (hX : LX g b Ln xs) (hd : decode cc pc = .ok (.arraylength, 1)) (kk : AW g (pc + 1) L (.int (Int32.ofNat Ln) :: st) σ k n) : AW g pc L (.ref b :: st) σ k n := by
  obtain ⟨⟨p, l, e, R, s⟩, ⟨m, args, below, meth, c⟩, w, N, Q⟩ := g
  obtain ⟨hx, hb, hml, hN, hown, hts, hlk, hK, hC, hNs, hsz, hR⟩ := hG
  intro H locs ls hP hS hl
  exact va_slen hx hb hX.1 hX.2.1 hX.2.2 hS hd (kk H locs ls hP hS hl)
theorem sI {i : Int32} (h0 : 0 ≤ i.toInt) (h7 : i.toInt + 7 ≤ Ln) (hL : Ln ≤ 3584) {j : Int32} (hj0 : 0 ≤ j.toInt) (hj : j.toInt ≤ 6) : vI (i + j) Ln := by
  have e : (i + j).toInt = i.toInt + j.toInt := by
    rw [Int32.toInt_add]
    exact Int.bmod_eq_of_le (by omega) (by omega)
  exact ⟨by omega, by omega⟩
theorem sI0 {i : Int32} (h0 : 0 ≤ i.toInt) (h7 : i.toInt + 7 ≤ Ln) : vI i Ln := ⟨h0, by omega⟩
set_option maxRecDepth 20000 in
set_option maxHeartbeats 4000000 in
theorem lc_type {Inv : CS → MS → Prop} (hA : AllA Inv) (hG : Gd g RL cL_law 8 12 mc ms) (hst : g.1.2.1.stackTraces = false) (hX : LX g b Ln xs) {i : Int32} (h0 : 0 ≤ i.toInt) (h7 : i.toInt + 7 ≤ Ln) (hL : Ln ≤ 3584) {c : CS} {m : MS} {z : Nat → Int64} (hk : k + 1 ≤ mc) (hn : n + 6 ≤ ms) (hI : Inv c m) (kk : ∀ c' m' z', Inv c' m' → AW g 2542 [(0, .ref b), (1, .ref (wad (cxw g) 0)), (2, .ref (wad (cxw g) 17)), (3, .ref (wad (cxw g) 26)), (4, .int i)] [] (c', m', z') (k + 1) (n + 6)) : AW g 156 [(0, .ref b), (1, .ref (wad (cxw g) 0)), (2, .ref (wad (cxw g) 17)), (3, .ref (wad (cxw g) 26)), (4, .int i)] [] (c, m, z) k n := by
  obtain ⟨v9, m9, hm, hcl⟩ := hA.1 ((jshl ((xs (i + 1).toNatClampNeg).toInt64) 32) ||| (((xs (i + 2).toNatClampNeg).toInt64) &&& 4294967295)) (xs (i + 3).toNatClampNeg) c m hI
  unfold mo_type at hm
  obtain ⟨s9, hs9, he9⟩ := Option.map_eq_some_iff.mp hm
  have h1 := congrArg Prod.fst he9
  have h2 := congrArg Prod.snd he9
  dsimp only at h1 h2
  subst h2
  rcases hcl with ⟨hc, ht, hI2⟩ | ⟨c9, hc, ht, hI2⟩
  · skip
    refine aw_aload_n hG 1 rfl dL_law_156 rfl ?_
    refine aw_aload_n hG 0 rfl dL_law_157 rfl ?_
    refine aw_iload hG 4 rfl dL_law_158 ?_
    refine aw_iconst (v := 1) hG dL_law_160 rfl ?_
    refine aw_iadd hG dL_law_161 ?_
    refine aw_sld hG hX (sI h0 h7 hL (by decide) (by decide)) dL_law_162 ?_
    refine aw_i2l hG dL_law_163 ?_
    refine aw_bipush (v := 32) hG dL_law_164 rfl ?_
    refine aw_lshlJ hG dL_law_166 ?_
    refine aw_aload_n hG 0 rfl dL_law_167 rfl ?_
    refine aw_iload hG 4 rfl dL_law_168 ?_
    refine aw_iconst (v := 2) hG dL_law_170 rfl ?_
    refine aw_iadd hG dL_law_171 ?_
    refine aw_sld hG hX (sI h0 h7 hL (by decide) (by decide)) dL_law_172 ?_
    refine aw_i2l hG dL_law_173 ?_
    refine aw_ldc2 hG lM_0 dL_law_174 ?_
    refine aw_land hG dL_law_177 ?_
    refine aw_lor hG dL_law_178 ?_
    refine aw_aload_n hG 0 rfl dL_law_179 rfl ?_
    refine aw_iload hG 4 rfl dL_law_180 ?_
    refine aw_iconst (v := 3) hG dL_law_182 rfl ?_
    refine aw_iadd hG dL_law_183 ?_
    refine aw_sld hG hX (sI h0 h7 hL (by decide) (by decide)) dL_law_184 ?_
    refine aw_aload_n hG 3 rfl dL_law_185 rfl ?_
    refine aw_callH (v := 1) (σ' := (c, m, z)) (As := [.ref (wad (cxw g) 0), .long ((jshl ((xs (i + 1).toNatClampNeg).toInt64) 32) ||| (((xs (i + 2).toNatClampNeg).toInt64) &&& 4294967295)), .int (xs (i + 3).toNatClampNeg), .ref (wad (cxw g) 26)]) (rest := []) hG hst (c_L_type hc) lM_1 wh_type rfl rfl rfl (by decide) hk hn (Nat.le_of_ble_eq_true rfl) dL_law_186 ?_
    refine aw_istore (L' := [(5, .int 1), (0, .ref b), (1, .ref (wad (cxw g) 0)), (2, .ref (wad (cxw g) 17)), (3, .ref (wad (cxw g) 26)), (4, .int i)]) hG dL_law_189 (by decide) rfl ?_
    refine aw_aload_n hG 3 rfl dL_law_191 rfl ?_
    refine aw_aload_n hG 1 rfl dL_law_192 rfl ?_
    refine aw_iload hG 5 rfl dL_law_193 ?_
    refine aw_iconst (v := 1) hG dL_law_195 rfl ?_
    refine aw_iadd hG dL_law_196 ?_
    refine aw_sld hG hX (sI h0 h7 hL (by decide) (by decide)) dL_law_197 ?_
    refine aw_i2l hG dL_law_198 ?_
    refine aw_bipush (v := 32) hG dL_law_199 rfl ?_
    refine aw_lshlJ hG dL_law_201 ?_
    refine aw_aload_n hG 1 rfl dL_law_202 rfl ?_
    refine aw_iload hG 5 rfl dL_law_203 ?_
    refine aw_iconst (v := 2) hG dL_law_205 rfl ?_
    refine aw_iadd hG dL_law_206 ?_
    refine aw_sld hG hX (sI h0 h7 hL (by decide) (by decide)) dL_law_207 ?_
    refine aw_i2l hG dL_law_208 ?_
    refine aw_ldc2 hG lM_0 dL_law_209 ?_
    refine aw_land hG dL_law_212 ?_
    refine aw_lor hG dL_law_213 ?_
    refine aw_aload_n hG 1 rfl dL_law_214 rfl ?_
    refine aw_iload hG 5 rfl dL_law_215 ?_
    refine aw_iconst (v := 3) hG dL_law_217 rfl ?_
    refine aw_iadd hG dL_law_218 ?_
    refine aw_sld hG hX (sI h0 h7 hL (by decide) (by decide)) dL_law_219 ?_
    refine aw_callVi (As := [.long ((jshl ((xs (i + 1).toNatClampNeg).toInt64) 32) ||| (((xs (i + 2).toNatClampNeg).toInt64) &&& 4294967295)), .int (xs (i + 3).toNatClampNeg)]) (rest := []) hG (c_X7_type (c := c) (m := m) (z := z) hs9) lM_2 wvM_X7_type (rv_X7 hG) rfl rfl rfl (by decide) (Nat.le_trans (Nat.le_refl _) hk) hn (Nat.le_of_ble_eq_true rfl) dL_law_220 ?_
    refine aw_istore (L' := [(6, .int s9.1), (5, .int 1), (0, .ref b), (1, .ref (wad (cxw g) 0)), (2, .ref (wad (cxw g) 17)), (3, .ref (wad (cxw g) 26)), (4, .int i)]) hG dL_law_223 (by decide) rfl ?_
    refine aw_aload_n hG 4 rfl dL_law_225 rfl ?_
    refine aw_callVi (As := []) (rest := []) hG (c_X7_thrown (c := c) (m := s9.2) (z := z)) lM_7 wvM_X7_thrown (rv_X7 hG) rfl rfl rfl (by decide) (Nat.le_trans (Nat.le_refl _) hk) hn (Nat.le_of_ble_eq_true rfl) dL_law_226 ?_
    refine aw_iload hG 1 rfl dL_law_229 ?_
    refine aw_icmp_eq (t := 236) hG dL_law_231 rfl (fun hq9 => ?_) (fun hq9 => ?_)
    rotate_left
    · exact absurd ht hq9
    refine aw_iload hG 1 rfl dL_law_236 ?_
    refine aw_if_ne (t := 253) hG dL_law_238 rfl (fun hq9 => ?_) (fun hq9 => ?_)
    rotate_left
    · exact absurd hq9 (by decide)
    refine aw_goto (t := 2542) hG dL_law_253 rfl ?_
    refine aw_sub (L' := [(0, .ref b), (1, .ref (wad (cxw g) 0)), (2, .ref (wad (cxw g) 17)), (3, .ref (wad (cxw g) 26)), (4, .int i)]) [2, 3, 4, 5, 6] rfl ?_
    exact kk _ _ _ hI2
  · skip
    refine aw_aload_n hG 1 rfl dL_law_156 rfl ?_
    refine aw_aload_n hG 0 rfl dL_law_157 rfl ?_
    refine aw_iload hG 4 rfl dL_law_158 ?_
    refine aw_iconst (v := 1) hG dL_law_160 rfl ?_
    refine aw_iadd hG dL_law_161 ?_
    refine aw_sld hG hX (sI h0 h7 hL (by decide) (by decide)) dL_law_162 ?_
    refine aw_i2l hG dL_law_163 ?_
    refine aw_bipush (v := 32) hG dL_law_164 rfl ?_
    refine aw_lshlJ hG dL_law_166 ?_
    refine aw_aload_n hG 0 rfl dL_law_167 rfl ?_
    refine aw_iload hG 4 rfl dL_law_168 ?_
    refine aw_iconst (v := 2) hG dL_law_170 rfl ?_
    refine aw_iadd hG dL_law_171 ?_
    refine aw_sld hG hX (sI h0 h7 hL (by decide) (by decide)) dL_law_172 ?_
    refine aw_i2l hG dL_law_173 ?_
    refine aw_ldc2 hG lM_0 dL_law_174 ?_
    refine aw_land hG dL_law_177 ?_
    refine aw_lor hG dL_law_178 ?_
    refine aw_aload_n hG 0 rfl dL_law_179 rfl ?_
    refine aw_iload hG 4 rfl dL_law_180 ?_
    refine aw_iconst (v := 3) hG dL_law_182 rfl ?_
    refine aw_iadd hG dL_law_183 ?_
    refine aw_sld hG hX (sI h0 h7 hL (by decide) (by decide)) dL_law_184 ?_
    refine aw_aload_n hG 3 rfl dL_law_185 rfl ?_
    refine aw_callH (v := 0) (σ' := (c9, m, vp_updL z 0 v9)) (As := [.ref (wad (cxw g) 0), .long ((jshl ((xs (i + 1).toNatClampNeg).toInt64) 32) ||| (((xs (i + 2).toNatClampNeg).toInt64) &&& 4294967295)), .int (xs (i + 3).toNatClampNeg), .ref (wad (cxw g) 26)]) (rest := []) hG hst (c_L_type hc) lM_1 wh_type rfl rfl rfl (by decide) hk hn (Nat.le_of_ble_eq_true rfl) dL_law_186 ?_
    refine aw_istore (L' := [(5, .int 0), (0, .ref b), (1, .ref (wad (cxw g) 0)), (2, .ref (wad (cxw g) 17)), (3, .ref (wad (cxw g) 26)), (4, .int i)]) hG dL_law_189 (by decide) rfl ?_
    refine aw_aload_n hG 3 rfl dL_law_191 rfl ?_
    refine aw_aload_n hG 1 rfl dL_law_192 rfl ?_
    refine aw_iload hG 5 rfl dL_law_193 ?_
    refine aw_iconst (v := 1) hG dL_law_195 rfl ?_
    refine aw_iadd hG dL_law_196 ?_
    refine aw_sld hG hX (sI h0 h7 hL (by decide) (by decide)) dL_law_197 ?_
    refine aw_i2l hG dL_law_198 ?_
    refine aw_bipush (v := 32) hG dL_law_199 rfl ?_
    refine aw_lshlJ hG dL_law_201 ?_
    refine aw_aload_n hG 1 rfl dL_law_202 rfl ?_
    refine aw_iload hG 5 rfl dL_law_203 ?_
    refine aw_iconst (v := 2) hG dL_law_205 rfl ?_
    refine aw_iadd hG dL_law_206 ?_
    refine aw_sld hG hX (sI h0 h7 hL (by decide) (by decide)) dL_law_207 ?_
    refine aw_i2l hG dL_law_208 ?_
    refine aw_ldc2 hG lM_0 dL_law_209 ?_
    refine aw_land hG dL_law_212 ?_
    refine aw_lor hG dL_law_213 ?_
    refine aw_aload_n hG 1 rfl dL_law_214 rfl ?_
    refine aw_iload hG 5 rfl dL_law_215 ?_
    refine aw_iconst (v := 3) hG dL_law_217 rfl ?_
    refine aw_iadd hG dL_law_218 ?_
    refine aw_sld hG hX (sI h0 h7 hL (by decide) (by decide)) dL_law_219 ?_
    refine aw_callVi (As := [.long ((jshl ((xs (i + 1).toNatClampNeg).toInt64) 32) ||| (((xs (i + 2).toNatClampNeg).toInt64) &&& 4294967295)), .int (xs (i + 3).toNatClampNeg)]) (rest := []) hG (c_X7_type (c := c9) (m := m) (z := (vp_updL z 0 v9)) hs9) lM_2 wvM_X7_type (rv_X7 hG) rfl rfl rfl (by decide) (Nat.le_trans (Nat.le_refl _) hk) hn (Nat.le_of_ble_eq_true rfl) dL_law_220 ?_
    refine aw_istore (L' := [(6, .int s9.1), (5, .int 0), (0, .ref b), (1, .ref (wad (cxw g) 0)), (2, .ref (wad (cxw g) 17)), (3, .ref (wad (cxw g) 26)), (4, .int i)]) hG dL_law_223 (by decide) rfl ?_
    refine aw_aload_n hG 4 rfl dL_law_225 rfl ?_
    refine aw_callVi (As := []) (rest := []) hG (c_X7_thrown (c := c9) (m := s9.2) (z := (vp_updL z 0 v9))) lM_7 wvM_X7_thrown (rv_X7 hG) rfl rfl rfl (by decide) (Nat.le_trans (Nat.le_refl _) hk) hn (Nat.le_of_ble_eq_true rfl) dL_law_226 ?_
    refine aw_iload hG 1 rfl dL_law_229 ?_
    refine aw_icmp_eq (t := 236) hG dL_law_231 rfl (fun hq9 => ?_) (fun hq9 => ?_)
    rotate_left
    · exact absurd ht hq9
    refine aw_iload hG 1 rfl dL_law_236 ?_
    refine aw_if_ne (t := 253) hG dL_law_238 rfl (fun hq9 => ?_) (fun hq9 => ?_)
    · exact absurd rfl hq9
    refine aw_aload_n hG 5 rfl dL_law_241 rfl ?_
    refine aw_iconst (v := 0) hG dL_law_242 rfl ?_
    refine al_out hG dL_law_243 ?_
    refine aw_iload hG 0 rfl dL_law_244 ?_
    refine aw_i2l hG dL_law_246 ?_
    refine aw_lc_eq (t := 253) hG dL_law_247 rfl dL_law_248 rfl rfl (fun hq9 => ?_) (fun hq9 => ?_)
    rotate_left
    · exact absurd (pk_uLs.trans h1.symm) hq9
    refine aw_goto (t := 2542) hG dL_law_253 rfl ?_
    refine aw_sub (L' := [(0, .ref b), (1, .ref (wad (cxw g) 0)), (2, .ref (wad (cxw g) 17)), (3, .ref (wad (cxw g) 26)), (4, .int i)]) [2, 3, 4, 5, 6] rfl ?_
    exact kk _ _ _ hI2
set_option maxRecDepth 20000 in
theorem lc_pass {Inv : CS → MS → Prop} (hA : AllA Inv) (hG : Gd g RL cL_law 8 12 mc ms) {i : Int32} {c : CS} {m : MS} {z : Nat → Int64} (hk : k + 1 ≤ mc) (hn : n + 6 ≤ ms) (hI : Inv c m) (kk : ∀ c' m' z', Inv c' m' → AW g 2542 [(0, .ref b), (1, .ref (wad (cxw g) 0)), (2, .ref (wad (cxw g) 17)), (3, .ref (wad (cxw g) 26)), (4, .int i)] [] (c', m', z') (k + 1) (n + 6)) : AW g 256 [(0, .ref b), (1, .ref (wad (cxw g) 0)), (2, .ref (wad (cxw g) 17)), (3, .ref (wad (cxw g) 26)), (4, .int i)] [] (c, m, z) k n := by
  have hB := hA.2.2.2.2.2.2.2.2.2.2.2.2.2.2.2.2.2.2.2.2.2.1 c m hI
  obtain ⟨v9, c9, m9, h6, h9, hI2⟩ := hB
  refine aw_aload_n hG 1 rfl dL_law_256 rfl ?_
  refine aw_callVi (As := []) (rest := []) hG (c_X6_pass (c := c) (m := m) (z := z) (s := (v9, c9)) h6) lM_12 wvM_X6_pass (rv_X6 hG) rfl rfl rfl (by decide) (Nat.le_trans (Nat.le_add_right _ _) hk) (Nat.le_trans (Nat.le_add_right _ _) hn) (Nat.le_of_ble_eq_true rfl) dL_law_257 ?_
  refine aw_aload_n hG 2 rfl dL_law_260 rfl ?_
  refine aw_callVi (As := []) (rest := [.int v9]) hG (c_X7_pass (c := c9) (m := m) (z := z) (s := (v9, m9)) h9) lM_17 wvM_X7_pass (rv_X7 hG) rfl rfl rfl (by decide) (Nat.le_trans (Nat.le_add_right _ _) hk) (Nat.le_trans (Nat.le_add_right _ _) hn) (Nat.le_of_ble_eq_true rfl) dL_law_261 ?_
  refine aw_icmp_eq (t := 2542) hG dL_law_264 rfl (fun hq9 => ?_) (fun hq9 => ?_)
  rotate_left
  · exact absurd rfl hq9
  exact aw_wid (Nat.le_add_right _ _) (Nat.le_add_right _ _) (kk _ _ _ hI2)
set_option maxRecDepth 20000 in
theorem lc_clear {Inv : CS → MS → Prop} (hA : AllA Inv) (hG : Gd g RL cL_law 8 12 mc ms) {i : Int32} {c : CS} {m : MS} {z : Nat → Int64} (hk : k + 1 ≤ mc) (hn : n + 6 ≤ ms) (hI : Inv c m) (kk : ∀ c' m' z', Inv c' m' → AW g 2542 [(0, .ref b), (1, .ref (wad (cxw g) 0)), (2, .ref (wad (cxw g) 17)), (3, .ref (wad (cxw g) 26)), (4, .int i)] [] (c', m', z') (k + 1) (n + 6)) : AW g 269 [(0, .ref b), (1, .ref (wad (cxw g) 0)), (2, .ref (wad (cxw g) 17)), (3, .ref (wad (cxw g) 26)), (4, .int i)] [] (c, m, z) k n := by
  have hB := hA.2.2.2.2.2.2.2.2.2.2.2.2.2.2.2.2.2.2.2.2.2.2.1 c m hI
  obtain ⟨v9, c9, m9, h6, h9, hI2⟩ := hB
  refine aw_aload_n hG 1 rfl dL_law_269 rfl ?_
  refine aw_callVi (As := []) (rest := []) hG (c_X6_clear (c := c) (m := m) (z := z) (s := (v9, c9)) h6) lM_22 wvM_X6_clear (rv_X6 hG) rfl rfl rfl (by decide) (Nat.le_trans (Nat.le_add_right _ _) hk) (Nat.le_trans (Nat.le_add_right _ _) hn) (Nat.le_of_ble_eq_true rfl) dL_law_270 ?_
  refine aw_aload_n hG 2 rfl dL_law_273 rfl ?_
  refine aw_callVi (As := []) (rest := [.int v9]) hG (c_X7_clear (c := c9) (m := m) (z := z) (s := (v9, m9)) h9) lM_27 wvM_X7_clear (rv_X7 hG) rfl rfl rfl (by decide) (Nat.le_trans (Nat.le_add_right _ _) hk) (Nat.le_trans (Nat.le_add_right _ _) hn) (Nat.le_of_ble_eq_true rfl) dL_law_274 ?_
  refine aw_icmp_eq (t := 2542) hG dL_law_277 rfl (fun hq9 => ?_) (fun hq9 => ?_)
  rotate_left
  · exact absurd rfl hq9
  exact aw_wid (Nat.le_add_right _ _) (Nat.le_add_right _ _) (kk _ _ _ hI2)
set_option maxRecDepth 20000 in
set_option maxHeartbeats 4000000 in
theorem lc_read {Inv : CS → MS → Prop} (hA : AllA Inv) (hG : Gd g RL cL_law 8 12 mc ms) (hst : g.1.2.1.stackTraces = false) (hX : LX g b Ln xs) {i : Int32} (h0 : 0 ≤ i.toInt) (h7 : i.toInt + 7 ≤ Ln) (hL : Ln ≤ 3584) {c : CS} {m : MS} {z : Nat → Int64} (hk : k + 1 ≤ mc) (hn : n + 6 ≤ ms) (hI : Inv c m) (kk : ∀ c' m' z', Inv c' m' → AW g 2542 [(0, .ref b), (1, .ref (wad (cxw g) 0)), (2, .ref (wad (cxw g) 17)), (3, .ref (wad (cxw g) 26)), (4, .int i)] [] (c', m', z') (k + 1) (n + 6)) : AW g 282 [(0, .ref b), (1, .ref (wad (cxw g) 0)), (2, .ref (wad (cxw g) 17)), (3, .ref (wad (cxw g) 26)), (4, .int i)] [] (c, m, z) k n := by
  obtain ⟨v9, m9, hm, hcl⟩ := hA.2.1 (xs (i + 1).toNatClampNeg) (xs (i + 2).toNatClampNeg) c m hI
  unfold mo_read at hm
  obtain ⟨s9, hs9, he9⟩ := Option.map_eq_some_iff.mp hm
  have h1 := congrArg Prod.fst he9
  have h2 := congrArg Prod.snd he9
  dsimp only at h1 h2
  subst h2
  rcases hcl with ⟨hc, ht, hI2⟩ | ⟨c9, hc, ht, hI2⟩
  · skip
    refine aw_aload_n hG 1 rfl dL_law_282 rfl ?_
    refine aw_aload_n hG 0 rfl dL_law_283 rfl ?_
    refine aw_iload hG 4 rfl dL_law_284 ?_
    refine aw_iconst (v := 1) hG dL_law_286 rfl ?_
    refine aw_iadd hG dL_law_287 ?_
    refine aw_sld hG hX (sI h0 h7 hL (by decide) (by decide)) dL_law_288 ?_
    refine aw_aload_n hG 0 rfl dL_law_289 rfl ?_
    refine aw_iload hG 4 rfl dL_law_290 ?_
    refine aw_iconst (v := 2) hG dL_law_292 rfl ?_
    refine aw_iadd hG dL_law_293 ?_
    refine aw_sld hG hX (sI h0 h7 hL (by decide) (by decide)) dL_law_294 ?_
    refine aw_aload_n hG 3 rfl dL_law_295 rfl ?_
    refine aw_callH (v := 1) (σ' := (c, m, z)) (As := [.ref (wad (cxw g) 0), .int (xs (i + 1).toNatClampNeg), .int (xs (i + 2).toNatClampNeg), .ref (wad (cxw g) 26)]) (rest := []) hG hst (c_L_read hc) lM_32 wh_read rfl rfl rfl (by decide) hk hn (Nat.le_of_ble_eq_true rfl) dL_law_296 ?_
    refine aw_istore (L' := [(5, .int 1), (0, .ref b), (1, .ref (wad (cxw g) 0)), (2, .ref (wad (cxw g) 17)), (3, .ref (wad (cxw g) 26)), (4, .int i)]) hG dL_law_299 (by decide) rfl ?_
    refine aw_aload_n hG 3 rfl dL_law_301 rfl ?_
    refine aw_aload_n hG 1 rfl dL_law_302 rfl ?_
    refine aw_iload hG 5 rfl dL_law_303 ?_
    refine aw_iconst (v := 1) hG dL_law_305 rfl ?_
    refine aw_iadd hG dL_law_306 ?_
    refine aw_sld hG hX (sI h0 h7 hL (by decide) (by decide)) dL_law_307 ?_
    refine aw_aload_n hG 1 rfl dL_law_308 rfl ?_
    refine aw_iload hG 5 rfl dL_law_309 ?_
    refine aw_iconst (v := 2) hG dL_law_311 rfl ?_
    refine aw_iadd hG dL_law_312 ?_
    refine aw_sld hG hX (sI h0 h7 hL (by decide) (by decide)) dL_law_313 ?_
    refine aw_callVi (As := [.int (xs (i + 1).toNatClampNeg), .int (xs (i + 2).toNatClampNeg)]) (rest := []) hG (c_X7_read (c := c) (m := m) (z := z) hs9) lM_33 wvM_X7_read (rv_X7 hG) rfl rfl rfl (by decide) (Nat.le_trans (Nat.le_refl _) hk) hn (Nat.le_of_ble_eq_true rfl) dL_law_314 ?_
    refine aw_istore (L' := [(6, .int s9.1), (5, .int 1), (0, .ref b), (1, .ref (wad (cxw g) 0)), (2, .ref (wad (cxw g) 17)), (3, .ref (wad (cxw g) 26)), (4, .int i)]) hG dL_law_317 (by decide) rfl ?_
    refine aw_aload_n hG 4 rfl dL_law_319 rfl ?_
    refine aw_callVi (As := []) (rest := []) hG (c_X7_thrown (c := c) (m := s9.2) (z := z)) lM_7 wvM_X7_thrown (rv_X7 hG) rfl rfl rfl (by decide) (Nat.le_trans (Nat.le_refl _) hk) hn (Nat.le_of_ble_eq_true rfl) dL_law_320 ?_
    refine aw_iload hG 1 rfl dL_law_323 ?_
    refine aw_icmp_eq (t := 330) hG dL_law_325 rfl (fun hq9 => ?_) (fun hq9 => ?_)
    rotate_left
    · exact absurd ht hq9
    refine aw_iload hG 1 rfl dL_law_330 ?_
    refine aw_if_ne (t := 347) hG dL_law_332 rfl (fun hq9 => ?_) (fun hq9 => ?_)
    rotate_left
    · exact absurd hq9 (by decide)
    refine aw_goto (t := 2542) hG dL_law_347 rfl ?_
    refine aw_sub (L' := [(0, .ref b), (1, .ref (wad (cxw g) 0)), (2, .ref (wad (cxw g) 17)), (3, .ref (wad (cxw g) 26)), (4, .int i)]) [2, 3, 4, 5, 6] rfl ?_
    exact kk _ _ _ hI2
  · skip
    refine aw_aload_n hG 1 rfl dL_law_282 rfl ?_
    refine aw_aload_n hG 0 rfl dL_law_283 rfl ?_
    refine aw_iload hG 4 rfl dL_law_284 ?_
    refine aw_iconst (v := 1) hG dL_law_286 rfl ?_
    refine aw_iadd hG dL_law_287 ?_
    refine aw_sld hG hX (sI h0 h7 hL (by decide) (by decide)) dL_law_288 ?_
    refine aw_aload_n hG 0 rfl dL_law_289 rfl ?_
    refine aw_iload hG 4 rfl dL_law_290 ?_
    refine aw_iconst (v := 2) hG dL_law_292 rfl ?_
    refine aw_iadd hG dL_law_293 ?_
    refine aw_sld hG hX (sI h0 h7 hL (by decide) (by decide)) dL_law_294 ?_
    refine aw_aload_n hG 3 rfl dL_law_295 rfl ?_
    refine aw_callH (v := 0) (σ' := (c9, m, vp_updL z 0 v9)) (As := [.ref (wad (cxw g) 0), .int (xs (i + 1).toNatClampNeg), .int (xs (i + 2).toNatClampNeg), .ref (wad (cxw g) 26)]) (rest := []) hG hst (c_L_read hc) lM_32 wh_read rfl rfl rfl (by decide) hk hn (Nat.le_of_ble_eq_true rfl) dL_law_296 ?_
    refine aw_istore (L' := [(5, .int 0), (0, .ref b), (1, .ref (wad (cxw g) 0)), (2, .ref (wad (cxw g) 17)), (3, .ref (wad (cxw g) 26)), (4, .int i)]) hG dL_law_299 (by decide) rfl ?_
    refine aw_aload_n hG 3 rfl dL_law_301 rfl ?_
    refine aw_aload_n hG 1 rfl dL_law_302 rfl ?_
    refine aw_iload hG 5 rfl dL_law_303 ?_
    refine aw_iconst (v := 1) hG dL_law_305 rfl ?_
    refine aw_iadd hG dL_law_306 ?_
    refine aw_sld hG hX (sI h0 h7 hL (by decide) (by decide)) dL_law_307 ?_
    refine aw_aload_n hG 1 rfl dL_law_308 rfl ?_
    refine aw_iload hG 5 rfl dL_law_309 ?_
    refine aw_iconst (v := 2) hG dL_law_311 rfl ?_
    refine aw_iadd hG dL_law_312 ?_
    refine aw_sld hG hX (sI h0 h7 hL (by decide) (by decide)) dL_law_313 ?_
    refine aw_callVi (As := [.int (xs (i + 1).toNatClampNeg), .int (xs (i + 2).toNatClampNeg)]) (rest := []) hG (c_X7_read (c := c9) (m := m) (z := (vp_updL z 0 v9)) hs9) lM_33 wvM_X7_read (rv_X7 hG) rfl rfl rfl (by decide) (Nat.le_trans (Nat.le_refl _) hk) hn (Nat.le_of_ble_eq_true rfl) dL_law_314 ?_
    refine aw_istore (L' := [(6, .int s9.1), (5, .int 0), (0, .ref b), (1, .ref (wad (cxw g) 0)), (2, .ref (wad (cxw g) 17)), (3, .ref (wad (cxw g) 26)), (4, .int i)]) hG dL_law_317 (by decide) rfl ?_
    refine aw_aload_n hG 4 rfl dL_law_319 rfl ?_
    refine aw_callVi (As := []) (rest := []) hG (c_X7_thrown (c := c9) (m := s9.2) (z := (vp_updL z 0 v9))) lM_7 wvM_X7_thrown (rv_X7 hG) rfl rfl rfl (by decide) (Nat.le_trans (Nat.le_refl _) hk) hn (Nat.le_of_ble_eq_true rfl) dL_law_320 ?_
    refine aw_iload hG 1 rfl dL_law_323 ?_
    refine aw_icmp_eq (t := 330) hG dL_law_325 rfl (fun hq9 => ?_) (fun hq9 => ?_)
    rotate_left
    · exact absurd ht hq9
    refine aw_iload hG 1 rfl dL_law_330 ?_
    refine aw_if_ne (t := 347) hG dL_law_332 rfl (fun hq9 => ?_) (fun hq9 => ?_)
    · exact absurd rfl hq9
    refine aw_aload_n hG 5 rfl dL_law_335 rfl ?_
    refine aw_iconst (v := 0) hG dL_law_336 rfl ?_
    refine al_out hG dL_law_337 ?_
    refine aw_iload hG 0 rfl dL_law_338 ?_
    refine aw_i2l hG dL_law_340 ?_
    refine aw_lc_eq (t := 347) hG dL_law_341 rfl dL_law_342 rfl rfl (fun hq9 => ?_) (fun hq9 => ?_)
    rotate_left
    · exact absurd (pk_uLs.trans h1.symm) hq9
    refine aw_goto (t := 2542) hG dL_law_347 rfl ?_
    refine aw_sub (L' := [(0, .ref b), (1, .ref (wad (cxw g) 0)), (2, .ref (wad (cxw g) 17)), (3, .ref (wad (cxw g) 26)), (4, .int i)]) [2, 3, 4, 5, 6] rfl ?_
    exact kk _ _ _ hI2
set_option maxRecDepth 20000 in
theorem lc_result {Inv : CS → MS → Prop} (hA : AllA Inv) (hG : Gd g RL cL_law 8 12 mc ms) {i : Int32} {c : CS} {m : MS} {z : Nat → Int64} (hk : k + 1 ≤ mc) (hn : n + 6 ≤ ms) (hI : Inv c m) (kk : ∀ c' m' z', Inv c' m' → AW g 2542 [(0, .ref b), (1, .ref (wad (cxw g) 0)), (2, .ref (wad (cxw g) 17)), (3, .ref (wad (cxw g) 26)), (4, .int i)] [] (c', m', z') (k + 1) (n + 6)) : AW g 350 [(0, .ref b), (1, .ref (wad (cxw g) 0)), (2, .ref (wad (cxw g) 17)), (3, .ref (wad (cxw g) 26)), (4, .int i)] [] (c, m, z) k n := by
  have hB := hA.2.2.2.2.2.2.2.2.2.2.2.2.2.2.2.2.2.2.2.2.2.2.2.1 c m hI
  obtain ⟨m9, h9, hI2⟩ := hB
  refine aw_aload_n hG 1 rfl dL_law_350 rfl ?_
  refine aw_callVl (As := []) (rest := []) hG (c_X6_result (c := c) (m := m) (z := z) ) lM_38 wvM_X6_result (rv_X6 hG) rfl rfl rfl (by decide) (Nat.le_trans (Nat.le_add_right _ _) hk) (Nat.le_trans (Nat.le_add_right _ _) hn) (Nat.le_of_ble_eq_true rfl) dL_law_351 ?_
  refine aw_aload_n hG 2 rfl dL_law_354 rfl ?_
  refine aw_callVl (As := []) (rest := [.long (f_X6_result c)]) hG (c_X7_result (c := c) (m := m) (z := z) (s := (f_X6_result c, m9)) h9) lM_43 wvM_X7_result (rv_X7 hG) rfl rfl rfl (by decide) (Nat.le_trans (Nat.le_add_right _ _) hk) (Nat.le_trans (Nat.le_add_right _ _) hn) (Nat.le_of_ble_eq_true rfl) dL_law_355 ?_
  refine aw_lc_eq (t := 2542) hG dL_law_358 rfl dL_law_359 rfl rfl (fun hq9 => ?_) (fun hq9 => ?_)
  rotate_left
  · exact absurd rfl hq9
  exact aw_wid (Nat.le_add_right _ _) (Nat.le_add_right _ _) (kk _ _ _ hI2)
set_option maxRecDepth 20000 in
theorem lc_flags {Inv : CS → MS → Prop} (hA : AllA Inv) (hG : Gd g RL cL_law 8 12 mc ms) {i : Int32} {c : CS} {m : MS} {z : Nat → Int64} (hk : k + 1 ≤ mc) (hn : n + 6 ≤ ms) (hI : Inv c m) (kk : ∀ c' m' z', Inv c' m' → AW g 2542 [(0, .ref b), (1, .ref (wad (cxw g) 0)), (2, .ref (wad (cxw g) 17)), (3, .ref (wad (cxw g) 26)), (4, .int i)] [] (c', m', z') (k + 1) (n + 6)) : AW g 364 [(0, .ref b), (1, .ref (wad (cxw g) 0)), (2, .ref (wad (cxw g) 17)), (3, .ref (wad (cxw g) 26)), (4, .int i)] [] (c, m, z) k n := by
  have hB := hA.2.2.2.2.2.2.2.2.2.2.2.2.2.2.2.2.2.2.2.2.2.2.2.2 c m hI
  obtain ⟨m9, h9, hI2⟩ := hB
  refine aw_aload_n hG 1 rfl dL_law_364 rfl ?_
  refine aw_callVi (As := []) (rest := []) hG (c_X6_flags (c := c) (m := m) (z := z) ) lM_48 wvM_X6_flags (rv_X6 hG) rfl rfl rfl (by decide) (Nat.le_trans (Nat.le_add_right _ _) hk) (Nat.le_trans (Nat.le_add_right _ _) hn) (Nat.le_of_ble_eq_true rfl) dL_law_365 ?_
  refine aw_aload_n hG 2 rfl dL_law_368 rfl ?_
  refine aw_callVi (As := []) (rest := [.int (f_X6_flags c)]) hG (c_X7_flags (c := c) (m := m) (z := z) (s := (f_X6_flags c, m9)) h9) lM_53 wvM_X7_flags (rv_X7 hG) rfl rfl rfl (by decide) (Nat.le_trans (Nat.le_add_right _ _) hk) (Nat.le_trans (Nat.le_add_right _ _) hn) (Nat.le_of_ble_eq_true rfl) dL_law_369 ?_
  refine aw_icmp_eq (t := 2542) hG dL_law_372 rfl (fun hq9 => ?_) (fun hq9 => ?_)
  rotate_left
  · exact absurd rfl hq9
  exact aw_wid (Nat.le_add_right _ _) (Nat.le_add_right _ _) (kk _ _ _ hI2)
set_option maxRecDepth 20000 in
set_option maxHeartbeats 4000000 in
theorem lc_shortest {Inv : CS → MS → Prop} (hA : AllA Inv) (hG : Gd g RL cL_law 8 12 mc ms) (hst : g.1.2.1.stackTraces = false) (hX : LX g b Ln xs) {i : Int32} (h0 : 0 ≤ i.toInt) (h7 : i.toInt + 7 ≤ Ln) (hL : Ln ≤ 3584) {c : CS} {m : MS} {z : Nat → Int64} (hk : k + 1 ≤ mc) (hn : n + 6 ≤ ms) (hI : Inv c m) (kk : ∀ c' m' z', Inv c' m' → AW g 2542 [(0, .ref b), (1, .ref (wad (cxw g) 0)), (2, .ref (wad (cxw g) 17)), (3, .ref (wad (cxw g) 26)), (4, .int i)] [] (c', m', z') (k + 1) (n + 6)) : AW g 377 [(0, .ref b), (1, .ref (wad (cxw g) 0)), (2, .ref (wad (cxw g) 17)), (3, .ref (wad (cxw g) 26)), (4, .int i)] [] (c, m, z) k n := by
  obtain ⟨v9, m9, hm, hcl⟩ := hA.2.2.1 (xs (i + 1).toNatClampNeg) ((jshl ((xs (i + 2).toNatClampNeg).toInt64) 32) ||| (((xs (i + 3).toNatClampNeg).toInt64) &&& 4294967295)) (xs (i + 4).toNatClampNeg) c m hI
  unfold mo_shortest at hm
  obtain ⟨s9, hs9, he9⟩ := Option.map_eq_some_iff.mp hm
  have h1 := congrArg Prod.fst he9
  have h2 := congrArg Prod.snd he9
  dsimp only at h1 h2
  subst h2
  rcases hcl with ⟨hc, ht, hI2⟩ | ⟨c9, hc, ht, hI2⟩
  · skip
    refine aw_aload_n hG 1 rfl dL_law_377 rfl ?_
    refine aw_aload_n hG 0 rfl dL_law_378 rfl ?_
    refine aw_iload hG 4 rfl dL_law_379 ?_
    refine aw_iconst (v := 1) hG dL_law_381 rfl ?_
    refine aw_iadd hG dL_law_382 ?_
    refine aw_sld hG hX (sI h0 h7 hL (by decide) (by decide)) dL_law_383 ?_
    refine aw_aload_n hG 0 rfl dL_law_384 rfl ?_
    refine aw_iload hG 4 rfl dL_law_385 ?_
    refine aw_iconst (v := 2) hG dL_law_387 rfl ?_
    refine aw_iadd hG dL_law_388 ?_
    refine aw_sld hG hX (sI h0 h7 hL (by decide) (by decide)) dL_law_389 ?_
    refine aw_i2l hG dL_law_390 ?_
    refine aw_bipush (v := 32) hG dL_law_391 rfl ?_
    refine aw_lshlJ hG dL_law_393 ?_
    refine aw_aload_n hG 0 rfl dL_law_394 rfl ?_
    refine aw_iload hG 4 rfl dL_law_395 ?_
    refine aw_iconst (v := 3) hG dL_law_397 rfl ?_
    refine aw_iadd hG dL_law_398 ?_
    refine aw_sld hG hX (sI h0 h7 hL (by decide) (by decide)) dL_law_399 ?_
    refine aw_i2l hG dL_law_400 ?_
    refine aw_ldc2 hG lM_0 dL_law_401 ?_
    refine aw_land hG dL_law_404 ?_
    refine aw_lor hG dL_law_405 ?_
    refine aw_aload_n hG 0 rfl dL_law_406 rfl ?_
    refine aw_iload hG 4 rfl dL_law_407 ?_
    refine aw_iconst (v := 4) hG dL_law_409 rfl ?_
    refine aw_iadd hG dL_law_410 ?_
    refine aw_sld hG hX (sI h0 h7 hL (by decide) (by decide)) dL_law_411 ?_
    refine aw_aload_n hG 3 rfl dL_law_412 rfl ?_
    refine aw_callH (v := 1) (σ' := (c, m, z)) (As := [.ref (wad (cxw g) 0), .int (xs (i + 1).toNatClampNeg), .long ((jshl ((xs (i + 2).toNatClampNeg).toInt64) 32) ||| (((xs (i + 3).toNatClampNeg).toInt64) &&& 4294967295)), .int (xs (i + 4).toNatClampNeg), .ref (wad (cxw g) 26)]) (rest := []) hG hst (c_L_shortest hc) lM_58 wh_shortest rfl rfl rfl (by decide) hk hn (Nat.le_of_ble_eq_true rfl) dL_law_413 ?_
    refine aw_istore (L' := [(5, .int 1), (0, .ref b), (1, .ref (wad (cxw g) 0)), (2, .ref (wad (cxw g) 17)), (3, .ref (wad (cxw g) 26)), (4, .int i)]) hG dL_law_416 (by decide) rfl ?_
    refine aw_aload_n hG 3 rfl dL_law_418 rfl ?_
    refine aw_aload_n hG 1 rfl dL_law_419 rfl ?_
    refine aw_iload hG 5 rfl dL_law_420 ?_
    refine aw_iconst (v := 1) hG dL_law_422 rfl ?_
    refine aw_iadd hG dL_law_423 ?_
    refine aw_sld hG hX (sI h0 h7 hL (by decide) (by decide)) dL_law_424 ?_
    refine aw_aload_n hG 1 rfl dL_law_425 rfl ?_
    refine aw_iload hG 5 rfl dL_law_426 ?_
    refine aw_iconst (v := 2) hG dL_law_428 rfl ?_
    refine aw_iadd hG dL_law_429 ?_
    refine aw_sld hG hX (sI h0 h7 hL (by decide) (by decide)) dL_law_430 ?_
    refine aw_i2l hG dL_law_431 ?_
    refine aw_bipush (v := 32) hG dL_law_432 rfl ?_
    refine aw_lshlJ hG dL_law_434 ?_
    refine aw_aload_n hG 1 rfl dL_law_435 rfl ?_
    refine aw_iload hG 5 rfl dL_law_436 ?_
    refine aw_iconst (v := 3) hG dL_law_438 rfl ?_
    refine aw_iadd hG dL_law_439 ?_
    refine aw_sld hG hX (sI h0 h7 hL (by decide) (by decide)) dL_law_440 ?_
    refine aw_i2l hG dL_law_441 ?_
    refine aw_ldc2 hG lM_0 dL_law_442 ?_
    refine aw_land hG dL_law_445 ?_
    refine aw_lor hG dL_law_446 ?_
    refine aw_aload_n hG 1 rfl dL_law_447 rfl ?_
    refine aw_iload hG 5 rfl dL_law_448 ?_
    refine aw_iconst (v := 4) hG dL_law_450 rfl ?_
    refine aw_iadd hG dL_law_451 ?_
    refine aw_sld hG hX (sI h0 h7 hL (by decide) (by decide)) dL_law_452 ?_
    refine aw_callVi (As := [.int (xs (i + 1).toNatClampNeg), .long ((jshl ((xs (i + 2).toNatClampNeg).toInt64) 32) ||| (((xs (i + 3).toNatClampNeg).toInt64) &&& 4294967295)), .int (xs (i + 4).toNatClampNeg)]) (rest := []) hG (c_X7_shortest (c := c) (m := m) (z := z) hs9) lM_59 wvM_X7_shortest (rv_X7 hG) rfl rfl rfl (by decide) (Nat.le_trans (Nat.le_refl _) hk) hn (Nat.le_of_ble_eq_true rfl) dL_law_453 ?_
    refine aw_istore (L' := [(6, .int s9.1), (5, .int 1), (0, .ref b), (1, .ref (wad (cxw g) 0)), (2, .ref (wad (cxw g) 17)), (3, .ref (wad (cxw g) 26)), (4, .int i)]) hG dL_law_456 (by decide) rfl ?_
    refine aw_aload_n hG 4 rfl dL_law_458 rfl ?_
    refine aw_callVi (As := []) (rest := []) hG (c_X7_thrown (c := c) (m := s9.2) (z := z)) lM_7 wvM_X7_thrown (rv_X7 hG) rfl rfl rfl (by decide) (Nat.le_trans (Nat.le_refl _) hk) hn (Nat.le_of_ble_eq_true rfl) dL_law_459 ?_
    refine aw_iload hG 1 rfl dL_law_462 ?_
    refine aw_icmp_eq (t := 469) hG dL_law_464 rfl (fun hq9 => ?_) (fun hq9 => ?_)
    rotate_left
    · exact absurd ht hq9
    refine aw_iload hG 1 rfl dL_law_469 ?_
    refine aw_if_ne (t := 486) hG dL_law_471 rfl (fun hq9 => ?_) (fun hq9 => ?_)
    rotate_left
    · exact absurd hq9 (by decide)
    refine aw_goto (t := 2542) hG dL_law_486 rfl ?_
    refine aw_sub (L' := [(0, .ref b), (1, .ref (wad (cxw g) 0)), (2, .ref (wad (cxw g) 17)), (3, .ref (wad (cxw g) 26)), (4, .int i)]) [2, 3, 4, 5, 6] rfl ?_
    exact kk _ _ _ hI2
  · skip
    refine aw_aload_n hG 1 rfl dL_law_377 rfl ?_
    refine aw_aload_n hG 0 rfl dL_law_378 rfl ?_
    refine aw_iload hG 4 rfl dL_law_379 ?_
    refine aw_iconst (v := 1) hG dL_law_381 rfl ?_
    refine aw_iadd hG dL_law_382 ?_
    refine aw_sld hG hX (sI h0 h7 hL (by decide) (by decide)) dL_law_383 ?_
    refine aw_aload_n hG 0 rfl dL_law_384 rfl ?_
    refine aw_iload hG 4 rfl dL_law_385 ?_
    refine aw_iconst (v := 2) hG dL_law_387 rfl ?_
    refine aw_iadd hG dL_law_388 ?_
    refine aw_sld hG hX (sI h0 h7 hL (by decide) (by decide)) dL_law_389 ?_
    refine aw_i2l hG dL_law_390 ?_
    refine aw_bipush (v := 32) hG dL_law_391 rfl ?_
    refine aw_lshlJ hG dL_law_393 ?_
    refine aw_aload_n hG 0 rfl dL_law_394 rfl ?_
    refine aw_iload hG 4 rfl dL_law_395 ?_
    refine aw_iconst (v := 3) hG dL_law_397 rfl ?_
    refine aw_iadd hG dL_law_398 ?_
    refine aw_sld hG hX (sI h0 h7 hL (by decide) (by decide)) dL_law_399 ?_
    refine aw_i2l hG dL_law_400 ?_
    refine aw_ldc2 hG lM_0 dL_law_401 ?_
    refine aw_land hG dL_law_404 ?_
    refine aw_lor hG dL_law_405 ?_
    refine aw_aload_n hG 0 rfl dL_law_406 rfl ?_
    refine aw_iload hG 4 rfl dL_law_407 ?_
    refine aw_iconst (v := 4) hG dL_law_409 rfl ?_
    refine aw_iadd hG dL_law_410 ?_
    refine aw_sld hG hX (sI h0 h7 hL (by decide) (by decide)) dL_law_411 ?_
    refine aw_aload_n hG 3 rfl dL_law_412 rfl ?_
    refine aw_callH (v := 0) (σ' := (c9, m, vp_updL z 0 v9)) (As := [.ref (wad (cxw g) 0), .int (xs (i + 1).toNatClampNeg), .long ((jshl ((xs (i + 2).toNatClampNeg).toInt64) 32) ||| (((xs (i + 3).toNatClampNeg).toInt64) &&& 4294967295)), .int (xs (i + 4).toNatClampNeg), .ref (wad (cxw g) 26)]) (rest := []) hG hst (c_L_shortest hc) lM_58 wh_shortest rfl rfl rfl (by decide) hk hn (Nat.le_of_ble_eq_true rfl) dL_law_413 ?_
    refine aw_istore (L' := [(5, .int 0), (0, .ref b), (1, .ref (wad (cxw g) 0)), (2, .ref (wad (cxw g) 17)), (3, .ref (wad (cxw g) 26)), (4, .int i)]) hG dL_law_416 (by decide) rfl ?_
    refine aw_aload_n hG 3 rfl dL_law_418 rfl ?_
    refine aw_aload_n hG 1 rfl dL_law_419 rfl ?_
    refine aw_iload hG 5 rfl dL_law_420 ?_
    refine aw_iconst (v := 1) hG dL_law_422 rfl ?_
    refine aw_iadd hG dL_law_423 ?_
    refine aw_sld hG hX (sI h0 h7 hL (by decide) (by decide)) dL_law_424 ?_
    refine aw_aload_n hG 1 rfl dL_law_425 rfl ?_
    refine aw_iload hG 5 rfl dL_law_426 ?_
    refine aw_iconst (v := 2) hG dL_law_428 rfl ?_
    refine aw_iadd hG dL_law_429 ?_
    refine aw_sld hG hX (sI h0 h7 hL (by decide) (by decide)) dL_law_430 ?_
    refine aw_i2l hG dL_law_431 ?_
    refine aw_bipush (v := 32) hG dL_law_432 rfl ?_
    refine aw_lshlJ hG dL_law_434 ?_
    refine aw_aload_n hG 1 rfl dL_law_435 rfl ?_
    refine aw_iload hG 5 rfl dL_law_436 ?_
    refine aw_iconst (v := 3) hG dL_law_438 rfl ?_
    refine aw_iadd hG dL_law_439 ?_
    refine aw_sld hG hX (sI h0 h7 hL (by decide) (by decide)) dL_law_440 ?_
    refine aw_i2l hG dL_law_441 ?_
    refine aw_ldc2 hG lM_0 dL_law_442 ?_
    refine aw_land hG dL_law_445 ?_
    refine aw_lor hG dL_law_446 ?_
    refine aw_aload_n hG 1 rfl dL_law_447 rfl ?_
    refine aw_iload hG 5 rfl dL_law_448 ?_
    refine aw_iconst (v := 4) hG dL_law_450 rfl ?_
    refine aw_iadd hG dL_law_451 ?_
    refine aw_sld hG hX (sI h0 h7 hL (by decide) (by decide)) dL_law_452 ?_
    refine aw_callVi (As := [.int (xs (i + 1).toNatClampNeg), .long ((jshl ((xs (i + 2).toNatClampNeg).toInt64) 32) ||| (((xs (i + 3).toNatClampNeg).toInt64) &&& 4294967295)), .int (xs (i + 4).toNatClampNeg)]) (rest := []) hG (c_X7_shortest (c := c9) (m := m) (z := (vp_updL z 0 v9)) hs9) lM_59 wvM_X7_shortest (rv_X7 hG) rfl rfl rfl (by decide) (Nat.le_trans (Nat.le_refl _) hk) hn (Nat.le_of_ble_eq_true rfl) dL_law_453 ?_
    refine aw_istore (L' := [(6, .int s9.1), (5, .int 0), (0, .ref b), (1, .ref (wad (cxw g) 0)), (2, .ref (wad (cxw g) 17)), (3, .ref (wad (cxw g) 26)), (4, .int i)]) hG dL_law_456 (by decide) rfl ?_
    refine aw_aload_n hG 4 rfl dL_law_458 rfl ?_
    refine aw_callVi (As := []) (rest := []) hG (c_X7_thrown (c := c9) (m := s9.2) (z := (vp_updL z 0 v9))) lM_7 wvM_X7_thrown (rv_X7 hG) rfl rfl rfl (by decide) (Nat.le_trans (Nat.le_refl _) hk) hn (Nat.le_of_ble_eq_true rfl) dL_law_459 ?_
    refine aw_iload hG 1 rfl dL_law_462 ?_
    refine aw_icmp_eq (t := 469) hG dL_law_464 rfl (fun hq9 => ?_) (fun hq9 => ?_)
    rotate_left
    · exact absurd ht hq9
    refine aw_iload hG 1 rfl dL_law_469 ?_
    refine aw_if_ne (t := 486) hG dL_law_471 rfl (fun hq9 => ?_) (fun hq9 => ?_)
    · exact absurd rfl hq9
    refine aw_aload_n hG 5 rfl dL_law_474 rfl ?_
    refine aw_iconst (v := 0) hG dL_law_475 rfl ?_
    refine al_out hG dL_law_476 ?_
    refine aw_iload hG 0 rfl dL_law_477 ?_
    refine aw_i2l hG dL_law_479 ?_
    refine aw_lc_eq (t := 486) hG dL_law_480 rfl dL_law_481 rfl rfl (fun hq9 => ?_) (fun hq9 => ?_)
    rotate_left
    · exact absurd (pk_uLs.trans h1.symm) hq9
    refine aw_goto (t := 2542) hG dL_law_486 rfl ?_
    refine aw_sub (L' := [(0, .ref b), (1, .ref (wad (cxw g) 0)), (2, .ref (wad (cxw g) 17)), (3, .ref (wad (cxw g) 26)), (4, .int i)]) [2, 3, 4, 5, 6] rfl ?_
    exact kk _ _ _ hI2
set_option maxRecDepth 20000 in
set_option maxHeartbeats 4000000 in
theorem lc_exact {Inv : CS → MS → Prop} (hA : AllA Inv) (hG : Gd g RL cL_law 8 12 mc ms) (hst : g.1.2.1.stackTraces = false) (hX : LX g b Ln xs) {i : Int32} (h0 : 0 ≤ i.toInt) (h7 : i.toInt + 7 ≤ Ln) (hL : Ln ≤ 3584) {c : CS} {m : MS} {z : Nat → Int64} (hk : k + 1 ≤ mc) (hn : n + 6 ≤ ms) (hI : Inv c m) (kk : ∀ c' m' z', Inv c' m' → AW g 2542 [(0, .ref b), (1, .ref (wad (cxw g) 0)), (2, .ref (wad (cxw g) 17)), (3, .ref (wad (cxw g) 26)), (4, .int i)] [] (c', m', z') (k + 1) (n + 6)) : AW g 489 [(0, .ref b), (1, .ref (wad (cxw g) 0)), (2, .ref (wad (cxw g) 17)), (3, .ref (wad (cxw g) 26)), (4, .int i)] [] (c, m, z) k n := by
  obtain ⟨v9, m9, hm, hcl⟩ := hA.2.2.2.1 (xs (i + 1).toNatClampNeg) ((jshl ((xs (i + 2).toNatClampNeg).toInt64) 32) ||| (((xs (i + 3).toNatClampNeg).toInt64) &&& 4294967295)) (xs (i + 4).toNatClampNeg) c m hI
  unfold mo_exact at hm
  obtain ⟨s9, hs9, he9⟩ := Option.map_eq_some_iff.mp hm
  have h1 := congrArg Prod.fst he9
  have h2 := congrArg Prod.snd he9
  dsimp only at h1 h2
  subst h2
  rcases hcl with ⟨hc, ht, hI2⟩ | ⟨c9, hc, ht, hI2⟩
  · skip
    refine aw_aload_n hG 1 rfl dL_law_489 rfl ?_
    refine aw_aload_n hG 0 rfl dL_law_490 rfl ?_
    refine aw_iload hG 4 rfl dL_law_491 ?_
    refine aw_iconst (v := 1) hG dL_law_493 rfl ?_
    refine aw_iadd hG dL_law_494 ?_
    refine aw_sld hG hX (sI h0 h7 hL (by decide) (by decide)) dL_law_495 ?_
    refine aw_aload_n hG 0 rfl dL_law_496 rfl ?_
    refine aw_iload hG 4 rfl dL_law_497 ?_
    refine aw_iconst (v := 2) hG dL_law_499 rfl ?_
    refine aw_iadd hG dL_law_500 ?_
    refine aw_sld hG hX (sI h0 h7 hL (by decide) (by decide)) dL_law_501 ?_
    refine aw_i2l hG dL_law_502 ?_
    refine aw_bipush (v := 32) hG dL_law_503 rfl ?_
    refine aw_lshlJ hG dL_law_505 ?_
    refine aw_aload_n hG 0 rfl dL_law_506 rfl ?_
    refine aw_iload hG 4 rfl dL_law_507 ?_
    refine aw_iconst (v := 3) hG dL_law_509 rfl ?_
    refine aw_iadd hG dL_law_510 ?_
    refine aw_sld hG hX (sI h0 h7 hL (by decide) (by decide)) dL_law_511 ?_
    refine aw_i2l hG dL_law_512 ?_
    refine aw_ldc2 hG lM_0 dL_law_513 ?_
    refine aw_land hG dL_law_516 ?_
    refine aw_lor hG dL_law_517 ?_
    refine aw_aload_n hG 0 rfl dL_law_518 rfl ?_
    refine aw_iload hG 4 rfl dL_law_519 ?_
    refine aw_iconst (v := 4) hG dL_law_521 rfl ?_
    refine aw_iadd hG dL_law_522 ?_
    refine aw_sld hG hX (sI h0 h7 hL (by decide) (by decide)) dL_law_523 ?_
    refine aw_aload_n hG 3 rfl dL_law_524 rfl ?_
    refine aw_callH (v := 1) (σ' := (c, m, z)) (As := [.ref (wad (cxw g) 0), .int (xs (i + 1).toNatClampNeg), .long ((jshl ((xs (i + 2).toNatClampNeg).toInt64) 32) ||| (((xs (i + 3).toNatClampNeg).toInt64) &&& 4294967295)), .int (xs (i + 4).toNatClampNeg), .ref (wad (cxw g) 26)]) (rest := []) hG hst (c_L_exact hc) lM_64 wh_exact rfl rfl rfl (by decide) hk hn (Nat.le_of_ble_eq_true rfl) dL_law_525 ?_
    refine aw_istore (L' := [(5, .int 1), (0, .ref b), (1, .ref (wad (cxw g) 0)), (2, .ref (wad (cxw g) 17)), (3, .ref (wad (cxw g) 26)), (4, .int i)]) hG dL_law_528 (by decide) rfl ?_
    refine aw_aload_n hG 3 rfl dL_law_530 rfl ?_
    refine aw_aload_n hG 1 rfl dL_law_531 rfl ?_
    refine aw_iload hG 5 rfl dL_law_532 ?_
    refine aw_iconst (v := 1) hG dL_law_534 rfl ?_
    refine aw_iadd hG dL_law_535 ?_
    refine aw_sld hG hX (sI h0 h7 hL (by decide) (by decide)) dL_law_536 ?_
    refine aw_aload_n hG 1 rfl dL_law_537 rfl ?_
    refine aw_iload hG 5 rfl dL_law_538 ?_
    refine aw_iconst (v := 2) hG dL_law_540 rfl ?_
    refine aw_iadd hG dL_law_541 ?_
    refine aw_sld hG hX (sI h0 h7 hL (by decide) (by decide)) dL_law_542 ?_
    refine aw_i2l hG dL_law_543 ?_
    refine aw_bipush (v := 32) hG dL_law_544 rfl ?_
    refine aw_lshlJ hG dL_law_546 ?_
    refine aw_aload_n hG 1 rfl dL_law_547 rfl ?_
    refine aw_iload hG 5 rfl dL_law_548 ?_
    refine aw_iconst (v := 3) hG dL_law_550 rfl ?_
    refine aw_iadd hG dL_law_551 ?_
    refine aw_sld hG hX (sI h0 h7 hL (by decide) (by decide)) dL_law_552 ?_
    refine aw_i2l hG dL_law_553 ?_
    refine aw_ldc2 hG lM_0 dL_law_554 ?_
    refine aw_land hG dL_law_557 ?_
    refine aw_lor hG dL_law_558 ?_
    refine aw_aload_n hG 1 rfl dL_law_559 rfl ?_
    refine aw_iload hG 5 rfl dL_law_560 ?_
    refine aw_iconst (v := 4) hG dL_law_562 rfl ?_
    refine aw_iadd hG dL_law_563 ?_
    refine aw_sld hG hX (sI h0 h7 hL (by decide) (by decide)) dL_law_564 ?_
    refine aw_callVi (As := [.int (xs (i + 1).toNatClampNeg), .long ((jshl ((xs (i + 2).toNatClampNeg).toInt64) 32) ||| (((xs (i + 3).toNatClampNeg).toInt64) &&& 4294967295)), .int (xs (i + 4).toNatClampNeg)]) (rest := []) hG (c_X7_exact (c := c) (m := m) (z := z) hs9) lM_65 wvM_X7_exact (rv_X7 hG) rfl rfl rfl (by decide) (Nat.le_trans (Nat.le_refl _) hk) hn (Nat.le_of_ble_eq_true rfl) dL_law_565 ?_
    refine aw_istore (L' := [(6, .int s9.1), (5, .int 1), (0, .ref b), (1, .ref (wad (cxw g) 0)), (2, .ref (wad (cxw g) 17)), (3, .ref (wad (cxw g) 26)), (4, .int i)]) hG dL_law_568 (by decide) rfl ?_
    refine aw_aload_n hG 4 rfl dL_law_570 rfl ?_
    refine aw_callVi (As := []) (rest := []) hG (c_X7_thrown (c := c) (m := s9.2) (z := z)) lM_7 wvM_X7_thrown (rv_X7 hG) rfl rfl rfl (by decide) (Nat.le_trans (Nat.le_refl _) hk) hn (Nat.le_of_ble_eq_true rfl) dL_law_571 ?_
    refine aw_iload hG 1 rfl dL_law_574 ?_
    refine aw_icmp_eq (t := 581) hG dL_law_576 rfl (fun hq9 => ?_) (fun hq9 => ?_)
    rotate_left
    · exact absurd ht hq9
    refine aw_iload hG 1 rfl dL_law_581 ?_
    refine aw_if_ne (t := 598) hG dL_law_583 rfl (fun hq9 => ?_) (fun hq9 => ?_)
    rotate_left
    · exact absurd hq9 (by decide)
    refine aw_goto (t := 2542) hG dL_law_598 rfl ?_
    refine aw_sub (L' := [(0, .ref b), (1, .ref (wad (cxw g) 0)), (2, .ref (wad (cxw g) 17)), (3, .ref (wad (cxw g) 26)), (4, .int i)]) [2, 3, 4, 5, 6] rfl ?_
    exact kk _ _ _ hI2
  · skip
    refine aw_aload_n hG 1 rfl dL_law_489 rfl ?_
    refine aw_aload_n hG 0 rfl dL_law_490 rfl ?_
    refine aw_iload hG 4 rfl dL_law_491 ?_
    refine aw_iconst (v := 1) hG dL_law_493 rfl ?_
    refine aw_iadd hG dL_law_494 ?_
    refine aw_sld hG hX (sI h0 h7 hL (by decide) (by decide)) dL_law_495 ?_
    refine aw_aload_n hG 0 rfl dL_law_496 rfl ?_
    refine aw_iload hG 4 rfl dL_law_497 ?_
    refine aw_iconst (v := 2) hG dL_law_499 rfl ?_
    refine aw_iadd hG dL_law_500 ?_
    refine aw_sld hG hX (sI h0 h7 hL (by decide) (by decide)) dL_law_501 ?_
    refine aw_i2l hG dL_law_502 ?_
    refine aw_bipush (v := 32) hG dL_law_503 rfl ?_
    refine aw_lshlJ hG dL_law_505 ?_
    refine aw_aload_n hG 0 rfl dL_law_506 rfl ?_
    refine aw_iload hG 4 rfl dL_law_507 ?_
    refine aw_iconst (v := 3) hG dL_law_509 rfl ?_
    refine aw_iadd hG dL_law_510 ?_
    refine aw_sld hG hX (sI h0 h7 hL (by decide) (by decide)) dL_law_511 ?_
    refine aw_i2l hG dL_law_512 ?_
    refine aw_ldc2 hG lM_0 dL_law_513 ?_
    refine aw_land hG dL_law_516 ?_
    refine aw_lor hG dL_law_517 ?_
    refine aw_aload_n hG 0 rfl dL_law_518 rfl ?_
    refine aw_iload hG 4 rfl dL_law_519 ?_
    refine aw_iconst (v := 4) hG dL_law_521 rfl ?_
    refine aw_iadd hG dL_law_522 ?_
    refine aw_sld hG hX (sI h0 h7 hL (by decide) (by decide)) dL_law_523 ?_
    refine aw_aload_n hG 3 rfl dL_law_524 rfl ?_
    refine aw_callH (v := 0) (σ' := (c9, m, vp_updL z 0 v9)) (As := [.ref (wad (cxw g) 0), .int (xs (i + 1).toNatClampNeg), .long ((jshl ((xs (i + 2).toNatClampNeg).toInt64) 32) ||| (((xs (i + 3).toNatClampNeg).toInt64) &&& 4294967295)), .int (xs (i + 4).toNatClampNeg), .ref (wad (cxw g) 26)]) (rest := []) hG hst (c_L_exact hc) lM_64 wh_exact rfl rfl rfl (by decide) hk hn (Nat.le_of_ble_eq_true rfl) dL_law_525 ?_
    refine aw_istore (L' := [(5, .int 0), (0, .ref b), (1, .ref (wad (cxw g) 0)), (2, .ref (wad (cxw g) 17)), (3, .ref (wad (cxw g) 26)), (4, .int i)]) hG dL_law_528 (by decide) rfl ?_
    refine aw_aload_n hG 3 rfl dL_law_530 rfl ?_
    refine aw_aload_n hG 1 rfl dL_law_531 rfl ?_
    refine aw_iload hG 5 rfl dL_law_532 ?_
    refine aw_iconst (v := 1) hG dL_law_534 rfl ?_
    refine aw_iadd hG dL_law_535 ?_
    refine aw_sld hG hX (sI h0 h7 hL (by decide) (by decide)) dL_law_536 ?_
    refine aw_aload_n hG 1 rfl dL_law_537 rfl ?_
    refine aw_iload hG 5 rfl dL_law_538 ?_
    refine aw_iconst (v := 2) hG dL_law_540 rfl ?_
    refine aw_iadd hG dL_law_541 ?_
    refine aw_sld hG hX (sI h0 h7 hL (by decide) (by decide)) dL_law_542 ?_
    refine aw_i2l hG dL_law_543 ?_
    refine aw_bipush (v := 32) hG dL_law_544 rfl ?_
    refine aw_lshlJ hG dL_law_546 ?_
    refine aw_aload_n hG 1 rfl dL_law_547 rfl ?_
    refine aw_iload hG 5 rfl dL_law_548 ?_
    refine aw_iconst (v := 3) hG dL_law_550 rfl ?_
    refine aw_iadd hG dL_law_551 ?_
    refine aw_sld hG hX (sI h0 h7 hL (by decide) (by decide)) dL_law_552 ?_
    refine aw_i2l hG dL_law_553 ?_
    refine aw_ldc2 hG lM_0 dL_law_554 ?_
    refine aw_land hG dL_law_557 ?_
    refine aw_lor hG dL_law_558 ?_
    refine aw_aload_n hG 1 rfl dL_law_559 rfl ?_
    refine aw_iload hG 5 rfl dL_law_560 ?_
    refine aw_iconst (v := 4) hG dL_law_562 rfl ?_
    refine aw_iadd hG dL_law_563 ?_
    refine aw_sld hG hX (sI h0 h7 hL (by decide) (by decide)) dL_law_564 ?_
    refine aw_callVi (As := [.int (xs (i + 1).toNatClampNeg), .long ((jshl ((xs (i + 2).toNatClampNeg).toInt64) 32) ||| (((xs (i + 3).toNatClampNeg).toInt64) &&& 4294967295)), .int (xs (i + 4).toNatClampNeg)]) (rest := []) hG (c_X7_exact (c := c9) (m := m) (z := (vp_updL z 0 v9)) hs9) lM_65 wvM_X7_exact (rv_X7 hG) rfl rfl rfl (by decide) (Nat.le_trans (Nat.le_refl _) hk) hn (Nat.le_of_ble_eq_true rfl) dL_law_565 ?_
    refine aw_istore (L' := [(6, .int s9.1), (5, .int 0), (0, .ref b), (1, .ref (wad (cxw g) 0)), (2, .ref (wad (cxw g) 17)), (3, .ref (wad (cxw g) 26)), (4, .int i)]) hG dL_law_568 (by decide) rfl ?_
    refine aw_aload_n hG 4 rfl dL_law_570 rfl ?_
    refine aw_callVi (As := []) (rest := []) hG (c_X7_thrown (c := c9) (m := s9.2) (z := (vp_updL z 0 v9))) lM_7 wvM_X7_thrown (rv_X7 hG) rfl rfl rfl (by decide) (Nat.le_trans (Nat.le_refl _) hk) hn (Nat.le_of_ble_eq_true rfl) dL_law_571 ?_
    refine aw_iload hG 1 rfl dL_law_574 ?_
    refine aw_icmp_eq (t := 581) hG dL_law_576 rfl (fun hq9 => ?_) (fun hq9 => ?_)
    rotate_left
    · exact absurd ht hq9
    refine aw_iload hG 1 rfl dL_law_581 ?_
    refine aw_if_ne (t := 598) hG dL_law_583 rfl (fun hq9 => ?_) (fun hq9 => ?_)
    · exact absurd rfl hq9
    refine aw_aload_n hG 5 rfl dL_law_586 rfl ?_
    refine aw_iconst (v := 0) hG dL_law_587 rfl ?_
    refine al_out hG dL_law_588 ?_
    refine aw_iload hG 0 rfl dL_law_589 ?_
    refine aw_i2l hG dL_law_591 ?_
    refine aw_lc_eq (t := 598) hG dL_law_592 rfl dL_law_593 rfl rfl (fun hq9 => ?_) (fun hq9 => ?_)
    rotate_left
    · exact absurd (pk_uLs.trans h1.symm) hq9
    refine aw_goto (t := 2542) hG dL_law_598 rfl ?_
    refine aw_sub (L' := [(0, .ref b), (1, .ref (wad (cxw g) 0)), (2, .ref (wad (cxw g) 17)), (3, .ref (wad (cxw g) 26)), (4, .int i)]) [2, 3, 4, 5, 6] rfl ?_
    exact kk _ _ _ hI2
set_option maxRecDepth 20000 in
set_option maxHeartbeats 4000000 in
theorem lc_middle {Inv : CS → MS → Prop} (hA : AllA Inv) (hG : Gd g RL cL_law 8 12 mc ms) (hst : g.1.2.1.stackTraces = false) (hX : LX g b Ln xs) {i : Int32} (h0 : 0 ≤ i.toInt) (h7 : i.toInt + 7 ≤ Ln) (hL : Ln ≤ 3584) {c : CS} {m : MS} {z : Nat → Int64} (hk : k + 1 ≤ mc) (hn : n + 6 ≤ ms) (hI : Inv c m) (kk : ∀ c' m' z', Inv c' m' → AW g 2542 [(0, .ref b), (1, .ref (wad (cxw g) 0)), (2, .ref (wad (cxw g) 17)), (3, .ref (wad (cxw g) 26)), (4, .int i)] [] (c', m', z') (k + 1) (n + 6)) : AW g 601 [(0, .ref b), (1, .ref (wad (cxw g) 0)), (2, .ref (wad (cxw g) 17)), (3, .ref (wad (cxw g) 26)), (4, .int i)] [] (c, m, z) k n := by
  obtain ⟨v9, m9, hm, hcl⟩ := hA.2.2.2.2.1 (xs (i + 1).toNatClampNeg) ((jshl ((xs (i + 2).toNatClampNeg).toInt64) 32) ||| (((xs (i + 3).toNatClampNeg).toInt64) &&& 4294967295)) (xs (i + 4).toNatClampNeg) c m hI
  unfold mo_middle at hm
  obtain ⟨s9, hs9, he9⟩ := Option.map_eq_some_iff.mp hm
  have h1 := congrArg Prod.fst he9
  have h2 := congrArg Prod.snd he9
  dsimp only at h1 h2
  subst h2
  rcases hcl with ⟨hc, ht, hI2⟩ | ⟨c9, hc, ht, hI2⟩
  · skip
    refine aw_aload_n hG 1 rfl dL_law_601 rfl ?_
    refine aw_aload_n hG 0 rfl dL_law_602 rfl ?_
    refine aw_iload hG 4 rfl dL_law_603 ?_
    refine aw_iconst (v := 1) hG dL_law_605 rfl ?_
    refine aw_iadd hG dL_law_606 ?_
    refine aw_sld hG hX (sI h0 h7 hL (by decide) (by decide)) dL_law_607 ?_
    refine aw_aload_n hG 0 rfl dL_law_608 rfl ?_
    refine aw_iload hG 4 rfl dL_law_609 ?_
    refine aw_iconst (v := 2) hG dL_law_611 rfl ?_
    refine aw_iadd hG dL_law_612 ?_
    refine aw_sld hG hX (sI h0 h7 hL (by decide) (by decide)) dL_law_613 ?_
    refine aw_i2l hG dL_law_614 ?_
    refine aw_bipush (v := 32) hG dL_law_615 rfl ?_
    refine aw_lshlJ hG dL_law_617 ?_
    refine aw_aload_n hG 0 rfl dL_law_618 rfl ?_
    refine aw_iload hG 4 rfl dL_law_619 ?_
    refine aw_iconst (v := 3) hG dL_law_621 rfl ?_
    refine aw_iadd hG dL_law_622 ?_
    refine aw_sld hG hX (sI h0 h7 hL (by decide) (by decide)) dL_law_623 ?_
    refine aw_i2l hG dL_law_624 ?_
    refine aw_ldc2 hG lM_0 dL_law_625 ?_
    refine aw_land hG dL_law_628 ?_
    refine aw_lor hG dL_law_629 ?_
    refine aw_aload_n hG 0 rfl dL_law_630 rfl ?_
    refine aw_iload hG 4 rfl dL_law_631 ?_
    refine aw_iconst (v := 4) hG dL_law_633 rfl ?_
    refine aw_iadd hG dL_law_634 ?_
    refine aw_sld hG hX (sI h0 h7 hL (by decide) (by decide)) dL_law_635 ?_
    refine aw_aload_n hG 3 rfl dL_law_636 rfl ?_
    refine aw_callH (v := 1) (σ' := (c, m, z)) (As := [.ref (wad (cxw g) 0), .int (xs (i + 1).toNatClampNeg), .long ((jshl ((xs (i + 2).toNatClampNeg).toInt64) 32) ||| (((xs (i + 3).toNatClampNeg).toInt64) &&& 4294967295)), .int (xs (i + 4).toNatClampNeg), .ref (wad (cxw g) 26)]) (rest := []) hG hst (c_L_middle hc) lM_70 wh_middle rfl rfl rfl (by decide) hk hn (Nat.le_of_ble_eq_true rfl) dL_law_637 ?_
    refine aw_istore (L' := [(5, .int 1), (0, .ref b), (1, .ref (wad (cxw g) 0)), (2, .ref (wad (cxw g) 17)), (3, .ref (wad (cxw g) 26)), (4, .int i)]) hG dL_law_640 (by decide) rfl ?_
    refine aw_aload_n hG 3 rfl dL_law_642 rfl ?_
    refine aw_aload_n hG 1 rfl dL_law_643 rfl ?_
    refine aw_iload hG 5 rfl dL_law_644 ?_
    refine aw_iconst (v := 1) hG dL_law_646 rfl ?_
    refine aw_iadd hG dL_law_647 ?_
    refine aw_sld hG hX (sI h0 h7 hL (by decide) (by decide)) dL_law_648 ?_
    refine aw_aload_n hG 1 rfl dL_law_649 rfl ?_
    refine aw_iload hG 5 rfl dL_law_650 ?_
    refine aw_iconst (v := 2) hG dL_law_652 rfl ?_
    refine aw_iadd hG dL_law_653 ?_
    refine aw_sld hG hX (sI h0 h7 hL (by decide) (by decide)) dL_law_654 ?_
    refine aw_i2l hG dL_law_655 ?_
    refine aw_bipush (v := 32) hG dL_law_656 rfl ?_
    refine aw_lshlJ hG dL_law_658 ?_
    refine aw_aload_n hG 1 rfl dL_law_659 rfl ?_
    refine aw_iload hG 5 rfl dL_law_660 ?_
    refine aw_iconst (v := 3) hG dL_law_662 rfl ?_
    refine aw_iadd hG dL_law_663 ?_
    refine aw_sld hG hX (sI h0 h7 hL (by decide) (by decide)) dL_law_664 ?_
    refine aw_i2l hG dL_law_665 ?_
    refine aw_ldc2 hG lM_0 dL_law_666 ?_
    refine aw_land hG dL_law_669 ?_
    refine aw_lor hG dL_law_670 ?_
    refine aw_aload_n hG 1 rfl dL_law_671 rfl ?_
    refine aw_iload hG 5 rfl dL_law_672 ?_
    refine aw_iconst (v := 4) hG dL_law_674 rfl ?_
    refine aw_iadd hG dL_law_675 ?_
    refine aw_sld hG hX (sI h0 h7 hL (by decide) (by decide)) dL_law_676 ?_
    refine aw_callVi (As := [.int (xs (i + 1).toNatClampNeg), .long ((jshl ((xs (i + 2).toNatClampNeg).toInt64) 32) ||| (((xs (i + 3).toNatClampNeg).toInt64) &&& 4294967295)), .int (xs (i + 4).toNatClampNeg)]) (rest := []) hG (c_X7_middle (c := c) (m := m) (z := z) hs9) lM_71 wvM_X7_middle (rv_X7 hG) rfl rfl rfl (by decide) (Nat.le_trans (Nat.le_refl _) hk) hn (Nat.le_of_ble_eq_true rfl) dL_law_677 ?_
    refine aw_istore (L' := [(6, .int s9.1), (5, .int 1), (0, .ref b), (1, .ref (wad (cxw g) 0)), (2, .ref (wad (cxw g) 17)), (3, .ref (wad (cxw g) 26)), (4, .int i)]) hG dL_law_680 (by decide) rfl ?_
    refine aw_aload_n hG 4 rfl dL_law_682 rfl ?_
    refine aw_callVi (As := []) (rest := []) hG (c_X7_thrown (c := c) (m := s9.2) (z := z)) lM_7 wvM_X7_thrown (rv_X7 hG) rfl rfl rfl (by decide) (Nat.le_trans (Nat.le_refl _) hk) hn (Nat.le_of_ble_eq_true rfl) dL_law_683 ?_
    refine aw_iload hG 1 rfl dL_law_686 ?_
    refine aw_icmp_eq (t := 693) hG dL_law_688 rfl (fun hq9 => ?_) (fun hq9 => ?_)
    rotate_left
    · exact absurd ht hq9
    refine aw_iload hG 1 rfl dL_law_693 ?_
    refine aw_if_ne (t := 710) hG dL_law_695 rfl (fun hq9 => ?_) (fun hq9 => ?_)
    rotate_left
    · exact absurd hq9 (by decide)
    refine aw_goto (t := 2542) hG dL_law_710 rfl ?_
    refine aw_sub (L' := [(0, .ref b), (1, .ref (wad (cxw g) 0)), (2, .ref (wad (cxw g) 17)), (3, .ref (wad (cxw g) 26)), (4, .int i)]) [2, 3, 4, 5, 6] rfl ?_
    exact kk _ _ _ hI2
  · skip
    refine aw_aload_n hG 1 rfl dL_law_601 rfl ?_
    refine aw_aload_n hG 0 rfl dL_law_602 rfl ?_
    refine aw_iload hG 4 rfl dL_law_603 ?_
    refine aw_iconst (v := 1) hG dL_law_605 rfl ?_
    refine aw_iadd hG dL_law_606 ?_
    refine aw_sld hG hX (sI h0 h7 hL (by decide) (by decide)) dL_law_607 ?_
    refine aw_aload_n hG 0 rfl dL_law_608 rfl ?_
    refine aw_iload hG 4 rfl dL_law_609 ?_
    refine aw_iconst (v := 2) hG dL_law_611 rfl ?_
    refine aw_iadd hG dL_law_612 ?_
    refine aw_sld hG hX (sI h0 h7 hL (by decide) (by decide)) dL_law_613 ?_
    refine aw_i2l hG dL_law_614 ?_
    refine aw_bipush (v := 32) hG dL_law_615 rfl ?_
    refine aw_lshlJ hG dL_law_617 ?_
    refine aw_aload_n hG 0 rfl dL_law_618 rfl ?_
    refine aw_iload hG 4 rfl dL_law_619 ?_
    refine aw_iconst (v := 3) hG dL_law_621 rfl ?_
    refine aw_iadd hG dL_law_622 ?_
    refine aw_sld hG hX (sI h0 h7 hL (by decide) (by decide)) dL_law_623 ?_
    refine aw_i2l hG dL_law_624 ?_
    refine aw_ldc2 hG lM_0 dL_law_625 ?_
    refine aw_land hG dL_law_628 ?_
    refine aw_lor hG dL_law_629 ?_
    refine aw_aload_n hG 0 rfl dL_law_630 rfl ?_
    refine aw_iload hG 4 rfl dL_law_631 ?_
    refine aw_iconst (v := 4) hG dL_law_633 rfl ?_
    refine aw_iadd hG dL_law_634 ?_
    refine aw_sld hG hX (sI h0 h7 hL (by decide) (by decide)) dL_law_635 ?_
    refine aw_aload_n hG 3 rfl dL_law_636 rfl ?_
    refine aw_callH (v := 0) (σ' := (c9, m, vp_updL z 0 v9)) (As := [.ref (wad (cxw g) 0), .int (xs (i + 1).toNatClampNeg), .long ((jshl ((xs (i + 2).toNatClampNeg).toInt64) 32) ||| (((xs (i + 3).toNatClampNeg).toInt64) &&& 4294967295)), .int (xs (i + 4).toNatClampNeg), .ref (wad (cxw g) 26)]) (rest := []) hG hst (c_L_middle hc) lM_70 wh_middle rfl rfl rfl (by decide) hk hn (Nat.le_of_ble_eq_true rfl) dL_law_637 ?_
    refine aw_istore (L' := [(5, .int 0), (0, .ref b), (1, .ref (wad (cxw g) 0)), (2, .ref (wad (cxw g) 17)), (3, .ref (wad (cxw g) 26)), (4, .int i)]) hG dL_law_640 (by decide) rfl ?_
    refine aw_aload_n hG 3 rfl dL_law_642 rfl ?_
    refine aw_aload_n hG 1 rfl dL_law_643 rfl ?_
    refine aw_iload hG 5 rfl dL_law_644 ?_
    refine aw_iconst (v := 1) hG dL_law_646 rfl ?_
    refine aw_iadd hG dL_law_647 ?_
    refine aw_sld hG hX (sI h0 h7 hL (by decide) (by decide)) dL_law_648 ?_
    refine aw_aload_n hG 1 rfl dL_law_649 rfl ?_
    refine aw_iload hG 5 rfl dL_law_650 ?_
    refine aw_iconst (v := 2) hG dL_law_652 rfl ?_
    refine aw_iadd hG dL_law_653 ?_
    refine aw_sld hG hX (sI h0 h7 hL (by decide) (by decide)) dL_law_654 ?_
    refine aw_i2l hG dL_law_655 ?_
    refine aw_bipush (v := 32) hG dL_law_656 rfl ?_
    refine aw_lshlJ hG dL_law_658 ?_
    refine aw_aload_n hG 1 rfl dL_law_659 rfl ?_
    refine aw_iload hG 5 rfl dL_law_660 ?_
    refine aw_iconst (v := 3) hG dL_law_662 rfl ?_
    refine aw_iadd hG dL_law_663 ?_
    refine aw_sld hG hX (sI h0 h7 hL (by decide) (by decide)) dL_law_664 ?_
    refine aw_i2l hG dL_law_665 ?_
    refine aw_ldc2 hG lM_0 dL_law_666 ?_
    refine aw_land hG dL_law_669 ?_
    refine aw_lor hG dL_law_670 ?_
    refine aw_aload_n hG 1 rfl dL_law_671 rfl ?_
    refine aw_iload hG 5 rfl dL_law_672 ?_
    refine aw_iconst (v := 4) hG dL_law_674 rfl ?_
    refine aw_iadd hG dL_law_675 ?_
    refine aw_sld hG hX (sI h0 h7 hL (by decide) (by decide)) dL_law_676 ?_
    refine aw_callVi (As := [.int (xs (i + 1).toNatClampNeg), .long ((jshl ((xs (i + 2).toNatClampNeg).toInt64) 32) ||| (((xs (i + 3).toNatClampNeg).toInt64) &&& 4294967295)), .int (xs (i + 4).toNatClampNeg)]) (rest := []) hG (c_X7_middle (c := c9) (m := m) (z := (vp_updL z 0 v9)) hs9) lM_71 wvM_X7_middle (rv_X7 hG) rfl rfl rfl (by decide) (Nat.le_trans (Nat.le_refl _) hk) hn (Nat.le_of_ble_eq_true rfl) dL_law_677 ?_
    refine aw_istore (L' := [(6, .int s9.1), (5, .int 0), (0, .ref b), (1, .ref (wad (cxw g) 0)), (2, .ref (wad (cxw g) 17)), (3, .ref (wad (cxw g) 26)), (4, .int i)]) hG dL_law_680 (by decide) rfl ?_
    refine aw_aload_n hG 4 rfl dL_law_682 rfl ?_
    refine aw_callVi (As := []) (rest := []) hG (c_X7_thrown (c := c9) (m := s9.2) (z := (vp_updL z 0 v9))) lM_7 wvM_X7_thrown (rv_X7 hG) rfl rfl rfl (by decide) (Nat.le_trans (Nat.le_refl _) hk) hn (Nat.le_of_ble_eq_true rfl) dL_law_683 ?_
    refine aw_iload hG 1 rfl dL_law_686 ?_
    refine aw_icmp_eq (t := 693) hG dL_law_688 rfl (fun hq9 => ?_) (fun hq9 => ?_)
    rotate_left
    · exact absurd ht hq9
    refine aw_iload hG 1 rfl dL_law_693 ?_
    refine aw_if_ne (t := 710) hG dL_law_695 rfl (fun hq9 => ?_) (fun hq9 => ?_)
    · exact absurd rfl hq9
    refine aw_aload_n hG 5 rfl dL_law_698 rfl ?_
    refine aw_iconst (v := 0) hG dL_law_699 rfl ?_
    refine al_out hG dL_law_700 ?_
    refine aw_iload hG 0 rfl dL_law_701 ?_
    refine aw_i2l hG dL_law_703 ?_
    refine aw_lc_eq (t := 710) hG dL_law_704 rfl dL_law_705 rfl rfl (fun hq9 => ?_) (fun hq9 => ?_)
    rotate_left
    · exact absurd (pk_uLs.trans h1.symm) hq9
    refine aw_goto (t := 2542) hG dL_law_710 rfl ?_
    refine aw_sub (L' := [(0, .ref b), (1, .ref (wad (cxw g) 0)), (2, .ref (wad (cxw g) 17)), (3, .ref (wad (cxw g) 26)), (4, .int i)]) [2, 3, 4, 5, 6] rfl ?_
    exact kk _ _ _ hI2
set_option maxRecDepth 20000 in
set_option maxHeartbeats 4000000 in
theorem lc_digits {Inv : CS → MS → Prop} (hA : AllA Inv) (hG : Gd g RL cL_law 8 12 mc ms) (hst : g.1.2.1.stackTraces = false) (hX : LX g b Ln xs) {i : Int32} (h0 : 0 ≤ i.toInt) (h7 : i.toInt + 7 ≤ Ln) (hL : Ln ≤ 3584) {c : CS} {m : MS} {z : Nat → Int64} (hk : k + 1 ≤ mc) (hn : n + 6 ≤ ms) (hI : Inv c m) (kk : ∀ c' m' z', Inv c' m' → AW g 2542 [(0, .ref b), (1, .ref (wad (cxw g) 0)), (2, .ref (wad (cxw g) 17)), (3, .ref (wad (cxw g) 26)), (4, .int i)] [] (c', m', z') (k + 1) (n + 6)) : AW g 713 [(0, .ref b), (1, .ref (wad (cxw g) 0)), (2, .ref (wad (cxw g) 17)), (3, .ref (wad (cxw g) 26)), (4, .int i)] [] (c, m, z) k n := by
  obtain ⟨v9, m9, hm, hcl⟩ := hA.2.2.2.2.2.1 (xs (i + 1).toNatClampNeg) ((jshl ((xs (i + 2).toNatClampNeg).toInt64) 32) ||| (((xs (i + 3).toNatClampNeg).toInt64) &&& 4294967295)) (xs (i + 4).toNatClampNeg) (xs (i + 5).toNatClampNeg) (xs (i + 6).toNatClampNeg) c m hI
  unfold mo_digits at hm
  obtain ⟨s9, hs9, he9⟩ := Option.map_eq_some_iff.mp hm
  have h1 := congrArg Prod.fst he9
  have h2 := congrArg Prod.snd he9
  dsimp only at h1 h2
  subst h2
  rcases hcl with ⟨hc, ht, hI2⟩ | ⟨c9, hc, ht, hI2⟩
  · skip
    refine aw_aload_n hG 1 rfl dL_law_713 rfl ?_
    refine aw_aload_n hG 0 rfl dL_law_714 rfl ?_
    refine aw_iload hG 4 rfl dL_law_715 ?_
    refine aw_iconst (v := 1) hG dL_law_717 rfl ?_
    refine aw_iadd hG dL_law_718 ?_
    refine aw_sld hG hX (sI h0 h7 hL (by decide) (by decide)) dL_law_719 ?_
    refine aw_aload_n hG 0 rfl dL_law_720 rfl ?_
    refine aw_iload hG 4 rfl dL_law_721 ?_
    refine aw_iconst (v := 2) hG dL_law_723 rfl ?_
    refine aw_iadd hG dL_law_724 ?_
    refine aw_sld hG hX (sI h0 h7 hL (by decide) (by decide)) dL_law_725 ?_
    refine aw_i2l hG dL_law_726 ?_
    refine aw_bipush (v := 32) hG dL_law_727 rfl ?_
    refine aw_lshlJ hG dL_law_729 ?_
    refine aw_aload_n hG 0 rfl dL_law_730 rfl ?_
    refine aw_iload hG 4 rfl dL_law_731 ?_
    refine aw_iconst (v := 3) hG dL_law_733 rfl ?_
    refine aw_iadd hG dL_law_734 ?_
    refine aw_sld hG hX (sI h0 h7 hL (by decide) (by decide)) dL_law_735 ?_
    refine aw_i2l hG dL_law_736 ?_
    refine aw_ldc2 hG lM_0 dL_law_737 ?_
    refine aw_land hG dL_law_740 ?_
    refine aw_lor hG dL_law_741 ?_
    refine aw_aload_n hG 0 rfl dL_law_742 rfl ?_
    refine aw_iload hG 4 rfl dL_law_743 ?_
    refine aw_iconst (v := 4) hG dL_law_745 rfl ?_
    refine aw_iadd hG dL_law_746 ?_
    refine aw_sld hG hX (sI h0 h7 hL (by decide) (by decide)) dL_law_747 ?_
    refine aw_aload_n hG 0 rfl dL_law_748 rfl ?_
    refine aw_iload hG 4 rfl dL_law_749 ?_
    refine aw_iconst (v := 5) hG dL_law_751 rfl ?_
    refine aw_iadd hG dL_law_752 ?_
    refine aw_sld hG hX (sI h0 h7 hL (by decide) (by decide)) dL_law_753 ?_
    refine aw_aload_n hG 0 rfl dL_law_754 rfl ?_
    refine aw_iload hG 4 rfl dL_law_755 ?_
    refine aw_bipush (v := 6) hG dL_law_757 rfl ?_
    refine aw_iadd hG dL_law_759 ?_
    refine aw_sld hG hX (sI h0 h7 hL (by decide) (by decide)) dL_law_760 ?_
    refine aw_aload_n hG 3 rfl dL_law_761 rfl ?_
    refine aw_callH (v := 1) (σ' := (c, m, z)) (As := [.ref (wad (cxw g) 0), .int (xs (i + 1).toNatClampNeg), .long ((jshl ((xs (i + 2).toNatClampNeg).toInt64) 32) ||| (((xs (i + 3).toNatClampNeg).toInt64) &&& 4294967295)), .int (xs (i + 4).toNatClampNeg), .int (xs (i + 5).toNatClampNeg), .int (xs (i + 6).toNatClampNeg), .ref (wad (cxw g) 26)]) (rest := []) hG hst (c_L_digits hc) lM_76 wh_digits rfl rfl rfl (by decide) hk hn (Nat.le_of_ble_eq_true rfl) dL_law_762 ?_
    refine aw_istore (L' := [(5, .int 1), (0, .ref b), (1, .ref (wad (cxw g) 0)), (2, .ref (wad (cxw g) 17)), (3, .ref (wad (cxw g) 26)), (4, .int i)]) hG dL_law_765 (by decide) rfl ?_
    refine aw_aload_n hG 3 rfl dL_law_767 rfl ?_
    refine aw_aload_n hG 1 rfl dL_law_768 rfl ?_
    refine aw_iload hG 5 rfl dL_law_769 ?_
    refine aw_iconst (v := 1) hG dL_law_771 rfl ?_
    refine aw_iadd hG dL_law_772 ?_
    refine aw_sld hG hX (sI h0 h7 hL (by decide) (by decide)) dL_law_773 ?_
    refine aw_aload_n hG 1 rfl dL_law_774 rfl ?_
    refine aw_iload hG 5 rfl dL_law_775 ?_
    refine aw_iconst (v := 2) hG dL_law_777 rfl ?_
    refine aw_iadd hG dL_law_778 ?_
    refine aw_sld hG hX (sI h0 h7 hL (by decide) (by decide)) dL_law_779 ?_
    refine aw_i2l hG dL_law_780 ?_
    refine aw_bipush (v := 32) hG dL_law_781 rfl ?_
    refine aw_lshlJ hG dL_law_783 ?_
    refine aw_aload_n hG 1 rfl dL_law_784 rfl ?_
    refine aw_iload hG 5 rfl dL_law_785 ?_
    refine aw_iconst (v := 3) hG dL_law_787 rfl ?_
    refine aw_iadd hG dL_law_788 ?_
    refine aw_sld hG hX (sI h0 h7 hL (by decide) (by decide)) dL_law_789 ?_
    refine aw_i2l hG dL_law_790 ?_
    refine aw_ldc2 hG lM_0 dL_law_791 ?_
    refine aw_land hG dL_law_794 ?_
    refine aw_lor hG dL_law_795 ?_
    refine aw_aload_n hG 1 rfl dL_law_796 rfl ?_
    refine aw_iload hG 5 rfl dL_law_797 ?_
    refine aw_iconst (v := 4) hG dL_law_799 rfl ?_
    refine aw_iadd hG dL_law_800 ?_
    refine aw_sld hG hX (sI h0 h7 hL (by decide) (by decide)) dL_law_801 ?_
    refine aw_aload_n hG 1 rfl dL_law_802 rfl ?_
    refine aw_iload hG 5 rfl dL_law_803 ?_
    refine aw_iconst (v := 5) hG dL_law_805 rfl ?_
    refine aw_iadd hG dL_law_806 ?_
    refine aw_sld hG hX (sI h0 h7 hL (by decide) (by decide)) dL_law_807 ?_
    refine aw_aload_n hG 1 rfl dL_law_808 rfl ?_
    refine aw_iload hG 5 rfl dL_law_809 ?_
    refine aw_bipush (v := 6) hG dL_law_811 rfl ?_
    refine aw_iadd hG dL_law_813 ?_
    refine aw_sld hG hX (sI h0 h7 hL (by decide) (by decide)) dL_law_814 ?_
    refine aw_callVi (As := [.int (xs (i + 1).toNatClampNeg), .long ((jshl ((xs (i + 2).toNatClampNeg).toInt64) 32) ||| (((xs (i + 3).toNatClampNeg).toInt64) &&& 4294967295)), .int (xs (i + 4).toNatClampNeg), .int (xs (i + 5).toNatClampNeg), .int (xs (i + 6).toNatClampNeg)]) (rest := []) hG (c_X7_digits (c := c) (m := m) (z := z) hs9) lM_77 wvM_X7_digits (rv_X7 hG) rfl rfl rfl (by decide) (Nat.le_trans (Nat.le_refl _) hk) hn (Nat.le_of_ble_eq_true rfl) dL_law_815 ?_
    refine aw_istore (L' := [(6, .int s9.1), (5, .int 1), (0, .ref b), (1, .ref (wad (cxw g) 0)), (2, .ref (wad (cxw g) 17)), (3, .ref (wad (cxw g) 26)), (4, .int i)]) hG dL_law_818 (by decide) rfl ?_
    refine aw_aload_n hG 4 rfl dL_law_820 rfl ?_
    refine aw_callVi (As := []) (rest := []) hG (c_X7_thrown (c := c) (m := s9.2) (z := z)) lM_7 wvM_X7_thrown (rv_X7 hG) rfl rfl rfl (by decide) (Nat.le_trans (Nat.le_refl _) hk) hn (Nat.le_of_ble_eq_true rfl) dL_law_821 ?_
    refine aw_iload hG 1 rfl dL_law_824 ?_
    refine aw_icmp_eq (t := 831) hG dL_law_826 rfl (fun hq9 => ?_) (fun hq9 => ?_)
    rotate_left
    · exact absurd ht hq9
    refine aw_iload hG 1 rfl dL_law_831 ?_
    refine aw_if_ne (t := 848) hG dL_law_833 rfl (fun hq9 => ?_) (fun hq9 => ?_)
    rotate_left
    · exact absurd hq9 (by decide)
    refine aw_goto (t := 2542) hG dL_law_848 rfl ?_
    refine aw_sub (L' := [(0, .ref b), (1, .ref (wad (cxw g) 0)), (2, .ref (wad (cxw g) 17)), (3, .ref (wad (cxw g) 26)), (4, .int i)]) [2, 3, 4, 5, 6] rfl ?_
    exact kk _ _ _ hI2
  · skip
    refine aw_aload_n hG 1 rfl dL_law_713 rfl ?_
    refine aw_aload_n hG 0 rfl dL_law_714 rfl ?_
    refine aw_iload hG 4 rfl dL_law_715 ?_
    refine aw_iconst (v := 1) hG dL_law_717 rfl ?_
    refine aw_iadd hG dL_law_718 ?_
    refine aw_sld hG hX (sI h0 h7 hL (by decide) (by decide)) dL_law_719 ?_
    refine aw_aload_n hG 0 rfl dL_law_720 rfl ?_
    refine aw_iload hG 4 rfl dL_law_721 ?_
    refine aw_iconst (v := 2) hG dL_law_723 rfl ?_
    refine aw_iadd hG dL_law_724 ?_
    refine aw_sld hG hX (sI h0 h7 hL (by decide) (by decide)) dL_law_725 ?_
    refine aw_i2l hG dL_law_726 ?_
    refine aw_bipush (v := 32) hG dL_law_727 rfl ?_
    refine aw_lshlJ hG dL_law_729 ?_
    refine aw_aload_n hG 0 rfl dL_law_730 rfl ?_
    refine aw_iload hG 4 rfl dL_law_731 ?_
    refine aw_iconst (v := 3) hG dL_law_733 rfl ?_
    refine aw_iadd hG dL_law_734 ?_
    refine aw_sld hG hX (sI h0 h7 hL (by decide) (by decide)) dL_law_735 ?_
    refine aw_i2l hG dL_law_736 ?_
    refine aw_ldc2 hG lM_0 dL_law_737 ?_
    refine aw_land hG dL_law_740 ?_
    refine aw_lor hG dL_law_741 ?_
    refine aw_aload_n hG 0 rfl dL_law_742 rfl ?_
    refine aw_iload hG 4 rfl dL_law_743 ?_
    refine aw_iconst (v := 4) hG dL_law_745 rfl ?_
    refine aw_iadd hG dL_law_746 ?_
    refine aw_sld hG hX (sI h0 h7 hL (by decide) (by decide)) dL_law_747 ?_
    refine aw_aload_n hG 0 rfl dL_law_748 rfl ?_
    refine aw_iload hG 4 rfl dL_law_749 ?_
    refine aw_iconst (v := 5) hG dL_law_751 rfl ?_
    refine aw_iadd hG dL_law_752 ?_
    refine aw_sld hG hX (sI h0 h7 hL (by decide) (by decide)) dL_law_753 ?_
    refine aw_aload_n hG 0 rfl dL_law_754 rfl ?_
    refine aw_iload hG 4 rfl dL_law_755 ?_
    refine aw_bipush (v := 6) hG dL_law_757 rfl ?_
    refine aw_iadd hG dL_law_759 ?_
    refine aw_sld hG hX (sI h0 h7 hL (by decide) (by decide)) dL_law_760 ?_
    refine aw_aload_n hG 3 rfl dL_law_761 rfl ?_
    refine aw_callH (v := 0) (σ' := (c9, m, vp_updL z 0 v9)) (As := [.ref (wad (cxw g) 0), .int (xs (i + 1).toNatClampNeg), .long ((jshl ((xs (i + 2).toNatClampNeg).toInt64) 32) ||| (((xs (i + 3).toNatClampNeg).toInt64) &&& 4294967295)), .int (xs (i + 4).toNatClampNeg), .int (xs (i + 5).toNatClampNeg), .int (xs (i + 6).toNatClampNeg), .ref (wad (cxw g) 26)]) (rest := []) hG hst (c_L_digits hc) lM_76 wh_digits rfl rfl rfl (by decide) hk hn (Nat.le_of_ble_eq_true rfl) dL_law_762 ?_
    refine aw_istore (L' := [(5, .int 0), (0, .ref b), (1, .ref (wad (cxw g) 0)), (2, .ref (wad (cxw g) 17)), (3, .ref (wad (cxw g) 26)), (4, .int i)]) hG dL_law_765 (by decide) rfl ?_
    refine aw_aload_n hG 3 rfl dL_law_767 rfl ?_
    refine aw_aload_n hG 1 rfl dL_law_768 rfl ?_
    refine aw_iload hG 5 rfl dL_law_769 ?_
    refine aw_iconst (v := 1) hG dL_law_771 rfl ?_
    refine aw_iadd hG dL_law_772 ?_
    refine aw_sld hG hX (sI h0 h7 hL (by decide) (by decide)) dL_law_773 ?_
    refine aw_aload_n hG 1 rfl dL_law_774 rfl ?_
    refine aw_iload hG 5 rfl dL_law_775 ?_
    refine aw_iconst (v := 2) hG dL_law_777 rfl ?_
    refine aw_iadd hG dL_law_778 ?_
    refine aw_sld hG hX (sI h0 h7 hL (by decide) (by decide)) dL_law_779 ?_
    refine aw_i2l hG dL_law_780 ?_
    refine aw_bipush (v := 32) hG dL_law_781 rfl ?_
    refine aw_lshlJ hG dL_law_783 ?_
    refine aw_aload_n hG 1 rfl dL_law_784 rfl ?_
    refine aw_iload hG 5 rfl dL_law_785 ?_
    refine aw_iconst (v := 3) hG dL_law_787 rfl ?_
    refine aw_iadd hG dL_law_788 ?_
    refine aw_sld hG hX (sI h0 h7 hL (by decide) (by decide)) dL_law_789 ?_
    refine aw_i2l hG dL_law_790 ?_
    refine aw_ldc2 hG lM_0 dL_law_791 ?_
    refine aw_land hG dL_law_794 ?_
    refine aw_lor hG dL_law_795 ?_
    refine aw_aload_n hG 1 rfl dL_law_796 rfl ?_
    refine aw_iload hG 5 rfl dL_law_797 ?_
    refine aw_iconst (v := 4) hG dL_law_799 rfl ?_
    refine aw_iadd hG dL_law_800 ?_
    refine aw_sld hG hX (sI h0 h7 hL (by decide) (by decide)) dL_law_801 ?_
    refine aw_aload_n hG 1 rfl dL_law_802 rfl ?_
    refine aw_iload hG 5 rfl dL_law_803 ?_
    refine aw_iconst (v := 5) hG dL_law_805 rfl ?_
    refine aw_iadd hG dL_law_806 ?_
    refine aw_sld hG hX (sI h0 h7 hL (by decide) (by decide)) dL_law_807 ?_
    refine aw_aload_n hG 1 rfl dL_law_808 rfl ?_
    refine aw_iload hG 5 rfl dL_law_809 ?_
    refine aw_bipush (v := 6) hG dL_law_811 rfl ?_
    refine aw_iadd hG dL_law_813 ?_
    refine aw_sld hG hX (sI h0 h7 hL (by decide) (by decide)) dL_law_814 ?_
    refine aw_callVi (As := [.int (xs (i + 1).toNatClampNeg), .long ((jshl ((xs (i + 2).toNatClampNeg).toInt64) 32) ||| (((xs (i + 3).toNatClampNeg).toInt64) &&& 4294967295)), .int (xs (i + 4).toNatClampNeg), .int (xs (i + 5).toNatClampNeg), .int (xs (i + 6).toNatClampNeg)]) (rest := []) hG (c_X7_digits (c := c9) (m := m) (z := (vp_updL z 0 v9)) hs9) lM_77 wvM_X7_digits (rv_X7 hG) rfl rfl rfl (by decide) (Nat.le_trans (Nat.le_refl _) hk) hn (Nat.le_of_ble_eq_true rfl) dL_law_815 ?_
    refine aw_istore (L' := [(6, .int s9.1), (5, .int 0), (0, .ref b), (1, .ref (wad (cxw g) 0)), (2, .ref (wad (cxw g) 17)), (3, .ref (wad (cxw g) 26)), (4, .int i)]) hG dL_law_818 (by decide) rfl ?_
    refine aw_aload_n hG 4 rfl dL_law_820 rfl ?_
    refine aw_callVi (As := []) (rest := []) hG (c_X7_thrown (c := c9) (m := s9.2) (z := (vp_updL z 0 v9))) lM_7 wvM_X7_thrown (rv_X7 hG) rfl rfl rfl (by decide) (Nat.le_trans (Nat.le_refl _) hk) hn (Nat.le_of_ble_eq_true rfl) dL_law_821 ?_
    refine aw_iload hG 1 rfl dL_law_824 ?_
    refine aw_icmp_eq (t := 831) hG dL_law_826 rfl (fun hq9 => ?_) (fun hq9 => ?_)
    rotate_left
    · exact absurd ht hq9
    refine aw_iload hG 1 rfl dL_law_831 ?_
    refine aw_if_ne (t := 848) hG dL_law_833 rfl (fun hq9 => ?_) (fun hq9 => ?_)
    · exact absurd rfl hq9
    refine aw_aload_n hG 5 rfl dL_law_836 rfl ?_
    refine aw_iconst (v := 0) hG dL_law_837 rfl ?_
    refine al_out hG dL_law_838 ?_
    refine aw_iload hG 0 rfl dL_law_839 ?_
    refine aw_i2l hG dL_law_841 ?_
    refine aw_lc_eq (t := 848) hG dL_law_842 rfl dL_law_843 rfl rfl (fun hq9 => ?_) (fun hq9 => ?_)
    rotate_left
    · exact absurd (pk_uLs.trans h1.symm) hq9
    refine aw_goto (t := 2542) hG dL_law_848 rfl ?_
    refine aw_sub (L' := [(0, .ref b), (1, .ref (wad (cxw g) 0)), (2, .ref (wad (cxw g) 17)), (3, .ref (wad (cxw g) 26)), (4, .int i)]) [2, 3, 4, 5, 6] rfl ?_
    exact kk _ _ _ hI2
set_option maxRecDepth 20000 in
set_option maxHeartbeats 4000000 in
theorem lc_fixed {Inv : CS → MS → Prop} (hA : AllA Inv) (hG : Gd g RL cL_law 8 12 mc ms) (hst : g.1.2.1.stackTraces = false) (hX : LX g b Ln xs) {i : Int32} (h0 : 0 ≤ i.toInt) (h7 : i.toInt + 7 ≤ Ln) (hL : Ln ≤ 3584) {c : CS} {m : MS} {z : Nat → Int64} (hk : k + 1 ≤ mc) (hn : n + 6 ≤ ms) (hI : Inv c m) (kk : ∀ c' m' z', Inv c' m' → AW g 2542 [(0, .ref b), (1, .ref (wad (cxw g) 0)), (2, .ref (wad (cxw g) 17)), (3, .ref (wad (cxw g) 26)), (4, .int i)] [] (c', m', z') (k + 1) (n + 6)) : AW g 851 [(0, .ref b), (1, .ref (wad (cxw g) 0)), (2, .ref (wad (cxw g) 17)), (3, .ref (wad (cxw g) 26)), (4, .int i)] [] (c, m, z) k n := by
  obtain ⟨v9, m9, hm, hcl⟩ := hA.2.2.2.2.2.2.1 (xs (i + 1).toNatClampNeg) ((jshl ((xs (i + 2).toNatClampNeg).toInt64) 32) ||| (((xs (i + 3).toNatClampNeg).toInt64) &&& 4294967295)) (xs (i + 4).toNatClampNeg) (xs (i + 5).toNatClampNeg) c m hI
  unfold mo_fixed at hm
  obtain ⟨s9, hs9, he9⟩ := Option.map_eq_some_iff.mp hm
  have h1 := congrArg Prod.fst he9
  have h2 := congrArg Prod.snd he9
  dsimp only at h1 h2
  subst h2
  rcases hcl with ⟨hc, ht, hI2⟩ | ⟨c9, hc, ht, hI2⟩
  · skip
    refine aw_aload_n hG 1 rfl dL_law_851 rfl ?_
    refine aw_aload_n hG 0 rfl dL_law_852 rfl ?_
    refine aw_iload hG 4 rfl dL_law_853 ?_
    refine aw_iconst (v := 1) hG dL_law_855 rfl ?_
    refine aw_iadd hG dL_law_856 ?_
    refine aw_sld hG hX (sI h0 h7 hL (by decide) (by decide)) dL_law_857 ?_
    refine aw_aload_n hG 0 rfl dL_law_858 rfl ?_
    refine aw_iload hG 4 rfl dL_law_859 ?_
    refine aw_iconst (v := 2) hG dL_law_861 rfl ?_
    refine aw_iadd hG dL_law_862 ?_
    refine aw_sld hG hX (sI h0 h7 hL (by decide) (by decide)) dL_law_863 ?_
    refine aw_i2l hG dL_law_864 ?_
    refine aw_bipush (v := 32) hG dL_law_865 rfl ?_
    refine aw_lshlJ hG dL_law_867 ?_
    refine aw_aload_n hG 0 rfl dL_law_868 rfl ?_
    refine aw_iload hG 4 rfl dL_law_869 ?_
    refine aw_iconst (v := 3) hG dL_law_871 rfl ?_
    refine aw_iadd hG dL_law_872 ?_
    refine aw_sld hG hX (sI h0 h7 hL (by decide) (by decide)) dL_law_873 ?_
    refine aw_i2l hG dL_law_874 ?_
    refine aw_ldc2 hG lM_0 dL_law_875 ?_
    refine aw_land hG dL_law_878 ?_
    refine aw_lor hG dL_law_879 ?_
    refine aw_aload_n hG 0 rfl dL_law_880 rfl ?_
    refine aw_iload hG 4 rfl dL_law_881 ?_
    refine aw_iconst (v := 4) hG dL_law_883 rfl ?_
    refine aw_iadd hG dL_law_884 ?_
    refine aw_sld hG hX (sI h0 h7 hL (by decide) (by decide)) dL_law_885 ?_
    refine aw_aload_n hG 0 rfl dL_law_886 rfl ?_
    refine aw_iload hG 4 rfl dL_law_887 ?_
    refine aw_iconst (v := 5) hG dL_law_889 rfl ?_
    refine aw_iadd hG dL_law_890 ?_
    refine aw_sld hG hX (sI h0 h7 hL (by decide) (by decide)) dL_law_891 ?_
    refine aw_aload_n hG 3 rfl dL_law_892 rfl ?_
    refine aw_callH (v := 1) (σ' := (c, m, z)) (As := [.ref (wad (cxw g) 0), .int (xs (i + 1).toNatClampNeg), .long ((jshl ((xs (i + 2).toNatClampNeg).toInt64) 32) ||| (((xs (i + 3).toNatClampNeg).toInt64) &&& 4294967295)), .int (xs (i + 4).toNatClampNeg), .int (xs (i + 5).toNatClampNeg), .ref (wad (cxw g) 26)]) (rest := []) hG hst (c_L_fixed hc) lM_82 wh_fixed rfl rfl rfl (by decide) hk hn (Nat.le_of_ble_eq_true rfl) dL_law_893 ?_
    refine aw_istore (L' := [(5, .int 1), (0, .ref b), (1, .ref (wad (cxw g) 0)), (2, .ref (wad (cxw g) 17)), (3, .ref (wad (cxw g) 26)), (4, .int i)]) hG dL_law_896 (by decide) rfl ?_
    refine aw_aload_n hG 3 rfl dL_law_898 rfl ?_
    refine aw_aload_n hG 1 rfl dL_law_899 rfl ?_
    refine aw_iload hG 5 rfl dL_law_900 ?_
    refine aw_iconst (v := 1) hG dL_law_902 rfl ?_
    refine aw_iadd hG dL_law_903 ?_
    refine aw_sld hG hX (sI h0 h7 hL (by decide) (by decide)) dL_law_904 ?_
    refine aw_aload_n hG 1 rfl dL_law_905 rfl ?_
    refine aw_iload hG 5 rfl dL_law_906 ?_
    refine aw_iconst (v := 2) hG dL_law_908 rfl ?_
    refine aw_iadd hG dL_law_909 ?_
    refine aw_sld hG hX (sI h0 h7 hL (by decide) (by decide)) dL_law_910 ?_
    refine aw_i2l hG dL_law_911 ?_
    refine aw_bipush (v := 32) hG dL_law_912 rfl ?_
    refine aw_lshlJ hG dL_law_914 ?_
    refine aw_aload_n hG 1 rfl dL_law_915 rfl ?_
    refine aw_iload hG 5 rfl dL_law_916 ?_
    refine aw_iconst (v := 3) hG dL_law_918 rfl ?_
    refine aw_iadd hG dL_law_919 ?_
    refine aw_sld hG hX (sI h0 h7 hL (by decide) (by decide)) dL_law_920 ?_
    refine aw_i2l hG dL_law_921 ?_
    refine aw_ldc2 hG lM_0 dL_law_922 ?_
    refine aw_land hG dL_law_925 ?_
    refine aw_lor hG dL_law_926 ?_
    refine aw_aload_n hG 1 rfl dL_law_927 rfl ?_
    refine aw_iload hG 5 rfl dL_law_928 ?_
    refine aw_iconst (v := 4) hG dL_law_930 rfl ?_
    refine aw_iadd hG dL_law_931 ?_
    refine aw_sld hG hX (sI h0 h7 hL (by decide) (by decide)) dL_law_932 ?_
    refine aw_aload_n hG 1 rfl dL_law_933 rfl ?_
    refine aw_iload hG 5 rfl dL_law_934 ?_
    refine aw_iconst (v := 5) hG dL_law_936 rfl ?_
    refine aw_iadd hG dL_law_937 ?_
    refine aw_sld hG hX (sI h0 h7 hL (by decide) (by decide)) dL_law_938 ?_
    refine aw_callVi (As := [.int (xs (i + 1).toNatClampNeg), .long ((jshl ((xs (i + 2).toNatClampNeg).toInt64) 32) ||| (((xs (i + 3).toNatClampNeg).toInt64) &&& 4294967295)), .int (xs (i + 4).toNatClampNeg), .int (xs (i + 5).toNatClampNeg)]) (rest := []) hG (c_X7_fixed (c := c) (m := m) (z := z) hs9) lM_83 wvM_X7_fixed (rv_X7 hG) rfl rfl rfl (by decide) (Nat.le_trans (Nat.le_refl _) hk) hn (Nat.le_of_ble_eq_true rfl) dL_law_939 ?_
    refine aw_istore (L' := [(6, .int s9.1), (5, .int 1), (0, .ref b), (1, .ref (wad (cxw g) 0)), (2, .ref (wad (cxw g) 17)), (3, .ref (wad (cxw g) 26)), (4, .int i)]) hG dL_law_942 (by decide) rfl ?_
    refine aw_aload_n hG 4 rfl dL_law_944 rfl ?_
    refine aw_callVi (As := []) (rest := []) hG (c_X7_thrown (c := c) (m := s9.2) (z := z)) lM_7 wvM_X7_thrown (rv_X7 hG) rfl rfl rfl (by decide) (Nat.le_trans (Nat.le_refl _) hk) hn (Nat.le_of_ble_eq_true rfl) dL_law_945 ?_
    refine aw_iload hG 1 rfl dL_law_948 ?_
    refine aw_icmp_eq (t := 955) hG dL_law_950 rfl (fun hq9 => ?_) (fun hq9 => ?_)
    rotate_left
    · exact absurd ht hq9
    refine aw_iload hG 1 rfl dL_law_955 ?_
    refine aw_if_ne (t := 972) hG dL_law_957 rfl (fun hq9 => ?_) (fun hq9 => ?_)
    rotate_left
    · exact absurd hq9 (by decide)
    refine aw_goto (t := 2542) hG dL_law_972 rfl ?_
    refine aw_sub (L' := [(0, .ref b), (1, .ref (wad (cxw g) 0)), (2, .ref (wad (cxw g) 17)), (3, .ref (wad (cxw g) 26)), (4, .int i)]) [2, 3, 4, 5, 6] rfl ?_
    exact kk _ _ _ hI2
  · skip
    refine aw_aload_n hG 1 rfl dL_law_851 rfl ?_
    refine aw_aload_n hG 0 rfl dL_law_852 rfl ?_
    refine aw_iload hG 4 rfl dL_law_853 ?_
    refine aw_iconst (v := 1) hG dL_law_855 rfl ?_
    refine aw_iadd hG dL_law_856 ?_
    refine aw_sld hG hX (sI h0 h7 hL (by decide) (by decide)) dL_law_857 ?_
    refine aw_aload_n hG 0 rfl dL_law_858 rfl ?_
    refine aw_iload hG 4 rfl dL_law_859 ?_
    refine aw_iconst (v := 2) hG dL_law_861 rfl ?_
    refine aw_iadd hG dL_law_862 ?_
    refine aw_sld hG hX (sI h0 h7 hL (by decide) (by decide)) dL_law_863 ?_
    refine aw_i2l hG dL_law_864 ?_
    refine aw_bipush (v := 32) hG dL_law_865 rfl ?_
    refine aw_lshlJ hG dL_law_867 ?_
    refine aw_aload_n hG 0 rfl dL_law_868 rfl ?_
    refine aw_iload hG 4 rfl dL_law_869 ?_
    refine aw_iconst (v := 3) hG dL_law_871 rfl ?_
    refine aw_iadd hG dL_law_872 ?_
    refine aw_sld hG hX (sI h0 h7 hL (by decide) (by decide)) dL_law_873 ?_
    refine aw_i2l hG dL_law_874 ?_
    refine aw_ldc2 hG lM_0 dL_law_875 ?_
    refine aw_land hG dL_law_878 ?_
    refine aw_lor hG dL_law_879 ?_
    refine aw_aload_n hG 0 rfl dL_law_880 rfl ?_
    refine aw_iload hG 4 rfl dL_law_881 ?_
    refine aw_iconst (v := 4) hG dL_law_883 rfl ?_
    refine aw_iadd hG dL_law_884 ?_
    refine aw_sld hG hX (sI h0 h7 hL (by decide) (by decide)) dL_law_885 ?_
    refine aw_aload_n hG 0 rfl dL_law_886 rfl ?_
    refine aw_iload hG 4 rfl dL_law_887 ?_
    refine aw_iconst (v := 5) hG dL_law_889 rfl ?_
    refine aw_iadd hG dL_law_890 ?_
    refine aw_sld hG hX (sI h0 h7 hL (by decide) (by decide)) dL_law_891 ?_
    refine aw_aload_n hG 3 rfl dL_law_892 rfl ?_
    refine aw_callH (v := 0) (σ' := (c9, m, vp_updL z 0 v9)) (As := [.ref (wad (cxw g) 0), .int (xs (i + 1).toNatClampNeg), .long ((jshl ((xs (i + 2).toNatClampNeg).toInt64) 32) ||| (((xs (i + 3).toNatClampNeg).toInt64) &&& 4294967295)), .int (xs (i + 4).toNatClampNeg), .int (xs (i + 5).toNatClampNeg), .ref (wad (cxw g) 26)]) (rest := []) hG hst (c_L_fixed hc) lM_82 wh_fixed rfl rfl rfl (by decide) hk hn (Nat.le_of_ble_eq_true rfl) dL_law_893 ?_
    refine aw_istore (L' := [(5, .int 0), (0, .ref b), (1, .ref (wad (cxw g) 0)), (2, .ref (wad (cxw g) 17)), (3, .ref (wad (cxw g) 26)), (4, .int i)]) hG dL_law_896 (by decide) rfl ?_
    refine aw_aload_n hG 3 rfl dL_law_898 rfl ?_
    refine aw_aload_n hG 1 rfl dL_law_899 rfl ?_
    refine aw_iload hG 5 rfl dL_law_900 ?_
    refine aw_iconst (v := 1) hG dL_law_902 rfl ?_
    refine aw_iadd hG dL_law_903 ?_
    refine aw_sld hG hX (sI h0 h7 hL (by decide) (by decide)) dL_law_904 ?_
    refine aw_aload_n hG 1 rfl dL_law_905 rfl ?_
    refine aw_iload hG 5 rfl dL_law_906 ?_
    refine aw_iconst (v := 2) hG dL_law_908 rfl ?_
    refine aw_iadd hG dL_law_909 ?_
    refine aw_sld hG hX (sI h0 h7 hL (by decide) (by decide)) dL_law_910 ?_
    refine aw_i2l hG dL_law_911 ?_
    refine aw_bipush (v := 32) hG dL_law_912 rfl ?_
    refine aw_lshlJ hG dL_law_914 ?_
    refine aw_aload_n hG 1 rfl dL_law_915 rfl ?_
    refine aw_iload hG 5 rfl dL_law_916 ?_
    refine aw_iconst (v := 3) hG dL_law_918 rfl ?_
    refine aw_iadd hG dL_law_919 ?_
    refine aw_sld hG hX (sI h0 h7 hL (by decide) (by decide)) dL_law_920 ?_
    refine aw_i2l hG dL_law_921 ?_
    refine aw_ldc2 hG lM_0 dL_law_922 ?_
    refine aw_land hG dL_law_925 ?_
    refine aw_lor hG dL_law_926 ?_
    refine aw_aload_n hG 1 rfl dL_law_927 rfl ?_
    refine aw_iload hG 5 rfl dL_law_928 ?_
    refine aw_iconst (v := 4) hG dL_law_930 rfl ?_
    refine aw_iadd hG dL_law_931 ?_
    refine aw_sld hG hX (sI h0 h7 hL (by decide) (by decide)) dL_law_932 ?_
    refine aw_aload_n hG 1 rfl dL_law_933 rfl ?_
    refine aw_iload hG 5 rfl dL_law_934 ?_
    refine aw_iconst (v := 5) hG dL_law_936 rfl ?_
    refine aw_iadd hG dL_law_937 ?_
    refine aw_sld hG hX (sI h0 h7 hL (by decide) (by decide)) dL_law_938 ?_
    refine aw_callVi (As := [.int (xs (i + 1).toNatClampNeg), .long ((jshl ((xs (i + 2).toNatClampNeg).toInt64) 32) ||| (((xs (i + 3).toNatClampNeg).toInt64) &&& 4294967295)), .int (xs (i + 4).toNatClampNeg), .int (xs (i + 5).toNatClampNeg)]) (rest := []) hG (c_X7_fixed (c := c9) (m := m) (z := (vp_updL z 0 v9)) hs9) lM_83 wvM_X7_fixed (rv_X7 hG) rfl rfl rfl (by decide) (Nat.le_trans (Nat.le_refl _) hk) hn (Nat.le_of_ble_eq_true rfl) dL_law_939 ?_
    refine aw_istore (L' := [(6, .int s9.1), (5, .int 0), (0, .ref b), (1, .ref (wad (cxw g) 0)), (2, .ref (wad (cxw g) 17)), (3, .ref (wad (cxw g) 26)), (4, .int i)]) hG dL_law_942 (by decide) rfl ?_
    refine aw_aload_n hG 4 rfl dL_law_944 rfl ?_
    refine aw_callVi (As := []) (rest := []) hG (c_X7_thrown (c := c9) (m := s9.2) (z := (vp_updL z 0 v9))) lM_7 wvM_X7_thrown (rv_X7 hG) rfl rfl rfl (by decide) (Nat.le_trans (Nat.le_refl _) hk) hn (Nat.le_of_ble_eq_true rfl) dL_law_945 ?_
    refine aw_iload hG 1 rfl dL_law_948 ?_
    refine aw_icmp_eq (t := 955) hG dL_law_950 rfl (fun hq9 => ?_) (fun hq9 => ?_)
    rotate_left
    · exact absurd ht hq9
    refine aw_iload hG 1 rfl dL_law_955 ?_
    refine aw_if_ne (t := 972) hG dL_law_957 rfl (fun hq9 => ?_) (fun hq9 => ?_)
    · exact absurd rfl hq9
    refine aw_aload_n hG 5 rfl dL_law_960 rfl ?_
    refine aw_iconst (v := 0) hG dL_law_961 rfl ?_
    refine al_out hG dL_law_962 ?_
    refine aw_iload hG 0 rfl dL_law_963 ?_
    refine aw_i2l hG dL_law_965 ?_
    refine aw_lc_eq (t := 972) hG dL_law_966 rfl dL_law_967 rfl rfl (fun hq9 => ?_) (fun hq9 => ?_)
    rotate_left
    · exact absurd (pk_uLs.trans h1.symm) hq9
    refine aw_goto (t := 2542) hG dL_law_972 rfl ?_
    refine aw_sub (L' := [(0, .ref b), (1, .ref (wad (cxw g) 0)), (2, .ref (wad (cxw g) 17)), (3, .ref (wad (cxw g) 26)), (4, .int i)]) [2, 3, 4, 5, 6] rfl ?_
    exact kk _ _ _ hI2
set_option maxRecDepth 20000 in
set_option maxHeartbeats 4000000 in
theorem lc_hex {Inv : CS → MS → Prop} (hA : AllA Inv) (hG : Gd g RL cL_law 8 12 mc ms) (hst : g.1.2.1.stackTraces = false) (hX : LX g b Ln xs) {i : Int32} (h0 : 0 ≤ i.toInt) (h7 : i.toInt + 7 ≤ Ln) (hL : Ln ≤ 3584) {c : CS} {m : MS} {z : Nat → Int64} (hk : k + 1 ≤ mc) (hn : n + 6 ≤ ms) (hI : Inv c m) (kk : ∀ c' m' z', Inv c' m' → AW g 2542 [(0, .ref b), (1, .ref (wad (cxw g) 0)), (2, .ref (wad (cxw g) 17)), (3, .ref (wad (cxw g) 26)), (4, .int i)] [] (c', m', z') (k + 1) (n + 6)) : AW g 975 [(0, .ref b), (1, .ref (wad (cxw g) 0)), (2, .ref (wad (cxw g) 17)), (3, .ref (wad (cxw g) 26)), (4, .int i)] [] (c, m, z) k n := by
  obtain ⟨v9, m9, hm, hcl⟩ := hA.2.2.2.2.2.2.2.1 (xs (i + 1).toNatClampNeg) ((jshl ((xs (i + 2).toNatClampNeg).toInt64) 32) ||| (((xs (i + 3).toNatClampNeg).toInt64) &&& 4294967295)) c m hI
  unfold mo_hex at hm
  obtain ⟨s9, hs9, he9⟩ := Option.map_eq_some_iff.mp hm
  have h1 := congrArg Prod.fst he9
  have h2 := congrArg Prod.snd he9
  dsimp only at h1 h2
  subst h2
  rcases hcl with ⟨hc, ht, hI2⟩ | ⟨c9, hc, ht, hI2⟩
  · skip
    refine aw_aload_n hG 1 rfl dL_law_975 rfl ?_
    refine aw_aload_n hG 0 rfl dL_law_976 rfl ?_
    refine aw_iload hG 4 rfl dL_law_977 ?_
    refine aw_iconst (v := 1) hG dL_law_979 rfl ?_
    refine aw_iadd hG dL_law_980 ?_
    refine aw_sld hG hX (sI h0 h7 hL (by decide) (by decide)) dL_law_981 ?_
    refine aw_aload_n hG 0 rfl dL_law_982 rfl ?_
    refine aw_iload hG 4 rfl dL_law_983 ?_
    refine aw_iconst (v := 2) hG dL_law_985 rfl ?_
    refine aw_iadd hG dL_law_986 ?_
    refine aw_sld hG hX (sI h0 h7 hL (by decide) (by decide)) dL_law_987 ?_
    refine aw_i2l hG dL_law_988 ?_
    refine aw_bipush (v := 32) hG dL_law_989 rfl ?_
    refine aw_lshlJ hG dL_law_991 ?_
    refine aw_aload_n hG 0 rfl dL_law_992 rfl ?_
    refine aw_iload hG 4 rfl dL_law_993 ?_
    refine aw_iconst (v := 3) hG dL_law_995 rfl ?_
    refine aw_iadd hG dL_law_996 ?_
    refine aw_sld hG hX (sI h0 h7 hL (by decide) (by decide)) dL_law_997 ?_
    refine aw_i2l hG dL_law_998 ?_
    refine aw_ldc2 hG lM_0 dL_law_999 ?_
    refine aw_land hG dL_law_1002 ?_
    refine aw_lor hG dL_law_1003 ?_
    refine aw_aload_n hG 3 rfl dL_law_1004 rfl ?_
    refine aw_callH (v := 1) (σ' := (c, m, z)) (As := [.ref (wad (cxw g) 0), .int (xs (i + 1).toNatClampNeg), .long ((jshl ((xs (i + 2).toNatClampNeg).toInt64) 32) ||| (((xs (i + 3).toNatClampNeg).toInt64) &&& 4294967295)), .ref (wad (cxw g) 26)]) (rest := []) hG hst (c_L_hex hc) lM_88 wh_hex rfl rfl rfl (by decide) hk hn (Nat.le_of_ble_eq_true rfl) dL_law_1005 ?_
    refine aw_istore (L' := [(5, .int 1), (0, .ref b), (1, .ref (wad (cxw g) 0)), (2, .ref (wad (cxw g) 17)), (3, .ref (wad (cxw g) 26)), (4, .int i)]) hG dL_law_1008 (by decide) rfl ?_
    refine aw_aload_n hG 3 rfl dL_law_1010 rfl ?_
    refine aw_aload_n hG 1 rfl dL_law_1011 rfl ?_
    refine aw_iload hG 5 rfl dL_law_1012 ?_
    refine aw_iconst (v := 1) hG dL_law_1014 rfl ?_
    refine aw_iadd hG dL_law_1015 ?_
    refine aw_sld hG hX (sI h0 h7 hL (by decide) (by decide)) dL_law_1016 ?_
    refine aw_aload_n hG 1 rfl dL_law_1017 rfl ?_
    refine aw_iload hG 5 rfl dL_law_1018 ?_
    refine aw_iconst (v := 2) hG dL_law_1020 rfl ?_
    refine aw_iadd hG dL_law_1021 ?_
    refine aw_sld hG hX (sI h0 h7 hL (by decide) (by decide)) dL_law_1022 ?_
    refine aw_i2l hG dL_law_1023 ?_
    refine aw_bipush (v := 32) hG dL_law_1024 rfl ?_
    refine aw_lshlJ hG dL_law_1026 ?_
    refine aw_aload_n hG 1 rfl dL_law_1027 rfl ?_
    refine aw_iload hG 5 rfl dL_law_1028 ?_
    refine aw_iconst (v := 3) hG dL_law_1030 rfl ?_
    refine aw_iadd hG dL_law_1031 ?_
    refine aw_sld hG hX (sI h0 h7 hL (by decide) (by decide)) dL_law_1032 ?_
    refine aw_i2l hG dL_law_1033 ?_
    refine aw_ldc2 hG lM_0 dL_law_1034 ?_
    refine aw_land hG dL_law_1037 ?_
    refine aw_lor hG dL_law_1038 ?_
    refine aw_callVi (As := [.int (xs (i + 1).toNatClampNeg), .long ((jshl ((xs (i + 2).toNatClampNeg).toInt64) 32) ||| (((xs (i + 3).toNatClampNeg).toInt64) &&& 4294967295))]) (rest := []) hG (c_X7_hex (c := c) (m := m) (z := z) hs9) lM_89 wvM_X7_hex (rv_X7 hG) rfl rfl rfl (by decide) (Nat.le_trans (Nat.le_refl _) hk) hn (Nat.le_of_ble_eq_true rfl) dL_law_1039 ?_
    refine aw_istore (L' := [(6, .int s9.1), (5, .int 1), (0, .ref b), (1, .ref (wad (cxw g) 0)), (2, .ref (wad (cxw g) 17)), (3, .ref (wad (cxw g) 26)), (4, .int i)]) hG dL_law_1042 (by decide) rfl ?_
    refine aw_aload_n hG 4 rfl dL_law_1044 rfl ?_
    refine aw_callVi (As := []) (rest := []) hG (c_X7_thrown (c := c) (m := s9.2) (z := z)) lM_7 wvM_X7_thrown (rv_X7 hG) rfl rfl rfl (by decide) (Nat.le_trans (Nat.le_refl _) hk) hn (Nat.le_of_ble_eq_true rfl) dL_law_1045 ?_
    refine aw_iload hG 1 rfl dL_law_1048 ?_
    refine aw_icmp_eq (t := 1055) hG dL_law_1050 rfl (fun hq9 => ?_) (fun hq9 => ?_)
    rotate_left
    · exact absurd ht hq9
    refine aw_iload hG 1 rfl dL_law_1055 ?_
    refine aw_if_ne (t := 1072) hG dL_law_1057 rfl (fun hq9 => ?_) (fun hq9 => ?_)
    rotate_left
    · exact absurd hq9 (by decide)
    refine aw_goto (t := 2542) hG dL_law_1072 rfl ?_
    refine aw_sub (L' := [(0, .ref b), (1, .ref (wad (cxw g) 0)), (2, .ref (wad (cxw g) 17)), (3, .ref (wad (cxw g) 26)), (4, .int i)]) [2, 3, 4, 5, 6] rfl ?_
    exact kk _ _ _ hI2
  · skip
    refine aw_aload_n hG 1 rfl dL_law_975 rfl ?_
    refine aw_aload_n hG 0 rfl dL_law_976 rfl ?_
    refine aw_iload hG 4 rfl dL_law_977 ?_
    refine aw_iconst (v := 1) hG dL_law_979 rfl ?_
    refine aw_iadd hG dL_law_980 ?_
    refine aw_sld hG hX (sI h0 h7 hL (by decide) (by decide)) dL_law_981 ?_
    refine aw_aload_n hG 0 rfl dL_law_982 rfl ?_
    refine aw_iload hG 4 rfl dL_law_983 ?_
    refine aw_iconst (v := 2) hG dL_law_985 rfl ?_
    refine aw_iadd hG dL_law_986 ?_
    refine aw_sld hG hX (sI h0 h7 hL (by decide) (by decide)) dL_law_987 ?_
    refine aw_i2l hG dL_law_988 ?_
    refine aw_bipush (v := 32) hG dL_law_989 rfl ?_
    refine aw_lshlJ hG dL_law_991 ?_
    refine aw_aload_n hG 0 rfl dL_law_992 rfl ?_
    refine aw_iload hG 4 rfl dL_law_993 ?_
    refine aw_iconst (v := 3) hG dL_law_995 rfl ?_
    refine aw_iadd hG dL_law_996 ?_
    refine aw_sld hG hX (sI h0 h7 hL (by decide) (by decide)) dL_law_997 ?_
    refine aw_i2l hG dL_law_998 ?_
    refine aw_ldc2 hG lM_0 dL_law_999 ?_
    refine aw_land hG dL_law_1002 ?_
    refine aw_lor hG dL_law_1003 ?_
    refine aw_aload_n hG 3 rfl dL_law_1004 rfl ?_
    refine aw_callH (v := 0) (σ' := (c9, m, vp_updL z 0 v9)) (As := [.ref (wad (cxw g) 0), .int (xs (i + 1).toNatClampNeg), .long ((jshl ((xs (i + 2).toNatClampNeg).toInt64) 32) ||| (((xs (i + 3).toNatClampNeg).toInt64) &&& 4294967295)), .ref (wad (cxw g) 26)]) (rest := []) hG hst (c_L_hex hc) lM_88 wh_hex rfl rfl rfl (by decide) hk hn (Nat.le_of_ble_eq_true rfl) dL_law_1005 ?_
    refine aw_istore (L' := [(5, .int 0), (0, .ref b), (1, .ref (wad (cxw g) 0)), (2, .ref (wad (cxw g) 17)), (3, .ref (wad (cxw g) 26)), (4, .int i)]) hG dL_law_1008 (by decide) rfl ?_
    refine aw_aload_n hG 3 rfl dL_law_1010 rfl ?_
    refine aw_aload_n hG 1 rfl dL_law_1011 rfl ?_
    refine aw_iload hG 5 rfl dL_law_1012 ?_
    refine aw_iconst (v := 1) hG dL_law_1014 rfl ?_
    refine aw_iadd hG dL_law_1015 ?_
    refine aw_sld hG hX (sI h0 h7 hL (by decide) (by decide)) dL_law_1016 ?_
    refine aw_aload_n hG 1 rfl dL_law_1017 rfl ?_
    refine aw_iload hG 5 rfl dL_law_1018 ?_
    refine aw_iconst (v := 2) hG dL_law_1020 rfl ?_
    refine aw_iadd hG dL_law_1021 ?_
    refine aw_sld hG hX (sI h0 h7 hL (by decide) (by decide)) dL_law_1022 ?_
    refine aw_i2l hG dL_law_1023 ?_
    refine aw_bipush (v := 32) hG dL_law_1024 rfl ?_
    refine aw_lshlJ hG dL_law_1026 ?_
    refine aw_aload_n hG 1 rfl dL_law_1027 rfl ?_
    refine aw_iload hG 5 rfl dL_law_1028 ?_
    refine aw_iconst (v := 3) hG dL_law_1030 rfl ?_
    refine aw_iadd hG dL_law_1031 ?_
    refine aw_sld hG hX (sI h0 h7 hL (by decide) (by decide)) dL_law_1032 ?_
    refine aw_i2l hG dL_law_1033 ?_
    refine aw_ldc2 hG lM_0 dL_law_1034 ?_
    refine aw_land hG dL_law_1037 ?_
    refine aw_lor hG dL_law_1038 ?_
    refine aw_callVi (As := [.int (xs (i + 1).toNatClampNeg), .long ((jshl ((xs (i + 2).toNatClampNeg).toInt64) 32) ||| (((xs (i + 3).toNatClampNeg).toInt64) &&& 4294967295))]) (rest := []) hG (c_X7_hex (c := c9) (m := m) (z := (vp_updL z 0 v9)) hs9) lM_89 wvM_X7_hex (rv_X7 hG) rfl rfl rfl (by decide) (Nat.le_trans (Nat.le_refl _) hk) hn (Nat.le_of_ble_eq_true rfl) dL_law_1039 ?_
    refine aw_istore (L' := [(6, .int s9.1), (5, .int 0), (0, .ref b), (1, .ref (wad (cxw g) 0)), (2, .ref (wad (cxw g) 17)), (3, .ref (wad (cxw g) 26)), (4, .int i)]) hG dL_law_1042 (by decide) rfl ?_
    refine aw_aload_n hG 4 rfl dL_law_1044 rfl ?_
    refine aw_callVi (As := []) (rest := []) hG (c_X7_thrown (c := c9) (m := s9.2) (z := (vp_updL z 0 v9))) lM_7 wvM_X7_thrown (rv_X7 hG) rfl rfl rfl (by decide) (Nat.le_trans (Nat.le_refl _) hk) hn (Nat.le_of_ble_eq_true rfl) dL_law_1045 ?_
    refine aw_iload hG 1 rfl dL_law_1048 ?_
    refine aw_icmp_eq (t := 1055) hG dL_law_1050 rfl (fun hq9 => ?_) (fun hq9 => ?_)
    rotate_left
    · exact absurd ht hq9
    refine aw_iload hG 1 rfl dL_law_1055 ?_
    refine aw_if_ne (t := 1072) hG dL_law_1057 rfl (fun hq9 => ?_) (fun hq9 => ?_)
    · exact absurd rfl hq9
    refine aw_aload_n hG 5 rfl dL_law_1060 rfl ?_
    refine aw_iconst (v := 0) hG dL_law_1061 rfl ?_
    refine al_out hG dL_law_1062 ?_
    refine aw_iload hG 0 rfl dL_law_1063 ?_
    refine aw_i2l hG dL_law_1065 ?_
    refine aw_lc_eq (t := 1072) hG dL_law_1066 rfl dL_law_1067 rfl rfl (fun hq9 => ?_) (fun hq9 => ?_)
    rotate_left
    · exact absurd (pk_uLs.trans h1.symm) hq9
    refine aw_goto (t := 2542) hG dL_law_1072 rfl ?_
    refine aw_sub (L' := [(0, .ref b), (1, .ref (wad (cxw g) 0)), (2, .ref (wad (cxw g) 17)), (3, .ref (wad (cxw g) 26)), (4, .int i)]) [2, 3, 4, 5, 6] rfl ?_
    exact kk _ _ _ hI2
set_option maxRecDepth 20000 in
set_option maxHeartbeats 4000000 in
theorem lc_out {Inv : CS → MS → Prop} (hA : AllA Inv) (hG : Gd g RL cL_law 8 12 mc ms) (hst : g.1.2.1.stackTraces = false) (hX : LX g b Ln xs) {i : Int32} (h0 : 0 ≤ i.toInt) (h7 : i.toInt + 7 ≤ Ln) (hL : Ln ≤ 3584) {c : CS} {m : MS} {z : Nat → Int64} (hk : k + 1 ≤ mc) (hn : n + 6 ≤ ms) (hI : Inv c m) (kk : ∀ c' m' z', Inv c' m' → AW g 2542 [(0, .ref b), (1, .ref (wad (cxw g) 0)), (2, .ref (wad (cxw g) 17)), (3, .ref (wad (cxw g) 26)), (4, .int i)] [] (c', m', z') (k + 1) (n + 6)) : AW g 1075 [(0, .ref b), (1, .ref (wad (cxw g) 0)), (2, .ref (wad (cxw g) 17)), (3, .ref (wad (cxw g) 26)), (4, .int i)] [] (c, m, z) k n := by
  obtain ⟨v9, m9, hm, hcl⟩ := hA.2.2.2.2.2.2.2.2.1 (xs (i + 1).toNatClampNeg) c m hI
  unfold mo_out at hm
  obtain ⟨s9, hs9, he9⟩ := Option.map_eq_some_iff.mp hm
  have h1 := congrArg Prod.fst he9
  have h2 := congrArg Prod.snd he9
  dsimp only at h1 h2
  subst h2
  rcases hcl with ⟨hc, ht, hI2⟩ | ⟨c9, hc, ht, hI2⟩
  · skip
    refine aw_aload_n hG 1 rfl dL_law_1075 rfl ?_
    refine aw_aload_n hG 0 rfl dL_law_1076 rfl ?_
    refine aw_iload hG 4 rfl dL_law_1077 ?_
    refine aw_iconst (v := 1) hG dL_law_1079 rfl ?_
    refine aw_iadd hG dL_law_1080 ?_
    refine aw_sld hG hX (sI h0 h7 hL (by decide) (by decide)) dL_law_1081 ?_
    refine aw_aload_n hG 3 rfl dL_law_1082 rfl ?_
    refine aw_callH (v := 1) (σ' := (c, m, z)) (As := [.ref (wad (cxw g) 0), .int (xs (i + 1).toNatClampNeg), .ref (wad (cxw g) 26)]) (rest := []) hG hst (c_L_out hc) lM_94 wh_out rfl rfl rfl (by decide) hk hn (Nat.le_of_ble_eq_true rfl) dL_law_1083 ?_
    refine aw_istore (L' := [(5, .int 1), (0, .ref b), (1, .ref (wad (cxw g) 0)), (2, .ref (wad (cxw g) 17)), (3, .ref (wad (cxw g) 26)), (4, .int i)]) hG dL_law_1086 (by decide) rfl ?_
    refine aw_aload_n hG 3 rfl dL_law_1088 rfl ?_
    refine aw_aload_n hG 1 rfl dL_law_1089 rfl ?_
    refine aw_iload hG 5 rfl dL_law_1090 ?_
    refine aw_iconst (v := 1) hG dL_law_1092 rfl ?_
    refine aw_iadd hG dL_law_1093 ?_
    refine aw_sld hG hX (sI h0 h7 hL (by decide) (by decide)) dL_law_1094 ?_
    refine aw_callVi (As := [.int (xs (i + 1).toNatClampNeg)]) (rest := []) hG (c_X7_out (c := c) (m := m) (z := z) hs9) lM_95 wvM_X7_out (rv_X7 hG) rfl rfl rfl (by decide) (Nat.le_trans (Nat.le_refl _) hk) hn (Nat.le_of_ble_eq_true rfl) dL_law_1095 ?_
    refine aw_istore (L' := [(6, .int s9.1), (5, .int 1), (0, .ref b), (1, .ref (wad (cxw g) 0)), (2, .ref (wad (cxw g) 17)), (3, .ref (wad (cxw g) 26)), (4, .int i)]) hG dL_law_1098 (by decide) rfl ?_
    refine aw_aload_n hG 4 rfl dL_law_1100 rfl ?_
    refine aw_callVi (As := []) (rest := []) hG (c_X7_thrown (c := c) (m := s9.2) (z := z)) lM_7 wvM_X7_thrown (rv_X7 hG) rfl rfl rfl (by decide) (Nat.le_trans (Nat.le_refl _) hk) hn (Nat.le_of_ble_eq_true rfl) dL_law_1101 ?_
    refine aw_iload hG 1 rfl dL_law_1104 ?_
    refine aw_icmp_eq (t := 1111) hG dL_law_1106 rfl (fun hq9 => ?_) (fun hq9 => ?_)
    rotate_left
    · exact absurd ht hq9
    refine aw_iload hG 1 rfl dL_law_1111 ?_
    refine aw_if_ne (t := 1128) hG dL_law_1113 rfl (fun hq9 => ?_) (fun hq9 => ?_)
    rotate_left
    · exact absurd hq9 (by decide)
    refine aw_goto (t := 2542) hG dL_law_1128 rfl ?_
    refine aw_sub (L' := [(0, .ref b), (1, .ref (wad (cxw g) 0)), (2, .ref (wad (cxw g) 17)), (3, .ref (wad (cxw g) 26)), (4, .int i)]) [2, 3, 4, 5, 6] rfl ?_
    exact kk _ _ _ hI2
  · skip
    refine aw_aload_n hG 1 rfl dL_law_1075 rfl ?_
    refine aw_aload_n hG 0 rfl dL_law_1076 rfl ?_
    refine aw_iload hG 4 rfl dL_law_1077 ?_
    refine aw_iconst (v := 1) hG dL_law_1079 rfl ?_
    refine aw_iadd hG dL_law_1080 ?_
    refine aw_sld hG hX (sI h0 h7 hL (by decide) (by decide)) dL_law_1081 ?_
    refine aw_aload_n hG 3 rfl dL_law_1082 rfl ?_
    refine aw_callH (v := 0) (σ' := (c9, m, vp_updL z 0 v9)) (As := [.ref (wad (cxw g) 0), .int (xs (i + 1).toNatClampNeg), .ref (wad (cxw g) 26)]) (rest := []) hG hst (c_L_out hc) lM_94 wh_out rfl rfl rfl (by decide) hk hn (Nat.le_of_ble_eq_true rfl) dL_law_1083 ?_
    refine aw_istore (L' := [(5, .int 0), (0, .ref b), (1, .ref (wad (cxw g) 0)), (2, .ref (wad (cxw g) 17)), (3, .ref (wad (cxw g) 26)), (4, .int i)]) hG dL_law_1086 (by decide) rfl ?_
    refine aw_aload_n hG 3 rfl dL_law_1088 rfl ?_
    refine aw_aload_n hG 1 rfl dL_law_1089 rfl ?_
    refine aw_iload hG 5 rfl dL_law_1090 ?_
    refine aw_iconst (v := 1) hG dL_law_1092 rfl ?_
    refine aw_iadd hG dL_law_1093 ?_
    refine aw_sld hG hX (sI h0 h7 hL (by decide) (by decide)) dL_law_1094 ?_
    refine aw_callVi (As := [.int (xs (i + 1).toNatClampNeg)]) (rest := []) hG (c_X7_out (c := c9) (m := m) (z := (vp_updL z 0 v9)) hs9) lM_95 wvM_X7_out (rv_X7 hG) rfl rfl rfl (by decide) (Nat.le_trans (Nat.le_refl _) hk) hn (Nat.le_of_ble_eq_true rfl) dL_law_1095 ?_
    refine aw_istore (L' := [(6, .int s9.1), (5, .int 0), (0, .ref b), (1, .ref (wad (cxw g) 0)), (2, .ref (wad (cxw g) 17)), (3, .ref (wad (cxw g) 26)), (4, .int i)]) hG dL_law_1098 (by decide) rfl ?_
    refine aw_aload_n hG 4 rfl dL_law_1100 rfl ?_
    refine aw_callVi (As := []) (rest := []) hG (c_X7_thrown (c := c9) (m := s9.2) (z := (vp_updL z 0 v9))) lM_7 wvM_X7_thrown (rv_X7 hG) rfl rfl rfl (by decide) (Nat.le_trans (Nat.le_refl _) hk) hn (Nat.le_of_ble_eq_true rfl) dL_law_1101 ?_
    refine aw_iload hG 1 rfl dL_law_1104 ?_
    refine aw_icmp_eq (t := 1111) hG dL_law_1106 rfl (fun hq9 => ?_) (fun hq9 => ?_)
    rotate_left
    · exact absurd ht hq9
    refine aw_iload hG 1 rfl dL_law_1111 ?_
    refine aw_if_ne (t := 1128) hG dL_law_1113 rfl (fun hq9 => ?_) (fun hq9 => ?_)
    · exact absurd rfl hq9
    refine aw_aload_n hG 5 rfl dL_law_1116 rfl ?_
    refine aw_iconst (v := 0) hG dL_law_1117 rfl ?_
    refine al_out hG dL_law_1118 ?_
    refine aw_iload hG 0 rfl dL_law_1119 ?_
    refine aw_i2l hG dL_law_1121 ?_
    refine aw_lc_eq (t := 1128) hG dL_law_1122 rfl dL_law_1123 rfl rfl (fun hq9 => ?_) (fun hq9 => ?_)
    rotate_left
    · exact absurd (pk_uLs.trans h1.symm) hq9
    refine aw_goto (t := 2542) hG dL_law_1128 rfl ?_
    refine aw_sub (L' := [(0, .ref b), (1, .ref (wad (cxw g) 0)), (2, .ref (wad (cxw g) 17)), (3, .ref (wad (cxw g) 26)), (4, .int i)]) [2, 3, 4, 5, 6] rfl ?_
    exact kk _ _ _ hI2
set_option maxRecDepth 20000 in
set_option maxHeartbeats 4000000 in
theorem lc_decimal {Inv : CS → MS → Prop} (hA : AllA Inv) (hG : Gd g RL cL_law 8 12 mc ms) (hst : g.1.2.1.stackTraces = false) (hX : LX g b Ln xs) {i : Int32} (h0 : 0 ≤ i.toInt) (h7 : i.toInt + 7 ≤ Ln) (hL : Ln ≤ 3584) {c : CS} {m : MS} {z : Nat → Int64} (hk : k + 1 ≤ mc) (hn : n + 6 ≤ ms) (hI : Inv c m) (kk : ∀ c' m' z', Inv c' m' → AW g 2542 [(0, .ref b), (1, .ref (wad (cxw g) 0)), (2, .ref (wad (cxw g) 17)), (3, .ref (wad (cxw g) 26)), (4, .int i)] [] (c', m', z') (k + 1) (n + 6)) : AW g 1131 [(0, .ref b), (1, .ref (wad (cxw g) 0)), (2, .ref (wad (cxw g) 17)), (3, .ref (wad (cxw g) 26)), (4, .int i)] [] (c, m, z) k n := by
  obtain ⟨v9, m9, hm, hcl⟩ := hA.2.2.2.2.2.2.2.2.2.1 (xs (i + 1).toNatClampNeg) c m hI
  unfold mo_decimal at hm
  obtain ⟨s9, hs9⟩ : ∃ s, f_X7_decimal (xs (i + 1).toNatClampNeg) m = s := ⟨_, rfl⟩
  rw [hs9] at hm
  have he9 := Option.some.inj hm
  have h1 := congrArg Prod.fst he9
  have h2 := congrArg Prod.snd he9
  dsimp only at h1 h2
  subst h2
  rcases hcl with ⟨hc, ht, hI2⟩ | ⟨c9, hc, ht, hI2⟩
  · skip
    refine aw_aload_n hG 1 rfl dL_law_1131 rfl ?_
    refine aw_aload_n hG 0 rfl dL_law_1132 rfl ?_
    refine aw_iload hG 4 rfl dL_law_1133 ?_
    refine aw_iconst (v := 1) hG dL_law_1135 rfl ?_
    refine aw_iadd hG dL_law_1136 ?_
    refine aw_sld hG hX (sI h0 h7 hL (by decide) (by decide)) dL_law_1137 ?_
    refine aw_aload_n hG 3 rfl dL_law_1138 rfl ?_
    refine aw_callH (v := 1) (σ' := (c, m, z)) (As := [.ref (wad (cxw g) 0), .int (xs (i + 1).toNatClampNeg), .ref (wad (cxw g) 26)]) (rest := []) hG hst (c_L_decimal hc) lM_100 wh_decimal rfl rfl rfl (by decide) hk hn (Nat.le_of_ble_eq_true rfl) dL_law_1139 ?_
    refine aw_istore (L' := [(5, .int 1), (0, .ref b), (1, .ref (wad (cxw g) 0)), (2, .ref (wad (cxw g) 17)), (3, .ref (wad (cxw g) 26)), (4, .int i)]) hG dL_law_1142 (by decide) rfl ?_
    refine aw_aload_n hG 3 rfl dL_law_1144 rfl ?_
    refine aw_aload_n hG 1 rfl dL_law_1145 rfl ?_
    refine aw_iload hG 5 rfl dL_law_1146 ?_
    refine aw_iconst (v := 1) hG dL_law_1148 rfl ?_
    refine aw_iadd hG dL_law_1149 ?_
    refine aw_sld hG hX (sI h0 h7 hL (by decide) (by decide)) dL_law_1150 ?_
    refine aw_callVi (As := [.int (xs (i + 1).toNatClampNeg)]) (rest := []) hG (c_X7_decimal (c := c) (m := m) (z := z) hs9) lM_101 wvM_X7_decimal (rv_X7 hG) rfl rfl rfl (by decide) (Nat.le_trans (Nat.le_refl _) hk) hn (Nat.le_of_ble_eq_true rfl) dL_law_1151 ?_
    refine aw_istore (L' := [(6, .int s9.1), (5, .int 1), (0, .ref b), (1, .ref (wad (cxw g) 0)), (2, .ref (wad (cxw g) 17)), (3, .ref (wad (cxw g) 26)), (4, .int i)]) hG dL_law_1154 (by decide) rfl ?_
    refine aw_aload_n hG 4 rfl dL_law_1156 rfl ?_
    refine aw_callVi (As := []) (rest := []) hG (c_X7_thrown (c := c) (m := s9.2) (z := z)) lM_7 wvM_X7_thrown (rv_X7 hG) rfl rfl rfl (by decide) (Nat.le_trans (Nat.le_refl _) hk) hn (Nat.le_of_ble_eq_true rfl) dL_law_1157 ?_
    refine aw_iload hG 1 rfl dL_law_1160 ?_
    refine aw_icmp_eq (t := 1167) hG dL_law_1162 rfl (fun hq9 => ?_) (fun hq9 => ?_)
    rotate_left
    · exact absurd ht hq9
    refine aw_iload hG 1 rfl dL_law_1167 ?_
    refine aw_if_ne (t := 1184) hG dL_law_1169 rfl (fun hq9 => ?_) (fun hq9 => ?_)
    rotate_left
    · exact absurd hq9 (by decide)
    refine aw_goto (t := 2542) hG dL_law_1184 rfl ?_
    refine aw_sub (L' := [(0, .ref b), (1, .ref (wad (cxw g) 0)), (2, .ref (wad (cxw g) 17)), (3, .ref (wad (cxw g) 26)), (4, .int i)]) [2, 3, 4, 5, 6] rfl ?_
    exact kk _ _ _ hI2
  · skip
    refine aw_aload_n hG 1 rfl dL_law_1131 rfl ?_
    refine aw_aload_n hG 0 rfl dL_law_1132 rfl ?_
    refine aw_iload hG 4 rfl dL_law_1133 ?_
    refine aw_iconst (v := 1) hG dL_law_1135 rfl ?_
    refine aw_iadd hG dL_law_1136 ?_
    refine aw_sld hG hX (sI h0 h7 hL (by decide) (by decide)) dL_law_1137 ?_
    refine aw_aload_n hG 3 rfl dL_law_1138 rfl ?_
    refine aw_callH (v := 0) (σ' := (c9, m, vp_updL z 0 v9)) (As := [.ref (wad (cxw g) 0), .int (xs (i + 1).toNatClampNeg), .ref (wad (cxw g) 26)]) (rest := []) hG hst (c_L_decimal hc) lM_100 wh_decimal rfl rfl rfl (by decide) hk hn (Nat.le_of_ble_eq_true rfl) dL_law_1139 ?_
    refine aw_istore (L' := [(5, .int 0), (0, .ref b), (1, .ref (wad (cxw g) 0)), (2, .ref (wad (cxw g) 17)), (3, .ref (wad (cxw g) 26)), (4, .int i)]) hG dL_law_1142 (by decide) rfl ?_
    refine aw_aload_n hG 3 rfl dL_law_1144 rfl ?_
    refine aw_aload_n hG 1 rfl dL_law_1145 rfl ?_
    refine aw_iload hG 5 rfl dL_law_1146 ?_
    refine aw_iconst (v := 1) hG dL_law_1148 rfl ?_
    refine aw_iadd hG dL_law_1149 ?_
    refine aw_sld hG hX (sI h0 h7 hL (by decide) (by decide)) dL_law_1150 ?_
    refine aw_callVi (As := [.int (xs (i + 1).toNatClampNeg)]) (rest := []) hG (c_X7_decimal (c := c9) (m := m) (z := (vp_updL z 0 v9)) hs9) lM_101 wvM_X7_decimal (rv_X7 hG) rfl rfl rfl (by decide) (Nat.le_trans (Nat.le_refl _) hk) hn (Nat.le_of_ble_eq_true rfl) dL_law_1151 ?_
    refine aw_istore (L' := [(6, .int s9.1), (5, .int 0), (0, .ref b), (1, .ref (wad (cxw g) 0)), (2, .ref (wad (cxw g) 17)), (3, .ref (wad (cxw g) 26)), (4, .int i)]) hG dL_law_1154 (by decide) rfl ?_
    refine aw_aload_n hG 4 rfl dL_law_1156 rfl ?_
    refine aw_callVi (As := []) (rest := []) hG (c_X7_thrown (c := c9) (m := s9.2) (z := (vp_updL z 0 v9))) lM_7 wvM_X7_thrown (rv_X7 hG) rfl rfl rfl (by decide) (Nat.le_trans (Nat.le_refl _) hk) hn (Nat.le_of_ble_eq_true rfl) dL_law_1157 ?_
    refine aw_iload hG 1 rfl dL_law_1160 ?_
    refine aw_icmp_eq (t := 1167) hG dL_law_1162 rfl (fun hq9 => ?_) (fun hq9 => ?_)
    rotate_left
    · exact absurd ht hq9
    refine aw_iload hG 1 rfl dL_law_1167 ?_
    refine aw_if_ne (t := 1184) hG dL_law_1169 rfl (fun hq9 => ?_) (fun hq9 => ?_)
    · exact absurd rfl hq9
    refine aw_aload_n hG 5 rfl dL_law_1172 rfl ?_
    refine aw_iconst (v := 0) hG dL_law_1173 rfl ?_
    refine al_out hG dL_law_1174 ?_
    refine aw_iload hG 0 rfl dL_law_1175 ?_
    refine aw_i2l hG dL_law_1177 ?_
    refine aw_lc_eq (t := 1184) hG dL_law_1178 rfl dL_law_1179 rfl rfl (fun hq9 => ?_) (fun hq9 => ?_)
    rotate_left
    · exact absurd (pk_uLs.trans h1.symm) hq9
    refine aw_goto (t := 2542) hG dL_law_1184 rfl ?_
    refine aw_sub (L' := [(0, .ref b), (1, .ref (wad (cxw g) 0)), (2, .ref (wad (cxw g) 17)), (3, .ref (wad (cxw g) 26)), (4, .int i)]) [2, 3, 4, 5, 6] rfl ?_
    exact kk _ _ _ hI2
set_option maxRecDepth 20000 in
set_option maxHeartbeats 4000000 in
theorem lc_digit {Inv : CS → MS → Prop} (hA : AllA Inv) (hG : Gd g RL cL_law 8 12 mc ms) (hst : g.1.2.1.stackTraces = false) (hX : LX g b Ln xs) {i : Int32} (h0 : 0 ≤ i.toInt) (h7 : i.toInt + 7 ≤ Ln) (hL : Ln ≤ 3584) {c : CS} {m : MS} {z : Nat → Int64} (hk : k + 1 ≤ mc) (hn : n + 6 ≤ ms) (hI : Inv c m) (kk : ∀ c' m' z', Inv c' m' → AW g 2542 [(0, .ref b), (1, .ref (wad (cxw g) 0)), (2, .ref (wad (cxw g) 17)), (3, .ref (wad (cxw g) 26)), (4, .int i)] [] (c', m', z') (k + 1) (n + 6)) : AW g 1187 [(0, .ref b), (1, .ref (wad (cxw g) 0)), (2, .ref (wad (cxw g) 17)), (3, .ref (wad (cxw g) 26)), (4, .int i)] [] (c, m, z) k n := by
  obtain ⟨v9, m9, hm, hcl⟩ := hA.2.2.2.2.2.2.2.2.2.2.1 (xs (i + 1).toNatClampNeg) c m hI
  unfold mo_digit at hm
  obtain ⟨s9, hs9, he9⟩ := Option.map_eq_some_iff.mp hm
  have h1 := congrArg Prod.fst he9
  have h2 := congrArg Prod.snd he9
  dsimp only at h1 h2
  subst h2
  rcases hcl with ⟨hc, ht, hI2⟩ | ⟨c9, hc, ht, hI2⟩
  · skip
    refine aw_aload_n hG 1 rfl dL_law_1187 rfl ?_
    refine aw_aload_n hG 0 rfl dL_law_1188 rfl ?_
    refine aw_iload hG 4 rfl dL_law_1189 ?_
    refine aw_iconst (v := 1) hG dL_law_1191 rfl ?_
    refine aw_iadd hG dL_law_1192 ?_
    refine aw_sld hG hX (sI h0 h7 hL (by decide) (by decide)) dL_law_1193 ?_
    refine aw_aload_n hG 3 rfl dL_law_1194 rfl ?_
    refine aw_callH (v := 1) (σ' := (c, m, z)) (As := [.ref (wad (cxw g) 0), .int (xs (i + 1).toNatClampNeg), .ref (wad (cxw g) 26)]) (rest := []) hG hst (c_L_digit hc) lM_106 wh_digit rfl rfl rfl (by decide) hk hn (Nat.le_of_ble_eq_true rfl) dL_law_1195 ?_
    refine aw_istore (L' := [(5, .int 1), (0, .ref b), (1, .ref (wad (cxw g) 0)), (2, .ref (wad (cxw g) 17)), (3, .ref (wad (cxw g) 26)), (4, .int i)]) hG dL_law_1198 (by decide) rfl ?_
    refine aw_aload_n hG 3 rfl dL_law_1200 rfl ?_
    refine aw_aload_n hG 1 rfl dL_law_1201 rfl ?_
    refine aw_iload hG 5 rfl dL_law_1202 ?_
    refine aw_iconst (v := 1) hG dL_law_1204 rfl ?_
    refine aw_iadd hG dL_law_1205 ?_
    refine aw_sld hG hX (sI h0 h7 hL (by decide) (by decide)) dL_law_1206 ?_
    refine aw_callVi (As := [.int (xs (i + 1).toNatClampNeg)]) (rest := []) hG (c_X7_digit (c := c) (m := m) (z := z) hs9) lM_107 wvM_X7_digit (rv_X7 hG) rfl rfl rfl (by decide) (Nat.le_trans (Nat.le_refl _) hk) hn (Nat.le_of_ble_eq_true rfl) dL_law_1207 ?_
    refine aw_istore (L' := [(6, .int s9.1), (5, .int 1), (0, .ref b), (1, .ref (wad (cxw g) 0)), (2, .ref (wad (cxw g) 17)), (3, .ref (wad (cxw g) 26)), (4, .int i)]) hG dL_law_1210 (by decide) rfl ?_
    refine aw_aload_n hG 4 rfl dL_law_1212 rfl ?_
    refine aw_callVi (As := []) (rest := []) hG (c_X7_thrown (c := c) (m := s9.2) (z := z)) lM_7 wvM_X7_thrown (rv_X7 hG) rfl rfl rfl (by decide) (Nat.le_trans (Nat.le_refl _) hk) hn (Nat.le_of_ble_eq_true rfl) dL_law_1213 ?_
    refine aw_iload hG 1 rfl dL_law_1216 ?_
    refine aw_icmp_eq (t := 1223) hG dL_law_1218 rfl (fun hq9 => ?_) (fun hq9 => ?_)
    rotate_left
    · exact absurd ht hq9
    refine aw_iload hG 1 rfl dL_law_1223 ?_
    refine aw_if_ne (t := 1240) hG dL_law_1225 rfl (fun hq9 => ?_) (fun hq9 => ?_)
    rotate_left
    · exact absurd hq9 (by decide)
    refine aw_goto (t := 2542) hG dL_law_1240 rfl ?_
    refine aw_sub (L' := [(0, .ref b), (1, .ref (wad (cxw g) 0)), (2, .ref (wad (cxw g) 17)), (3, .ref (wad (cxw g) 26)), (4, .int i)]) [2, 3, 4, 5, 6] rfl ?_
    exact kk _ _ _ hI2
  · skip
    refine aw_aload_n hG 1 rfl dL_law_1187 rfl ?_
    refine aw_aload_n hG 0 rfl dL_law_1188 rfl ?_
    refine aw_iload hG 4 rfl dL_law_1189 ?_
    refine aw_iconst (v := 1) hG dL_law_1191 rfl ?_
    refine aw_iadd hG dL_law_1192 ?_
    refine aw_sld hG hX (sI h0 h7 hL (by decide) (by decide)) dL_law_1193 ?_
    refine aw_aload_n hG 3 rfl dL_law_1194 rfl ?_
    refine aw_callH (v := 0) (σ' := (c9, m, vp_updL z 0 v9)) (As := [.ref (wad (cxw g) 0), .int (xs (i + 1).toNatClampNeg), .ref (wad (cxw g) 26)]) (rest := []) hG hst (c_L_digit hc) lM_106 wh_digit rfl rfl rfl (by decide) hk hn (Nat.le_of_ble_eq_true rfl) dL_law_1195 ?_
    refine aw_istore (L' := [(5, .int 0), (0, .ref b), (1, .ref (wad (cxw g) 0)), (2, .ref (wad (cxw g) 17)), (3, .ref (wad (cxw g) 26)), (4, .int i)]) hG dL_law_1198 (by decide) rfl ?_
    refine aw_aload_n hG 3 rfl dL_law_1200 rfl ?_
    refine aw_aload_n hG 1 rfl dL_law_1201 rfl ?_
    refine aw_iload hG 5 rfl dL_law_1202 ?_
    refine aw_iconst (v := 1) hG dL_law_1204 rfl ?_
    refine aw_iadd hG dL_law_1205 ?_
    refine aw_sld hG hX (sI h0 h7 hL (by decide) (by decide)) dL_law_1206 ?_
    refine aw_callVi (As := [.int (xs (i + 1).toNatClampNeg)]) (rest := []) hG (c_X7_digit (c := c9) (m := m) (z := (vp_updL z 0 v9)) hs9) lM_107 wvM_X7_digit (rv_X7 hG) rfl rfl rfl (by decide) (Nat.le_trans (Nat.le_refl _) hk) hn (Nat.le_of_ble_eq_true rfl) dL_law_1207 ?_
    refine aw_istore (L' := [(6, .int s9.1), (5, .int 0), (0, .ref b), (1, .ref (wad (cxw g) 0)), (2, .ref (wad (cxw g) 17)), (3, .ref (wad (cxw g) 26)), (4, .int i)]) hG dL_law_1210 (by decide) rfl ?_
    refine aw_aload_n hG 4 rfl dL_law_1212 rfl ?_
    refine aw_callVi (As := []) (rest := []) hG (c_X7_thrown (c := c9) (m := s9.2) (z := (vp_updL z 0 v9))) lM_7 wvM_X7_thrown (rv_X7 hG) rfl rfl rfl (by decide) (Nat.le_trans (Nat.le_refl _) hk) hn (Nat.le_of_ble_eq_true rfl) dL_law_1213 ?_
    refine aw_iload hG 1 rfl dL_law_1216 ?_
    refine aw_icmp_eq (t := 1223) hG dL_law_1218 rfl (fun hq9 => ?_) (fun hq9 => ?_)
    rotate_left
    · exact absurd ht hq9
    refine aw_iload hG 1 rfl dL_law_1223 ?_
    refine aw_if_ne (t := 1240) hG dL_law_1225 rfl (fun hq9 => ?_) (fun hq9 => ?_)
    · exact absurd rfl hq9
    refine aw_aload_n hG 5 rfl dL_law_1228 rfl ?_
    refine aw_iconst (v := 0) hG dL_law_1229 rfl ?_
    refine al_out hG dL_law_1230 ?_
    refine aw_iload hG 0 rfl dL_law_1231 ?_
    refine aw_i2l hG dL_law_1233 ?_
    refine aw_lc_eq (t := 1240) hG dL_law_1234 rfl dL_law_1235 rfl rfl (fun hq9 => ?_) (fun hq9 => ?_)
    rotate_left
    · exact absurd (pk_uLs.trans h1.symm) hq9
    refine aw_goto (t := 2542) hG dL_law_1240 rfl ?_
    refine aw_sub (L' := [(0, .ref b), (1, .ref (wad (cxw g) 0)), (2, .ref (wad (cxw g) 17)), (3, .ref (wad (cxw g) 26)), (4, .int i)]) [2, 3, 4, 5, 6] rfl ?_
    exact kk _ _ _ hI2
set_option maxRecDepth 20000 in
set_option maxHeartbeats 4000000 in
theorem lc_nearest {Inv : CS → MS → Prop} (hA : AllA Inv) (hG : Gd g RL cL_law 8 12 mc ms) (hst : g.1.2.1.stackTraces = false) (hX : LX g b Ln xs) {i : Int32} (h0 : 0 ≤ i.toInt) (h7 : i.toInt + 7 ≤ Ln) (hL : Ln ≤ 3584) {c : CS} {m : MS} {z : Nat → Int64} (hk : k + 1 ≤ mc) (hn : n + 6 ≤ ms) (hI : Inv c m) (kk : ∀ c' m' z', Inv c' m' → AW g 2542 [(0, .ref b), (1, .ref (wad (cxw g) 0)), (2, .ref (wad (cxw g) 17)), (3, .ref (wad (cxw g) 26)), (4, .int i)] [] (c', m', z') (k + 1) (n + 6)) : AW g 1243 [(0, .ref b), (1, .ref (wad (cxw g) 0)), (2, .ref (wad (cxw g) 17)), (3, .ref (wad (cxw g) 26)), (4, .int i)] [] (c, m, z) k n := by
  obtain ⟨v9, m9, hm, hcl⟩ := hA.2.2.2.2.2.2.2.2.2.2.2.1 (xs (i + 1).toNatClampNeg) ((jshl ((xs (i + 2).toNatClampNeg).toInt64) 32) ||| (((xs (i + 3).toNatClampNeg).toInt64) &&& 4294967295)) (xs (i + 4).toNatClampNeg) (xs (i + 5).toNatClampNeg) c m hI
  unfold mo_nearest at hm
  obtain ⟨s9, hs9, he9⟩ := Option.map_eq_some_iff.mp hm
  have h1 := congrArg Prod.fst he9
  have h2 := congrArg Prod.snd he9
  dsimp only at h1 h2
  subst h2
  rcases hcl with ⟨hc, ht, hI2⟩ | ⟨c9, hc, ht, hI2⟩
  · skip
    refine aw_aload_n hG 1 rfl dL_law_1243 rfl ?_
    refine aw_aload_n hG 0 rfl dL_law_1244 rfl ?_
    refine aw_iload hG 4 rfl dL_law_1245 ?_
    refine aw_iconst (v := 1) hG dL_law_1247 rfl ?_
    refine aw_iadd hG dL_law_1248 ?_
    refine aw_sld hG hX (sI h0 h7 hL (by decide) (by decide)) dL_law_1249 ?_
    refine aw_aload_n hG 0 rfl dL_law_1250 rfl ?_
    refine aw_iload hG 4 rfl dL_law_1251 ?_
    refine aw_iconst (v := 2) hG dL_law_1253 rfl ?_
    refine aw_iadd hG dL_law_1254 ?_
    refine aw_sld hG hX (sI h0 h7 hL (by decide) (by decide)) dL_law_1255 ?_
    refine aw_i2l hG dL_law_1256 ?_
    refine aw_bipush (v := 32) hG dL_law_1257 rfl ?_
    refine aw_lshlJ hG dL_law_1259 ?_
    refine aw_aload_n hG 0 rfl dL_law_1260 rfl ?_
    refine aw_iload hG 4 rfl dL_law_1261 ?_
    refine aw_iconst (v := 3) hG dL_law_1263 rfl ?_
    refine aw_iadd hG dL_law_1264 ?_
    refine aw_sld hG hX (sI h0 h7 hL (by decide) (by decide)) dL_law_1265 ?_
    refine aw_i2l hG dL_law_1266 ?_
    refine aw_ldc2 hG lM_0 dL_law_1267 ?_
    refine aw_land hG dL_law_1270 ?_
    refine aw_lor hG dL_law_1271 ?_
    refine aw_aload_n hG 0 rfl dL_law_1272 rfl ?_
    refine aw_iload hG 4 rfl dL_law_1273 ?_
    refine aw_iconst (v := 4) hG dL_law_1275 rfl ?_
    refine aw_iadd hG dL_law_1276 ?_
    refine aw_sld hG hX (sI h0 h7 hL (by decide) (by decide)) dL_law_1277 ?_
    refine aw_aload_n hG 0 rfl dL_law_1278 rfl ?_
    refine aw_iload hG 4 rfl dL_law_1279 ?_
    refine aw_iconst (v := 5) hG dL_law_1281 rfl ?_
    refine aw_iadd hG dL_law_1282 ?_
    refine aw_sld hG hX (sI h0 h7 hL (by decide) (by decide)) dL_law_1283 ?_
    refine aw_aload_n hG 3 rfl dL_law_1284 rfl ?_
    refine aw_callH (v := 1) (σ' := (c, m, z)) (As := [.ref (wad (cxw g) 0), .int (xs (i + 1).toNatClampNeg), .long ((jshl ((xs (i + 2).toNatClampNeg).toInt64) 32) ||| (((xs (i + 3).toNatClampNeg).toInt64) &&& 4294967295)), .int (xs (i + 4).toNatClampNeg), .int (xs (i + 5).toNatClampNeg), .ref (wad (cxw g) 26)]) (rest := []) hG hst (c_L_nearest hc) lM_112 wh_nearest rfl rfl rfl (by decide) hk hn (Nat.le_of_ble_eq_true rfl) dL_law_1285 ?_
    refine aw_istore (L' := [(5, .int 1), (0, .ref b), (1, .ref (wad (cxw g) 0)), (2, .ref (wad (cxw g) 17)), (3, .ref (wad (cxw g) 26)), (4, .int i)]) hG dL_law_1288 (by decide) rfl ?_
    refine aw_aload_n hG 3 rfl dL_law_1290 rfl ?_
    refine aw_aload_n hG 1 rfl dL_law_1291 rfl ?_
    refine aw_iload hG 5 rfl dL_law_1292 ?_
    refine aw_iconst (v := 1) hG dL_law_1294 rfl ?_
    refine aw_iadd hG dL_law_1295 ?_
    refine aw_sld hG hX (sI h0 h7 hL (by decide) (by decide)) dL_law_1296 ?_
    refine aw_aload_n hG 1 rfl dL_law_1297 rfl ?_
    refine aw_iload hG 5 rfl dL_law_1298 ?_
    refine aw_iconst (v := 2) hG dL_law_1300 rfl ?_
    refine aw_iadd hG dL_law_1301 ?_
    refine aw_sld hG hX (sI h0 h7 hL (by decide) (by decide)) dL_law_1302 ?_
    refine aw_i2l hG dL_law_1303 ?_
    refine aw_bipush (v := 32) hG dL_law_1304 rfl ?_
    refine aw_lshlJ hG dL_law_1306 ?_
    refine aw_aload_n hG 1 rfl dL_law_1307 rfl ?_
    refine aw_iload hG 5 rfl dL_law_1308 ?_
    refine aw_iconst (v := 3) hG dL_law_1310 rfl ?_
    refine aw_iadd hG dL_law_1311 ?_
    refine aw_sld hG hX (sI h0 h7 hL (by decide) (by decide)) dL_law_1312 ?_
    refine aw_i2l hG dL_law_1313 ?_
    refine aw_ldc2 hG lM_0 dL_law_1314 ?_
    refine aw_land hG dL_law_1317 ?_
    refine aw_lor hG dL_law_1318 ?_
    refine aw_aload_n hG 1 rfl dL_law_1319 rfl ?_
    refine aw_iload hG 5 rfl dL_law_1320 ?_
    refine aw_iconst (v := 4) hG dL_law_1322 rfl ?_
    refine aw_iadd hG dL_law_1323 ?_
    refine aw_sld hG hX (sI h0 h7 hL (by decide) (by decide)) dL_law_1324 ?_
    refine aw_aload_n hG 1 rfl dL_law_1325 rfl ?_
    refine aw_iload hG 5 rfl dL_law_1326 ?_
    refine aw_iconst (v := 5) hG dL_law_1328 rfl ?_
    refine aw_iadd hG dL_law_1329 ?_
    refine aw_sld hG hX (sI h0 h7 hL (by decide) (by decide)) dL_law_1330 ?_
    refine aw_callVl (As := [.int (xs (i + 1).toNatClampNeg), .long ((jshl ((xs (i + 2).toNatClampNeg).toInt64) 32) ||| (((xs (i + 3).toNatClampNeg).toInt64) &&& 4294967295)), .int (xs (i + 4).toNatClampNeg), .int (xs (i + 5).toNatClampNeg)]) (rest := []) hG (c_X7_nearest (c := c) (m := m) (z := z) hs9) lM_113 wvM_X7_nearest (rv_X7 hG) rfl rfl rfl (by decide) (Nat.le_trans (Nat.le_refl _) hk) hn (Nat.le_of_ble_eq_true rfl) dL_law_1331 ?_
    refine aw_lstore (L' := [(6, .long s9.1), (5, .int 1), (0, .ref b), (1, .ref (wad (cxw g) 0)), (2, .ref (wad (cxw g) 17)), (3, .ref (wad (cxw g) 26)), (4, .int i)]) hG dL_law_1334 (by decide) rfl ?_
    refine aw_aload_n hG 4 rfl dL_law_1336 rfl ?_
    refine aw_callVi (As := []) (rest := []) hG (c_X7_thrown (c := c) (m := s9.2) (z := z)) lM_7 wvM_X7_thrown (rv_X7 hG) rfl rfl rfl (by decide) (Nat.le_trans (Nat.le_refl _) hk) hn (Nat.le_of_ble_eq_true rfl) dL_law_1337 ?_
    refine aw_iload hG 1 rfl dL_law_1340 ?_
    refine aw_icmp_eq (t := 1347) hG dL_law_1342 rfl (fun hq9 => ?_) (fun hq9 => ?_)
    rotate_left
    · exact absurd ht hq9
    refine aw_iload hG 1 rfl dL_law_1347 ?_
    refine aw_if_ne (t := 1363) hG dL_law_1349 rfl (fun hq9 => ?_) (fun hq9 => ?_)
    rotate_left
    · exact absurd hq9 (by decide)
    refine aw_goto (t := 2542) hG dL_law_1363 rfl ?_
    refine aw_sub (L' := [(0, .ref b), (1, .ref (wad (cxw g) 0)), (2, .ref (wad (cxw g) 17)), (3, .ref (wad (cxw g) 26)), (4, .int i)]) [2, 3, 4, 5, 6] rfl ?_
    exact kk _ _ _ hI2
  · skip
    refine aw_aload_n hG 1 rfl dL_law_1243 rfl ?_
    refine aw_aload_n hG 0 rfl dL_law_1244 rfl ?_
    refine aw_iload hG 4 rfl dL_law_1245 ?_
    refine aw_iconst (v := 1) hG dL_law_1247 rfl ?_
    refine aw_iadd hG dL_law_1248 ?_
    refine aw_sld hG hX (sI h0 h7 hL (by decide) (by decide)) dL_law_1249 ?_
    refine aw_aload_n hG 0 rfl dL_law_1250 rfl ?_
    refine aw_iload hG 4 rfl dL_law_1251 ?_
    refine aw_iconst (v := 2) hG dL_law_1253 rfl ?_
    refine aw_iadd hG dL_law_1254 ?_
    refine aw_sld hG hX (sI h0 h7 hL (by decide) (by decide)) dL_law_1255 ?_
    refine aw_i2l hG dL_law_1256 ?_
    refine aw_bipush (v := 32) hG dL_law_1257 rfl ?_
    refine aw_lshlJ hG dL_law_1259 ?_
    refine aw_aload_n hG 0 rfl dL_law_1260 rfl ?_
    refine aw_iload hG 4 rfl dL_law_1261 ?_
    refine aw_iconst (v := 3) hG dL_law_1263 rfl ?_
    refine aw_iadd hG dL_law_1264 ?_
    refine aw_sld hG hX (sI h0 h7 hL (by decide) (by decide)) dL_law_1265 ?_
    refine aw_i2l hG dL_law_1266 ?_
    refine aw_ldc2 hG lM_0 dL_law_1267 ?_
    refine aw_land hG dL_law_1270 ?_
    refine aw_lor hG dL_law_1271 ?_
    refine aw_aload_n hG 0 rfl dL_law_1272 rfl ?_
    refine aw_iload hG 4 rfl dL_law_1273 ?_
    refine aw_iconst (v := 4) hG dL_law_1275 rfl ?_
    refine aw_iadd hG dL_law_1276 ?_
    refine aw_sld hG hX (sI h0 h7 hL (by decide) (by decide)) dL_law_1277 ?_
    refine aw_aload_n hG 0 rfl dL_law_1278 rfl ?_
    refine aw_iload hG 4 rfl dL_law_1279 ?_
    refine aw_iconst (v := 5) hG dL_law_1281 rfl ?_
    refine aw_iadd hG dL_law_1282 ?_
    refine aw_sld hG hX (sI h0 h7 hL (by decide) (by decide)) dL_law_1283 ?_
    refine aw_aload_n hG 3 rfl dL_law_1284 rfl ?_
    refine aw_callH (v := 0) (σ' := (c9, m, vp_updL z 0 v9)) (As := [.ref (wad (cxw g) 0), .int (xs (i + 1).toNatClampNeg), .long ((jshl ((xs (i + 2).toNatClampNeg).toInt64) 32) ||| (((xs (i + 3).toNatClampNeg).toInt64) &&& 4294967295)), .int (xs (i + 4).toNatClampNeg), .int (xs (i + 5).toNatClampNeg), .ref (wad (cxw g) 26)]) (rest := []) hG hst (c_L_nearest hc) lM_112 wh_nearest rfl rfl rfl (by decide) hk hn (Nat.le_of_ble_eq_true rfl) dL_law_1285 ?_
    refine aw_istore (L' := [(5, .int 0), (0, .ref b), (1, .ref (wad (cxw g) 0)), (2, .ref (wad (cxw g) 17)), (3, .ref (wad (cxw g) 26)), (4, .int i)]) hG dL_law_1288 (by decide) rfl ?_
    refine aw_aload_n hG 3 rfl dL_law_1290 rfl ?_
    refine aw_aload_n hG 1 rfl dL_law_1291 rfl ?_
    refine aw_iload hG 5 rfl dL_law_1292 ?_
    refine aw_iconst (v := 1) hG dL_law_1294 rfl ?_
    refine aw_iadd hG dL_law_1295 ?_
    refine aw_sld hG hX (sI h0 h7 hL (by decide) (by decide)) dL_law_1296 ?_
    refine aw_aload_n hG 1 rfl dL_law_1297 rfl ?_
    refine aw_iload hG 5 rfl dL_law_1298 ?_
    refine aw_iconst (v := 2) hG dL_law_1300 rfl ?_
    refine aw_iadd hG dL_law_1301 ?_
    refine aw_sld hG hX (sI h0 h7 hL (by decide) (by decide)) dL_law_1302 ?_
    refine aw_i2l hG dL_law_1303 ?_
    refine aw_bipush (v := 32) hG dL_law_1304 rfl ?_
    refine aw_lshlJ hG dL_law_1306 ?_
    refine aw_aload_n hG 1 rfl dL_law_1307 rfl ?_
    refine aw_iload hG 5 rfl dL_law_1308 ?_
    refine aw_iconst (v := 3) hG dL_law_1310 rfl ?_
    refine aw_iadd hG dL_law_1311 ?_
    refine aw_sld hG hX (sI h0 h7 hL (by decide) (by decide)) dL_law_1312 ?_
    refine aw_i2l hG dL_law_1313 ?_
    refine aw_ldc2 hG lM_0 dL_law_1314 ?_
    refine aw_land hG dL_law_1317 ?_
    refine aw_lor hG dL_law_1318 ?_
    refine aw_aload_n hG 1 rfl dL_law_1319 rfl ?_
    refine aw_iload hG 5 rfl dL_law_1320 ?_
    refine aw_iconst (v := 4) hG dL_law_1322 rfl ?_
    refine aw_iadd hG dL_law_1323 ?_
    refine aw_sld hG hX (sI h0 h7 hL (by decide) (by decide)) dL_law_1324 ?_
    refine aw_aload_n hG 1 rfl dL_law_1325 rfl ?_
    refine aw_iload hG 5 rfl dL_law_1326 ?_
    refine aw_iconst (v := 5) hG dL_law_1328 rfl ?_
    refine aw_iadd hG dL_law_1329 ?_
    refine aw_sld hG hX (sI h0 h7 hL (by decide) (by decide)) dL_law_1330 ?_
    refine aw_callVl (As := [.int (xs (i + 1).toNatClampNeg), .long ((jshl ((xs (i + 2).toNatClampNeg).toInt64) 32) ||| (((xs (i + 3).toNatClampNeg).toInt64) &&& 4294967295)), .int (xs (i + 4).toNatClampNeg), .int (xs (i + 5).toNatClampNeg)]) (rest := []) hG (c_X7_nearest (c := c9) (m := m) (z := (vp_updL z 0 v9)) hs9) lM_113 wvM_X7_nearest (rv_X7 hG) rfl rfl rfl (by decide) (Nat.le_trans (Nat.le_refl _) hk) hn (Nat.le_of_ble_eq_true rfl) dL_law_1331 ?_
    refine aw_lstore (L' := [(6, .long s9.1), (5, .int 0), (0, .ref b), (1, .ref (wad (cxw g) 0)), (2, .ref (wad (cxw g) 17)), (3, .ref (wad (cxw g) 26)), (4, .int i)]) hG dL_law_1334 (by decide) rfl ?_
    refine aw_aload_n hG 4 rfl dL_law_1336 rfl ?_
    refine aw_callVi (As := []) (rest := []) hG (c_X7_thrown (c := c9) (m := s9.2) (z := (vp_updL z 0 v9))) lM_7 wvM_X7_thrown (rv_X7 hG) rfl rfl rfl (by decide) (Nat.le_trans (Nat.le_refl _) hk) hn (Nat.le_of_ble_eq_true rfl) dL_law_1337 ?_
    refine aw_iload hG 1 rfl dL_law_1340 ?_
    refine aw_icmp_eq (t := 1347) hG dL_law_1342 rfl (fun hq9 => ?_) (fun hq9 => ?_)
    rotate_left
    · exact absurd ht hq9
    refine aw_iload hG 1 rfl dL_law_1347 ?_
    refine aw_if_ne (t := 1363) hG dL_law_1349 rfl (fun hq9 => ?_) (fun hq9 => ?_)
    · exact absurd rfl hq9
    refine aw_aload_n hG 5 rfl dL_law_1352 rfl ?_
    refine aw_iconst (v := 0) hG dL_law_1353 rfl ?_
    refine al_out hG dL_law_1354 ?_
    refine aw_lload hG 0 rfl dL_law_1355 ?_
    refine aw_lc_eq (t := 1363) hG dL_law_1357 rfl dL_law_1358 rfl rfl (fun hq9 => ?_) (fun hq9 => ?_)
    rotate_left
    · exact absurd (pk_uLs.trans h1.symm) hq9
    refine aw_goto (t := 2542) hG dL_law_1363 rfl ?_
    refine aw_sub (L' := [(0, .ref b), (1, .ref (wad (cxw g) 0)), (2, .ref (wad (cxw g) 17)), (3, .ref (wad (cxw g) 26)), (4, .int i)]) [2, 3, 4, 5, 6] rfl ?_
    exact kk _ _ _ hI2
set_option maxRecDepth 20000 in
set_option maxHeartbeats 4000000 in
theorem lc_power {Inv : CS → MS → Prop} (hA : AllA Inv) (hG : Gd g RL cL_law 8 12 mc ms) (hst : g.1.2.1.stackTraces = false) (hX : LX g b Ln xs) {i : Int32} (h0 : 0 ≤ i.toInt) (h7 : i.toInt + 7 ≤ Ln) (hL : Ln ≤ 3584) {c : CS} {m : MS} {z : Nat → Int64} (hk : k + 1 ≤ mc) (hn : n + 6 ≤ ms) (hI : Inv c m) (kk : ∀ c' m' z', Inv c' m' → AW g 2542 [(0, .ref b), (1, .ref (wad (cxw g) 0)), (2, .ref (wad (cxw g) 17)), (3, .ref (wad (cxw g) 26)), (4, .int i)] [] (c', m', z') (k + 1) (n + 6)) : AW g 1366 [(0, .ref b), (1, .ref (wad (cxw g) 0)), (2, .ref (wad (cxw g) 17)), (3, .ref (wad (cxw g) 26)), (4, .int i)] [] (c, m, z) k n := by
  obtain ⟨v9, m9, hm, hcl⟩ := hA.2.2.2.2.2.2.2.2.2.2.2.2.1 (xs (i + 1).toNatClampNeg) ((jshl ((xs (i + 2).toNatClampNeg).toInt64) 32) ||| (((xs (i + 3).toNatClampNeg).toInt64) &&& 4294967295)) (xs (i + 4).toNatClampNeg) (xs (i + 5).toNatClampNeg) c m hI
  unfold mo_power at hm
  obtain ⟨s9, hs9, he9⟩ := Option.map_eq_some_iff.mp hm
  have h1 := congrArg Prod.fst he9
  have h2 := congrArg Prod.snd he9
  dsimp only at h1 h2
  subst h2
  rcases hcl with ⟨hc, ht, hI2⟩ | ⟨c9, hc, ht, hI2⟩
  · skip
    refine aw_aload_n hG 1 rfl dL_law_1366 rfl ?_
    refine aw_aload_n hG 0 rfl dL_law_1367 rfl ?_
    refine aw_iload hG 4 rfl dL_law_1368 ?_
    refine aw_iconst (v := 1) hG dL_law_1370 rfl ?_
    refine aw_iadd hG dL_law_1371 ?_
    refine aw_sld hG hX (sI h0 h7 hL (by decide) (by decide)) dL_law_1372 ?_
    refine aw_aload_n hG 0 rfl dL_law_1373 rfl ?_
    refine aw_iload hG 4 rfl dL_law_1374 ?_
    refine aw_iconst (v := 2) hG dL_law_1376 rfl ?_
    refine aw_iadd hG dL_law_1377 ?_
    refine aw_sld hG hX (sI h0 h7 hL (by decide) (by decide)) dL_law_1378 ?_
    refine aw_i2l hG dL_law_1379 ?_
    refine aw_bipush (v := 32) hG dL_law_1380 rfl ?_
    refine aw_lshlJ hG dL_law_1382 ?_
    refine aw_aload_n hG 0 rfl dL_law_1383 rfl ?_
    refine aw_iload hG 4 rfl dL_law_1384 ?_
    refine aw_iconst (v := 3) hG dL_law_1386 rfl ?_
    refine aw_iadd hG dL_law_1387 ?_
    refine aw_sld hG hX (sI h0 h7 hL (by decide) (by decide)) dL_law_1388 ?_
    refine aw_i2l hG dL_law_1389 ?_
    refine aw_ldc2 hG lM_0 dL_law_1390 ?_
    refine aw_land hG dL_law_1393 ?_
    refine aw_lor hG dL_law_1394 ?_
    refine aw_aload_n hG 0 rfl dL_law_1395 rfl ?_
    refine aw_iload hG 4 rfl dL_law_1396 ?_
    refine aw_iconst (v := 4) hG dL_law_1398 rfl ?_
    refine aw_iadd hG dL_law_1399 ?_
    refine aw_sld hG hX (sI h0 h7 hL (by decide) (by decide)) dL_law_1400 ?_
    refine aw_aload_n hG 0 rfl dL_law_1401 rfl ?_
    refine aw_iload hG 4 rfl dL_law_1402 ?_
    refine aw_iconst (v := 5) hG dL_law_1404 rfl ?_
    refine aw_iadd hG dL_law_1405 ?_
    refine aw_sld hG hX (sI h0 h7 hL (by decide) (by decide)) dL_law_1406 ?_
    refine aw_aload_n hG 3 rfl dL_law_1407 rfl ?_
    refine aw_callH (v := 1) (σ' := (c, m, z)) (As := [.ref (wad (cxw g) 0), .int (xs (i + 1).toNatClampNeg), .long ((jshl ((xs (i + 2).toNatClampNeg).toInt64) 32) ||| (((xs (i + 3).toNatClampNeg).toInt64) &&& 4294967295)), .int (xs (i + 4).toNatClampNeg), .int (xs (i + 5).toNatClampNeg), .ref (wad (cxw g) 26)]) (rest := []) hG hst (c_L_power hc) lM_118 wh_power rfl rfl rfl (by decide) hk hn (Nat.le_of_ble_eq_true rfl) dL_law_1408 ?_
    refine aw_istore (L' := [(5, .int 1), (0, .ref b), (1, .ref (wad (cxw g) 0)), (2, .ref (wad (cxw g) 17)), (3, .ref (wad (cxw g) 26)), (4, .int i)]) hG dL_law_1411 (by decide) rfl ?_
    refine aw_aload_n hG 3 rfl dL_law_1413 rfl ?_
    refine aw_aload_n hG 1 rfl dL_law_1414 rfl ?_
    refine aw_iload hG 5 rfl dL_law_1415 ?_
    refine aw_iconst (v := 1) hG dL_law_1417 rfl ?_
    refine aw_iadd hG dL_law_1418 ?_
    refine aw_sld hG hX (sI h0 h7 hL (by decide) (by decide)) dL_law_1419 ?_
    refine aw_aload_n hG 1 rfl dL_law_1420 rfl ?_
    refine aw_iload hG 5 rfl dL_law_1421 ?_
    refine aw_iconst (v := 2) hG dL_law_1423 rfl ?_
    refine aw_iadd hG dL_law_1424 ?_
    refine aw_sld hG hX (sI h0 h7 hL (by decide) (by decide)) dL_law_1425 ?_
    refine aw_i2l hG dL_law_1426 ?_
    refine aw_bipush (v := 32) hG dL_law_1427 rfl ?_
    refine aw_lshlJ hG dL_law_1429 ?_
    refine aw_aload_n hG 1 rfl dL_law_1430 rfl ?_
    refine aw_iload hG 5 rfl dL_law_1431 ?_
    refine aw_iconst (v := 3) hG dL_law_1433 rfl ?_
    refine aw_iadd hG dL_law_1434 ?_
    refine aw_sld hG hX (sI h0 h7 hL (by decide) (by decide)) dL_law_1435 ?_
    refine aw_i2l hG dL_law_1436 ?_
    refine aw_ldc2 hG lM_0 dL_law_1437 ?_
    refine aw_land hG dL_law_1440 ?_
    refine aw_lor hG dL_law_1441 ?_
    refine aw_aload_n hG 1 rfl dL_law_1442 rfl ?_
    refine aw_iload hG 5 rfl dL_law_1443 ?_
    refine aw_iconst (v := 4) hG dL_law_1445 rfl ?_
    refine aw_iadd hG dL_law_1446 ?_
    refine aw_sld hG hX (sI h0 h7 hL (by decide) (by decide)) dL_law_1447 ?_
    refine aw_aload_n hG 1 rfl dL_law_1448 rfl ?_
    refine aw_iload hG 5 rfl dL_law_1449 ?_
    refine aw_iconst (v := 5) hG dL_law_1451 rfl ?_
    refine aw_iadd hG dL_law_1452 ?_
    refine aw_sld hG hX (sI h0 h7 hL (by decide) (by decide)) dL_law_1453 ?_
    refine aw_callVl (As := [.int (xs (i + 1).toNatClampNeg), .long ((jshl ((xs (i + 2).toNatClampNeg).toInt64) 32) ||| (((xs (i + 3).toNatClampNeg).toInt64) &&& 4294967295)), .int (xs (i + 4).toNatClampNeg), .int (xs (i + 5).toNatClampNeg)]) (rest := []) hG (c_X7_power (c := c) (m := m) (z := z) hs9) lM_119 wvM_X7_power (rv_X7 hG) rfl rfl rfl (by decide) (Nat.le_trans (Nat.le_refl _) hk) hn (Nat.le_of_ble_eq_true rfl) dL_law_1454 ?_
    refine aw_lstore (L' := [(6, .long s9.1), (5, .int 1), (0, .ref b), (1, .ref (wad (cxw g) 0)), (2, .ref (wad (cxw g) 17)), (3, .ref (wad (cxw g) 26)), (4, .int i)]) hG dL_law_1457 (by decide) rfl ?_
    refine aw_aload_n hG 4 rfl dL_law_1459 rfl ?_
    refine aw_callVi (As := []) (rest := []) hG (c_X7_thrown (c := c) (m := s9.2) (z := z)) lM_7 wvM_X7_thrown (rv_X7 hG) rfl rfl rfl (by decide) (Nat.le_trans (Nat.le_refl _) hk) hn (Nat.le_of_ble_eq_true rfl) dL_law_1460 ?_
    refine aw_iload hG 1 rfl dL_law_1463 ?_
    refine aw_icmp_eq (t := 1470) hG dL_law_1465 rfl (fun hq9 => ?_) (fun hq9 => ?_)
    rotate_left
    · exact absurd ht hq9
    refine aw_iload hG 1 rfl dL_law_1470 ?_
    refine aw_if_ne (t := 1486) hG dL_law_1472 rfl (fun hq9 => ?_) (fun hq9 => ?_)
    rotate_left
    · exact absurd hq9 (by decide)
    refine aw_goto (t := 2542) hG dL_law_1486 rfl ?_
    refine aw_sub (L' := [(0, .ref b), (1, .ref (wad (cxw g) 0)), (2, .ref (wad (cxw g) 17)), (3, .ref (wad (cxw g) 26)), (4, .int i)]) [2, 3, 4, 5, 6] rfl ?_
    exact kk _ _ _ hI2
  · skip
    refine aw_aload_n hG 1 rfl dL_law_1366 rfl ?_
    refine aw_aload_n hG 0 rfl dL_law_1367 rfl ?_
    refine aw_iload hG 4 rfl dL_law_1368 ?_
    refine aw_iconst (v := 1) hG dL_law_1370 rfl ?_
    refine aw_iadd hG dL_law_1371 ?_
    refine aw_sld hG hX (sI h0 h7 hL (by decide) (by decide)) dL_law_1372 ?_
    refine aw_aload_n hG 0 rfl dL_law_1373 rfl ?_
    refine aw_iload hG 4 rfl dL_law_1374 ?_
    refine aw_iconst (v := 2) hG dL_law_1376 rfl ?_
    refine aw_iadd hG dL_law_1377 ?_
    refine aw_sld hG hX (sI h0 h7 hL (by decide) (by decide)) dL_law_1378 ?_
    refine aw_i2l hG dL_law_1379 ?_
    refine aw_bipush (v := 32) hG dL_law_1380 rfl ?_
    refine aw_lshlJ hG dL_law_1382 ?_
    refine aw_aload_n hG 0 rfl dL_law_1383 rfl ?_
    refine aw_iload hG 4 rfl dL_law_1384 ?_
    refine aw_iconst (v := 3) hG dL_law_1386 rfl ?_
    refine aw_iadd hG dL_law_1387 ?_
    refine aw_sld hG hX (sI h0 h7 hL (by decide) (by decide)) dL_law_1388 ?_
    refine aw_i2l hG dL_law_1389 ?_
    refine aw_ldc2 hG lM_0 dL_law_1390 ?_
    refine aw_land hG dL_law_1393 ?_
    refine aw_lor hG dL_law_1394 ?_
    refine aw_aload_n hG 0 rfl dL_law_1395 rfl ?_
    refine aw_iload hG 4 rfl dL_law_1396 ?_
    refine aw_iconst (v := 4) hG dL_law_1398 rfl ?_
    refine aw_iadd hG dL_law_1399 ?_
    refine aw_sld hG hX (sI h0 h7 hL (by decide) (by decide)) dL_law_1400 ?_
    refine aw_aload_n hG 0 rfl dL_law_1401 rfl ?_
    refine aw_iload hG 4 rfl dL_law_1402 ?_
    refine aw_iconst (v := 5) hG dL_law_1404 rfl ?_
    refine aw_iadd hG dL_law_1405 ?_
    refine aw_sld hG hX (sI h0 h7 hL (by decide) (by decide)) dL_law_1406 ?_
    refine aw_aload_n hG 3 rfl dL_law_1407 rfl ?_
    refine aw_callH (v := 0) (σ' := (c9, m, vp_updL z 0 v9)) (As := [.ref (wad (cxw g) 0), .int (xs (i + 1).toNatClampNeg), .long ((jshl ((xs (i + 2).toNatClampNeg).toInt64) 32) ||| (((xs (i + 3).toNatClampNeg).toInt64) &&& 4294967295)), .int (xs (i + 4).toNatClampNeg), .int (xs (i + 5).toNatClampNeg), .ref (wad (cxw g) 26)]) (rest := []) hG hst (c_L_power hc) lM_118 wh_power rfl rfl rfl (by decide) hk hn (Nat.le_of_ble_eq_true rfl) dL_law_1408 ?_
    refine aw_istore (L' := [(5, .int 0), (0, .ref b), (1, .ref (wad (cxw g) 0)), (2, .ref (wad (cxw g) 17)), (3, .ref (wad (cxw g) 26)), (4, .int i)]) hG dL_law_1411 (by decide) rfl ?_
    refine aw_aload_n hG 3 rfl dL_law_1413 rfl ?_
    refine aw_aload_n hG 1 rfl dL_law_1414 rfl ?_
    refine aw_iload hG 5 rfl dL_law_1415 ?_
    refine aw_iconst (v := 1) hG dL_law_1417 rfl ?_
    refine aw_iadd hG dL_law_1418 ?_
    refine aw_sld hG hX (sI h0 h7 hL (by decide) (by decide)) dL_law_1419 ?_
    refine aw_aload_n hG 1 rfl dL_law_1420 rfl ?_
    refine aw_iload hG 5 rfl dL_law_1421 ?_
    refine aw_iconst (v := 2) hG dL_law_1423 rfl ?_
    refine aw_iadd hG dL_law_1424 ?_
    refine aw_sld hG hX (sI h0 h7 hL (by decide) (by decide)) dL_law_1425 ?_
    refine aw_i2l hG dL_law_1426 ?_
    refine aw_bipush (v := 32) hG dL_law_1427 rfl ?_
    refine aw_lshlJ hG dL_law_1429 ?_
    refine aw_aload_n hG 1 rfl dL_law_1430 rfl ?_
    refine aw_iload hG 5 rfl dL_law_1431 ?_
    refine aw_iconst (v := 3) hG dL_law_1433 rfl ?_
    refine aw_iadd hG dL_law_1434 ?_
    refine aw_sld hG hX (sI h0 h7 hL (by decide) (by decide)) dL_law_1435 ?_
    refine aw_i2l hG dL_law_1436 ?_
    refine aw_ldc2 hG lM_0 dL_law_1437 ?_
    refine aw_land hG dL_law_1440 ?_
    refine aw_lor hG dL_law_1441 ?_
    refine aw_aload_n hG 1 rfl dL_law_1442 rfl ?_
    refine aw_iload hG 5 rfl dL_law_1443 ?_
    refine aw_iconst (v := 4) hG dL_law_1445 rfl ?_
    refine aw_iadd hG dL_law_1446 ?_
    refine aw_sld hG hX (sI h0 h7 hL (by decide) (by decide)) dL_law_1447 ?_
    refine aw_aload_n hG 1 rfl dL_law_1448 rfl ?_
    refine aw_iload hG 5 rfl dL_law_1449 ?_
    refine aw_iconst (v := 5) hG dL_law_1451 rfl ?_
    refine aw_iadd hG dL_law_1452 ?_
    refine aw_sld hG hX (sI h0 h7 hL (by decide) (by decide)) dL_law_1453 ?_
    refine aw_callVl (As := [.int (xs (i + 1).toNatClampNeg), .long ((jshl ((xs (i + 2).toNatClampNeg).toInt64) 32) ||| (((xs (i + 3).toNatClampNeg).toInt64) &&& 4294967295)), .int (xs (i + 4).toNatClampNeg), .int (xs (i + 5).toNatClampNeg)]) (rest := []) hG (c_X7_power (c := c9) (m := m) (z := (vp_updL z 0 v9)) hs9) lM_119 wvM_X7_power (rv_X7 hG) rfl rfl rfl (by decide) (Nat.le_trans (Nat.le_refl _) hk) hn (Nat.le_of_ble_eq_true rfl) dL_law_1454 ?_
    refine aw_lstore (L' := [(6, .long s9.1), (5, .int 0), (0, .ref b), (1, .ref (wad (cxw g) 0)), (2, .ref (wad (cxw g) 17)), (3, .ref (wad (cxw g) 26)), (4, .int i)]) hG dL_law_1457 (by decide) rfl ?_
    refine aw_aload_n hG 4 rfl dL_law_1459 rfl ?_
    refine aw_callVi (As := []) (rest := []) hG (c_X7_thrown (c := c9) (m := s9.2) (z := (vp_updL z 0 v9))) lM_7 wvM_X7_thrown (rv_X7 hG) rfl rfl rfl (by decide) (Nat.le_trans (Nat.le_refl _) hk) hn (Nat.le_of_ble_eq_true rfl) dL_law_1460 ?_
    refine aw_iload hG 1 rfl dL_law_1463 ?_
    refine aw_icmp_eq (t := 1470) hG dL_law_1465 rfl (fun hq9 => ?_) (fun hq9 => ?_)
    rotate_left
    · exact absurd ht hq9
    refine aw_iload hG 1 rfl dL_law_1470 ?_
    refine aw_if_ne (t := 1486) hG dL_law_1472 rfl (fun hq9 => ?_) (fun hq9 => ?_)
    · exact absurd rfl hq9
    refine aw_aload_n hG 5 rfl dL_law_1475 rfl ?_
    refine aw_iconst (v := 0) hG dL_law_1476 rfl ?_
    refine al_out hG dL_law_1477 ?_
    refine aw_lload hG 0 rfl dL_law_1478 ?_
    refine aw_lc_eq (t := 1486) hG dL_law_1480 rfl dL_law_1481 rfl rfl (fun hq9 => ?_) (fun hq9 => ?_)
    rotate_left
    · exact absurd (pk_uLs.trans h1.symm) hq9
    refine aw_goto (t := 2542) hG dL_law_1486 rfl ?_
    refine aw_sub (L' := [(0, .ref b), (1, .ref (wad (cxw g) 0)), (2, .ref (wad (cxw g) 17)), (3, .ref (wad (cxw g) 26)), (4, .int i)]) [2, 3, 4, 5, 6] rfl ?_
    exact kk _ _ _ hI2
set_option maxRecDepth 20000 in
set_option maxHeartbeats 4000000 in
theorem lc_convert {Inv : CS → MS → Prop} (hA : AllA Inv) (hG : Gd g RL cL_law 8 12 mc ms) (hst : g.1.2.1.stackTraces = false) (hX : LX g b Ln xs) {i : Int32} (h0 : 0 ≤ i.toInt) (h7 : i.toInt + 7 ≤ Ln) (hL : Ln ≤ 3584) {c : CS} {m : MS} {z : Nat → Int64} (hk : k + 1 ≤ mc) (hn : n + 6 ≤ ms) (hI : Inv c m) (kk : ∀ c' m' z', Inv c' m' → AW g 2542 [(0, .ref b), (1, .ref (wad (cxw g) 0)), (2, .ref (wad (cxw g) 17)), (3, .ref (wad (cxw g) 26)), (4, .int i)] [] (c', m', z') (k + 1) (n + 6)) : AW g 1489 [(0, .ref b), (1, .ref (wad (cxw g) 0)), (2, .ref (wad (cxw g) 17)), (3, .ref (wad (cxw g) 26)), (4, .int i)] [] (c, m, z) k n := by
  obtain ⟨v9, m9, hm, hcl⟩ := hA.2.2.2.2.2.2.2.2.2.2.2.2.2.1 (xs (i + 1).toNatClampNeg) ((jshl ((xs (i + 2).toNatClampNeg).toInt64) 32) ||| (((xs (i + 3).toNatClampNeg).toInt64) &&& 4294967295)) (xs (i + 4).toNatClampNeg) (xs (i + 5).toNatClampNeg) c m hI
  unfold mo_convert at hm
  obtain ⟨s9, hs9, he9⟩ := Option.map_eq_some_iff.mp hm
  have h1 := congrArg Prod.fst he9
  have h2 := congrArg Prod.snd he9
  dsimp only at h1 h2
  subst h2
  rcases hcl with ⟨hc, ht, hI2⟩ | ⟨c9, hc, ht, hI2⟩
  · skip
    refine aw_aload_n hG 1 rfl dL_law_1489 rfl ?_
    refine aw_aload_n hG 0 rfl dL_law_1490 rfl ?_
    refine aw_iload hG 4 rfl dL_law_1491 ?_
    refine aw_iconst (v := 1) hG dL_law_1493 rfl ?_
    refine aw_iadd hG dL_law_1494 ?_
    refine aw_sld hG hX (sI h0 h7 hL (by decide) (by decide)) dL_law_1495 ?_
    refine aw_aload_n hG 0 rfl dL_law_1496 rfl ?_
    refine aw_iload hG 4 rfl dL_law_1497 ?_
    refine aw_iconst (v := 2) hG dL_law_1499 rfl ?_
    refine aw_iadd hG dL_law_1500 ?_
    refine aw_sld hG hX (sI h0 h7 hL (by decide) (by decide)) dL_law_1501 ?_
    refine aw_i2l hG dL_law_1502 ?_
    refine aw_bipush (v := 32) hG dL_law_1503 rfl ?_
    refine aw_lshlJ hG dL_law_1505 ?_
    refine aw_aload_n hG 0 rfl dL_law_1506 rfl ?_
    refine aw_iload hG 4 rfl dL_law_1507 ?_
    refine aw_iconst (v := 3) hG dL_law_1509 rfl ?_
    refine aw_iadd hG dL_law_1510 ?_
    refine aw_sld hG hX (sI h0 h7 hL (by decide) (by decide)) dL_law_1511 ?_
    refine aw_i2l hG dL_law_1512 ?_
    refine aw_ldc2 hG lM_0 dL_law_1513 ?_
    refine aw_land hG dL_law_1516 ?_
    refine aw_lor hG dL_law_1517 ?_
    refine aw_aload_n hG 0 rfl dL_law_1518 rfl ?_
    refine aw_iload hG 4 rfl dL_law_1519 ?_
    refine aw_iconst (v := 4) hG dL_law_1521 rfl ?_
    refine aw_iadd hG dL_law_1522 ?_
    refine aw_sld hG hX (sI h0 h7 hL (by decide) (by decide)) dL_law_1523 ?_
    refine aw_aload_n hG 0 rfl dL_law_1524 rfl ?_
    refine aw_iload hG 4 rfl dL_law_1525 ?_
    refine aw_iconst (v := 5) hG dL_law_1527 rfl ?_
    refine aw_iadd hG dL_law_1528 ?_
    refine aw_sld hG hX (sI h0 h7 hL (by decide) (by decide)) dL_law_1529 ?_
    refine aw_aload_n hG 3 rfl dL_law_1530 rfl ?_
    refine aw_callH (v := 1) (σ' := (c, m, z)) (As := [.ref (wad (cxw g) 0), .int (xs (i + 1).toNatClampNeg), .long ((jshl ((xs (i + 2).toNatClampNeg).toInt64) 32) ||| (((xs (i + 3).toNatClampNeg).toInt64) &&& 4294967295)), .int (xs (i + 4).toNatClampNeg), .int (xs (i + 5).toNatClampNeg), .ref (wad (cxw g) 26)]) (rest := []) hG hst (c_L_convert hc) lM_124 wh_convert rfl rfl rfl (by decide) hk hn (Nat.le_of_ble_eq_true rfl) dL_law_1531 ?_
    refine aw_istore (L' := [(5, .int 1), (0, .ref b), (1, .ref (wad (cxw g) 0)), (2, .ref (wad (cxw g) 17)), (3, .ref (wad (cxw g) 26)), (4, .int i)]) hG dL_law_1534 (by decide) rfl ?_
    refine aw_aload_n hG 3 rfl dL_law_1536 rfl ?_
    refine aw_aload_n hG 1 rfl dL_law_1537 rfl ?_
    refine aw_iload hG 5 rfl dL_law_1538 ?_
    refine aw_iconst (v := 1) hG dL_law_1540 rfl ?_
    refine aw_iadd hG dL_law_1541 ?_
    refine aw_sld hG hX (sI h0 h7 hL (by decide) (by decide)) dL_law_1542 ?_
    refine aw_aload_n hG 1 rfl dL_law_1543 rfl ?_
    refine aw_iload hG 5 rfl dL_law_1544 ?_
    refine aw_iconst (v := 2) hG dL_law_1546 rfl ?_
    refine aw_iadd hG dL_law_1547 ?_
    refine aw_sld hG hX (sI h0 h7 hL (by decide) (by decide)) dL_law_1548 ?_
    refine aw_i2l hG dL_law_1549 ?_
    refine aw_bipush (v := 32) hG dL_law_1550 rfl ?_
    refine aw_lshlJ hG dL_law_1552 ?_
    refine aw_aload_n hG 1 rfl dL_law_1553 rfl ?_
    refine aw_iload hG 5 rfl dL_law_1554 ?_
    refine aw_iconst (v := 3) hG dL_law_1556 rfl ?_
    refine aw_iadd hG dL_law_1557 ?_
    refine aw_sld hG hX (sI h0 h7 hL (by decide) (by decide)) dL_law_1558 ?_
    refine aw_i2l hG dL_law_1559 ?_
    refine aw_ldc2 hG lM_0 dL_law_1560 ?_
    refine aw_land hG dL_law_1563 ?_
    refine aw_lor hG dL_law_1564 ?_
    refine aw_aload_n hG 1 rfl dL_law_1565 rfl ?_
    refine aw_iload hG 5 rfl dL_law_1566 ?_
    refine aw_iconst (v := 4) hG dL_law_1568 rfl ?_
    refine aw_iadd hG dL_law_1569 ?_
    refine aw_sld hG hX (sI h0 h7 hL (by decide) (by decide)) dL_law_1570 ?_
    refine aw_aload_n hG 1 rfl dL_law_1571 rfl ?_
    refine aw_iload hG 5 rfl dL_law_1572 ?_
    refine aw_iconst (v := 5) hG dL_law_1574 rfl ?_
    refine aw_iadd hG dL_law_1575 ?_
    refine aw_sld hG hX (sI h0 h7 hL (by decide) (by decide)) dL_law_1576 ?_
    refine aw_callVl (As := [.int (xs (i + 1).toNatClampNeg), .long ((jshl ((xs (i + 2).toNatClampNeg).toInt64) 32) ||| (((xs (i + 3).toNatClampNeg).toInt64) &&& 4294967295)), .int (xs (i + 4).toNatClampNeg), .int (xs (i + 5).toNatClampNeg)]) (rest := []) hG (c_X7_convert (c := c) (m := m) (z := z) hs9) lM_125 wvM_X7_convert (rv_X7 hG) rfl rfl rfl (by decide) (Nat.le_trans (Nat.le_refl _) hk) hn (Nat.le_of_ble_eq_true rfl) dL_law_1577 ?_
    refine aw_lstore (L' := [(6, .long s9.1), (5, .int 1), (0, .ref b), (1, .ref (wad (cxw g) 0)), (2, .ref (wad (cxw g) 17)), (3, .ref (wad (cxw g) 26)), (4, .int i)]) hG dL_law_1580 (by decide) rfl ?_
    refine aw_aload_n hG 4 rfl dL_law_1582 rfl ?_
    refine aw_callVi (As := []) (rest := []) hG (c_X7_thrown (c := c) (m := s9.2) (z := z)) lM_7 wvM_X7_thrown (rv_X7 hG) rfl rfl rfl (by decide) (Nat.le_trans (Nat.le_refl _) hk) hn (Nat.le_of_ble_eq_true rfl) dL_law_1583 ?_
    refine aw_iload hG 1 rfl dL_law_1586 ?_
    refine aw_icmp_eq (t := 1593) hG dL_law_1588 rfl (fun hq9 => ?_) (fun hq9 => ?_)
    rotate_left
    · exact absurd ht hq9
    refine aw_iload hG 1 rfl dL_law_1593 ?_
    refine aw_if_ne (t := 1609) hG dL_law_1595 rfl (fun hq9 => ?_) (fun hq9 => ?_)
    rotate_left
    · exact absurd hq9 (by decide)
    refine aw_goto (t := 2542) hG dL_law_1609 rfl ?_
    refine aw_sub (L' := [(0, .ref b), (1, .ref (wad (cxw g) 0)), (2, .ref (wad (cxw g) 17)), (3, .ref (wad (cxw g) 26)), (4, .int i)]) [2, 3, 4, 5, 6] rfl ?_
    exact kk _ _ _ hI2
  · skip
    refine aw_aload_n hG 1 rfl dL_law_1489 rfl ?_
    refine aw_aload_n hG 0 rfl dL_law_1490 rfl ?_
    refine aw_iload hG 4 rfl dL_law_1491 ?_
    refine aw_iconst (v := 1) hG dL_law_1493 rfl ?_
    refine aw_iadd hG dL_law_1494 ?_
    refine aw_sld hG hX (sI h0 h7 hL (by decide) (by decide)) dL_law_1495 ?_
    refine aw_aload_n hG 0 rfl dL_law_1496 rfl ?_
    refine aw_iload hG 4 rfl dL_law_1497 ?_
    refine aw_iconst (v := 2) hG dL_law_1499 rfl ?_
    refine aw_iadd hG dL_law_1500 ?_
    refine aw_sld hG hX (sI h0 h7 hL (by decide) (by decide)) dL_law_1501 ?_
    refine aw_i2l hG dL_law_1502 ?_
    refine aw_bipush (v := 32) hG dL_law_1503 rfl ?_
    refine aw_lshlJ hG dL_law_1505 ?_
    refine aw_aload_n hG 0 rfl dL_law_1506 rfl ?_
    refine aw_iload hG 4 rfl dL_law_1507 ?_
    refine aw_iconst (v := 3) hG dL_law_1509 rfl ?_
    refine aw_iadd hG dL_law_1510 ?_
    refine aw_sld hG hX (sI h0 h7 hL (by decide) (by decide)) dL_law_1511 ?_
    refine aw_i2l hG dL_law_1512 ?_
    refine aw_ldc2 hG lM_0 dL_law_1513 ?_
    refine aw_land hG dL_law_1516 ?_
    refine aw_lor hG dL_law_1517 ?_
    refine aw_aload_n hG 0 rfl dL_law_1518 rfl ?_
    refine aw_iload hG 4 rfl dL_law_1519 ?_
    refine aw_iconst (v := 4) hG dL_law_1521 rfl ?_
    refine aw_iadd hG dL_law_1522 ?_
    refine aw_sld hG hX (sI h0 h7 hL (by decide) (by decide)) dL_law_1523 ?_
    refine aw_aload_n hG 0 rfl dL_law_1524 rfl ?_
    refine aw_iload hG 4 rfl dL_law_1525 ?_
    refine aw_iconst (v := 5) hG dL_law_1527 rfl ?_
    refine aw_iadd hG dL_law_1528 ?_
    refine aw_sld hG hX (sI h0 h7 hL (by decide) (by decide)) dL_law_1529 ?_
    refine aw_aload_n hG 3 rfl dL_law_1530 rfl ?_
    refine aw_callH (v := 0) (σ' := (c9, m, vp_updL z 0 v9)) (As := [.ref (wad (cxw g) 0), .int (xs (i + 1).toNatClampNeg), .long ((jshl ((xs (i + 2).toNatClampNeg).toInt64) 32) ||| (((xs (i + 3).toNatClampNeg).toInt64) &&& 4294967295)), .int (xs (i + 4).toNatClampNeg), .int (xs (i + 5).toNatClampNeg), .ref (wad (cxw g) 26)]) (rest := []) hG hst (c_L_convert hc) lM_124 wh_convert rfl rfl rfl (by decide) hk hn (Nat.le_of_ble_eq_true rfl) dL_law_1531 ?_
    refine aw_istore (L' := [(5, .int 0), (0, .ref b), (1, .ref (wad (cxw g) 0)), (2, .ref (wad (cxw g) 17)), (3, .ref (wad (cxw g) 26)), (4, .int i)]) hG dL_law_1534 (by decide) rfl ?_
    refine aw_aload_n hG 3 rfl dL_law_1536 rfl ?_
    refine aw_aload_n hG 1 rfl dL_law_1537 rfl ?_
    refine aw_iload hG 5 rfl dL_law_1538 ?_
    refine aw_iconst (v := 1) hG dL_law_1540 rfl ?_
    refine aw_iadd hG dL_law_1541 ?_
    refine aw_sld hG hX (sI h0 h7 hL (by decide) (by decide)) dL_law_1542 ?_
    refine aw_aload_n hG 1 rfl dL_law_1543 rfl ?_
    refine aw_iload hG 5 rfl dL_law_1544 ?_
    refine aw_iconst (v := 2) hG dL_law_1546 rfl ?_
    refine aw_iadd hG dL_law_1547 ?_
    refine aw_sld hG hX (sI h0 h7 hL (by decide) (by decide)) dL_law_1548 ?_
    refine aw_i2l hG dL_law_1549 ?_
    refine aw_bipush (v := 32) hG dL_law_1550 rfl ?_
    refine aw_lshlJ hG dL_law_1552 ?_
    refine aw_aload_n hG 1 rfl dL_law_1553 rfl ?_
    refine aw_iload hG 5 rfl dL_law_1554 ?_
    refine aw_iconst (v := 3) hG dL_law_1556 rfl ?_
    refine aw_iadd hG dL_law_1557 ?_
    refine aw_sld hG hX (sI h0 h7 hL (by decide) (by decide)) dL_law_1558 ?_
    refine aw_i2l hG dL_law_1559 ?_
    refine aw_ldc2 hG lM_0 dL_law_1560 ?_
    refine aw_land hG dL_law_1563 ?_
    refine aw_lor hG dL_law_1564 ?_
    refine aw_aload_n hG 1 rfl dL_law_1565 rfl ?_
    refine aw_iload hG 5 rfl dL_law_1566 ?_
    refine aw_iconst (v := 4) hG dL_law_1568 rfl ?_
    refine aw_iadd hG dL_law_1569 ?_
    refine aw_sld hG hX (sI h0 h7 hL (by decide) (by decide)) dL_law_1570 ?_
    refine aw_aload_n hG 1 rfl dL_law_1571 rfl ?_
    refine aw_iload hG 5 rfl dL_law_1572 ?_
    refine aw_iconst (v := 5) hG dL_law_1574 rfl ?_
    refine aw_iadd hG dL_law_1575 ?_
    refine aw_sld hG hX (sI h0 h7 hL (by decide) (by decide)) dL_law_1576 ?_
    refine aw_callVl (As := [.int (xs (i + 1).toNatClampNeg), .long ((jshl ((xs (i + 2).toNatClampNeg).toInt64) 32) ||| (((xs (i + 3).toNatClampNeg).toInt64) &&& 4294967295)), .int (xs (i + 4).toNatClampNeg), .int (xs (i + 5).toNatClampNeg)]) (rest := []) hG (c_X7_convert (c := c9) (m := m) (z := (vp_updL z 0 v9)) hs9) lM_125 wvM_X7_convert (rv_X7 hG) rfl rfl rfl (by decide) (Nat.le_trans (Nat.le_refl _) hk) hn (Nat.le_of_ble_eq_true rfl) dL_law_1577 ?_
    refine aw_lstore (L' := [(6, .long s9.1), (5, .int 0), (0, .ref b), (1, .ref (wad (cxw g) 0)), (2, .ref (wad (cxw g) 17)), (3, .ref (wad (cxw g) 26)), (4, .int i)]) hG dL_law_1580 (by decide) rfl ?_
    refine aw_aload_n hG 4 rfl dL_law_1582 rfl ?_
    refine aw_callVi (As := []) (rest := []) hG (c_X7_thrown (c := c9) (m := s9.2) (z := (vp_updL z 0 v9))) lM_7 wvM_X7_thrown (rv_X7 hG) rfl rfl rfl (by decide) (Nat.le_trans (Nat.le_refl _) hk) hn (Nat.le_of_ble_eq_true rfl) dL_law_1583 ?_
    refine aw_iload hG 1 rfl dL_law_1586 ?_
    refine aw_icmp_eq (t := 1593) hG dL_law_1588 rfl (fun hq9 => ?_) (fun hq9 => ?_)
    rotate_left
    · exact absurd ht hq9
    refine aw_iload hG 1 rfl dL_law_1593 ?_
    refine aw_if_ne (t := 1609) hG dL_law_1595 rfl (fun hq9 => ?_) (fun hq9 => ?_)
    · exact absurd rfl hq9
    refine aw_aload_n hG 5 rfl dL_law_1598 rfl ?_
    refine aw_iconst (v := 0) hG dL_law_1599 rfl ?_
    refine al_out hG dL_law_1600 ?_
    refine aw_lload hG 0 rfl dL_law_1601 ?_
    refine aw_lc_eq (t := 1609) hG dL_law_1603 rfl dL_law_1604 rfl rfl (fun hq9 => ?_) (fun hq9 => ?_)
    rotate_left
    · exact absurd (pk_uLs.trans h1.symm) hq9
    refine aw_goto (t := 2542) hG dL_law_1609 rfl ?_
    refine aw_sub (L' := [(0, .ref b), (1, .ref (wad (cxw g) 0)), (2, .ref (wad (cxw g) 17)), (3, .ref (wad (cxw g) 26)), (4, .int i)]) [2, 3, 4, 5, 6] rfl ?_
    exact kk _ _ _ hI2
set_option maxRecDepth 20000 in
set_option maxHeartbeats 4000000 in
theorem lc_next {Inv : CS → MS → Prop} (hA : AllA Inv) (hG : Gd g RL cL_law 8 12 mc ms) (hst : g.1.2.1.stackTraces = false) (hX : LX g b Ln xs) {i : Int32} (h0 : 0 ≤ i.toInt) (h7 : i.toInt + 7 ≤ Ln) (hL : Ln ≤ 3584) {c : CS} {m : MS} {z : Nat → Int64} (hk : k + 1 ≤ mc) (hn : n + 6 ≤ ms) (hI : Inv c m) (kk : ∀ c' m' z', Inv c' m' → AW g 2542 [(0, .ref b), (1, .ref (wad (cxw g) 0)), (2, .ref (wad (cxw g) 17)), (3, .ref (wad (cxw g) 26)), (4, .int i)] [] (c', m', z') (k + 1) (n + 6)) : AW g 1612 [(0, .ref b), (1, .ref (wad (cxw g) 0)), (2, .ref (wad (cxw g) 17)), (3, .ref (wad (cxw g) 26)), (4, .int i)] [] (c, m, z) k n := by
  by_cases hq : xs (i + 4).toNatClampNeg = 0
  · skip
    obtain ⟨v9, m9, hm, hcl⟩ := hA.2.2.2.2.2.2.2.2.2.2.2.2.2.2.1 (xs (i + 1).toNatClampNeg) ((jshl ((xs (i + 2).toNatClampNeg).toInt64) 32) ||| (((xs (i + 3).toNatClampNeg).toInt64) &&& 4294967295)) 0 c m hI
    unfold mo_next at hm
    obtain ⟨s9, hs9⟩ : ∃ s, f_X7_next (xs (i + 1).toNatClampNeg) ((jshl ((xs (i + 2).toNatClampNeg).toInt64) 32) ||| (((xs (i + 3).toNatClampNeg).toInt64) &&& 4294967295)) 0 m = s := ⟨_, rfl⟩
    rw [hs9] at hm
    have he9 := Option.some.inj hm
    have h1 := congrArg Prod.fst he9
    have h2 := congrArg Prod.snd he9
    dsimp only at h1 h2
    subst h2
    rcases hcl with ⟨hc, ht, hI2⟩ | ⟨c9, hc, ht, hI2⟩
    · skip
      refine aw_aload_n hG 1 rfl dL_law_1612 rfl ?_
      refine aw_aload_n hG 0 rfl dL_law_1613 rfl ?_
      refine aw_iload hG 4 rfl dL_law_1614 ?_
      refine aw_iconst (v := 1) hG dL_law_1616 rfl ?_
      refine aw_iadd hG dL_law_1617 ?_
      refine aw_sld hG hX (sI h0 h7 hL (by decide) (by decide)) dL_law_1618 ?_
      refine aw_aload_n hG 0 rfl dL_law_1619 rfl ?_
      refine aw_iload hG 4 rfl dL_law_1620 ?_
      refine aw_iconst (v := 2) hG dL_law_1622 rfl ?_
      refine aw_iadd hG dL_law_1623 ?_
      refine aw_sld hG hX (sI h0 h7 hL (by decide) (by decide)) dL_law_1624 ?_
      refine aw_i2l hG dL_law_1625 ?_
      refine aw_bipush (v := 32) hG dL_law_1626 rfl ?_
      refine aw_lshlJ hG dL_law_1628 ?_
      refine aw_aload_n hG 0 rfl dL_law_1629 rfl ?_
      refine aw_iload hG 4 rfl dL_law_1630 ?_
      refine aw_iconst (v := 3) hG dL_law_1632 rfl ?_
      refine aw_iadd hG dL_law_1633 ?_
      refine aw_sld hG hX (sI h0 h7 hL (by decide) (by decide)) dL_law_1634 ?_
      refine aw_i2l hG dL_law_1635 ?_
      refine aw_ldc2 hG lM_0 dL_law_1636 ?_
      refine aw_land hG dL_law_1639 ?_
      refine aw_lor hG dL_law_1640 ?_
      refine aw_aload_n hG 0 rfl dL_law_1641 rfl ?_
      refine aw_iload hG 4 rfl dL_law_1642 ?_
      refine aw_iconst (v := 4) hG dL_law_1644 rfl ?_
      refine aw_iadd hG dL_law_1645 ?_
      refine aw_sld hG hX (sI h0 h7 hL (by decide) (by decide)) dL_law_1646 ?_
      refine aw_if_eq (t := 1654) hG dL_law_1647 rfl (fun hcq => ?_) (fun hcq => ?_)
      rotate_left
      · exact absurd hq hcq
      refine aw_iconst (v := 0) hG dL_law_1654 rfl ?_
      refine aw_aload_n hG 3 rfl dL_law_1655 rfl ?_
      refine aw_callH (v := 1) (σ' := (c, m, z)) (As := [.ref (wad (cxw g) 0), .int (xs (i + 1).toNatClampNeg), .long ((jshl ((xs (i + 2).toNatClampNeg).toInt64) 32) ||| (((xs (i + 3).toNatClampNeg).toInt64) &&& 4294967295)), .int 0, .ref (wad (cxw g) 26)]) (rest := []) hG hst (c_L_next hc) lM_130 wh_next rfl rfl rfl (by decide) hk hn (Nat.le_of_ble_eq_true rfl) dL_law_1656 ?_
      refine aw_istore (L' := [(5, .int 1), (0, .ref b), (1, .ref (wad (cxw g) 0)), (2, .ref (wad (cxw g) 17)), (3, .ref (wad (cxw g) 26)), (4, .int i)]) hG dL_law_1659 (by decide) rfl ?_
      refine aw_aload_n hG 3 rfl dL_law_1661 rfl ?_
      refine aw_aload_n hG 1 rfl dL_law_1662 rfl ?_
      refine aw_iload hG 5 rfl dL_law_1663 ?_
      refine aw_iconst (v := 1) hG dL_law_1665 rfl ?_
      refine aw_iadd hG dL_law_1666 ?_
      refine aw_sld hG hX (sI h0 h7 hL (by decide) (by decide)) dL_law_1667 ?_
      refine aw_aload_n hG 1 rfl dL_law_1668 rfl ?_
      refine aw_iload hG 5 rfl dL_law_1669 ?_
      refine aw_iconst (v := 2) hG dL_law_1671 rfl ?_
      refine aw_iadd hG dL_law_1672 ?_
      refine aw_sld hG hX (sI h0 h7 hL (by decide) (by decide)) dL_law_1673 ?_
      refine aw_i2l hG dL_law_1674 ?_
      refine aw_bipush (v := 32) hG dL_law_1675 rfl ?_
      refine aw_lshlJ hG dL_law_1677 ?_
      refine aw_aload_n hG 1 rfl dL_law_1678 rfl ?_
      refine aw_iload hG 5 rfl dL_law_1679 ?_
      refine aw_iconst (v := 3) hG dL_law_1681 rfl ?_
      refine aw_iadd hG dL_law_1682 ?_
      refine aw_sld hG hX (sI h0 h7 hL (by decide) (by decide)) dL_law_1683 ?_
      refine aw_i2l hG dL_law_1684 ?_
      refine aw_ldc2 hG lM_0 dL_law_1685 ?_
      refine aw_land hG dL_law_1688 ?_
      refine aw_lor hG dL_law_1689 ?_
      refine aw_aload_n hG 1 rfl dL_law_1690 rfl ?_
      refine aw_iload hG 5 rfl dL_law_1691 ?_
      refine aw_iconst (v := 4) hG dL_law_1693 rfl ?_
      refine aw_iadd hG dL_law_1694 ?_
      refine aw_sld hG hX (sI h0 h7 hL (by decide) (by decide)) dL_law_1695 ?_
      refine aw_if_eq (t := 1703) hG dL_law_1696 rfl (fun hcq => ?_) (fun hcq => ?_)
      rotate_left
      · exact absurd hq hcq
      refine aw_iconst (v := 0) hG dL_law_1703 rfl ?_
      refine aw_callVl (As := [.int (xs (i + 1).toNatClampNeg), .long ((jshl ((xs (i + 2).toNatClampNeg).toInt64) 32) ||| (((xs (i + 3).toNatClampNeg).toInt64) &&& 4294967295)), .int 0]) (rest := []) hG (c_X7_next (c := c) (m := m) (z := z) hs9) lM_131 wvM_X7_next (rv_X7 hG) rfl rfl rfl (by decide) (Nat.le_trans (Nat.le_refl _) hk) hn (Nat.le_of_ble_eq_true rfl) dL_law_1704 ?_
      refine aw_lstore (L' := [(6, .long s9.1), (5, .int 1), (0, .ref b), (1, .ref (wad (cxw g) 0)), (2, .ref (wad (cxw g) 17)), (3, .ref (wad (cxw g) 26)), (4, .int i)]) hG dL_law_1707 (by decide) rfl ?_
      refine aw_aload_n hG 4 rfl dL_law_1709 rfl ?_
      refine aw_callVi (As := []) (rest := []) hG (c_X7_thrown (c := c) (m := s9.2) (z := z)) lM_7 wvM_X7_thrown (rv_X7 hG) rfl rfl rfl (by decide) (Nat.le_trans (Nat.le_refl _) hk) hn (Nat.le_of_ble_eq_true rfl) dL_law_1710 ?_
      refine aw_iload hG 1 rfl dL_law_1713 ?_
      refine aw_icmp_eq (t := 1720) hG dL_law_1715 rfl (fun hq9 => ?_) (fun hq9 => ?_)
      rotate_left
      · exact absurd ht hq9
      refine aw_iload hG 1 rfl dL_law_1720 ?_
      refine aw_if_ne (t := 1736) hG dL_law_1722 rfl (fun hq9 => ?_) (fun hq9 => ?_)
      rotate_left
      · exact absurd hq9 (by decide)
      refine aw_goto (t := 2542) hG dL_law_1736 rfl ?_
      refine aw_sub (L' := [(0, .ref b), (1, .ref (wad (cxw g) 0)), (2, .ref (wad (cxw g) 17)), (3, .ref (wad (cxw g) 26)), (4, .int i)]) [2, 3, 4, 5, 6] rfl ?_
      exact kk _ _ _ hI2
    · skip
      refine aw_aload_n hG 1 rfl dL_law_1612 rfl ?_
      refine aw_aload_n hG 0 rfl dL_law_1613 rfl ?_
      refine aw_iload hG 4 rfl dL_law_1614 ?_
      refine aw_iconst (v := 1) hG dL_law_1616 rfl ?_
      refine aw_iadd hG dL_law_1617 ?_
      refine aw_sld hG hX (sI h0 h7 hL (by decide) (by decide)) dL_law_1618 ?_
      refine aw_aload_n hG 0 rfl dL_law_1619 rfl ?_
      refine aw_iload hG 4 rfl dL_law_1620 ?_
      refine aw_iconst (v := 2) hG dL_law_1622 rfl ?_
      refine aw_iadd hG dL_law_1623 ?_
      refine aw_sld hG hX (sI h0 h7 hL (by decide) (by decide)) dL_law_1624 ?_
      refine aw_i2l hG dL_law_1625 ?_
      refine aw_bipush (v := 32) hG dL_law_1626 rfl ?_
      refine aw_lshlJ hG dL_law_1628 ?_
      refine aw_aload_n hG 0 rfl dL_law_1629 rfl ?_
      refine aw_iload hG 4 rfl dL_law_1630 ?_
      refine aw_iconst (v := 3) hG dL_law_1632 rfl ?_
      refine aw_iadd hG dL_law_1633 ?_
      refine aw_sld hG hX (sI h0 h7 hL (by decide) (by decide)) dL_law_1634 ?_
      refine aw_i2l hG dL_law_1635 ?_
      refine aw_ldc2 hG lM_0 dL_law_1636 ?_
      refine aw_land hG dL_law_1639 ?_
      refine aw_lor hG dL_law_1640 ?_
      refine aw_aload_n hG 0 rfl dL_law_1641 rfl ?_
      refine aw_iload hG 4 rfl dL_law_1642 ?_
      refine aw_iconst (v := 4) hG dL_law_1644 rfl ?_
      refine aw_iadd hG dL_law_1645 ?_
      refine aw_sld hG hX (sI h0 h7 hL (by decide) (by decide)) dL_law_1646 ?_
      refine aw_if_eq (t := 1654) hG dL_law_1647 rfl (fun hcq => ?_) (fun hcq => ?_)
      rotate_left
      · exact absurd hq hcq
      refine aw_iconst (v := 0) hG dL_law_1654 rfl ?_
      refine aw_aload_n hG 3 rfl dL_law_1655 rfl ?_
      refine aw_callH (v := 0) (σ' := (c9, m, vp_updL z 0 v9)) (As := [.ref (wad (cxw g) 0), .int (xs (i + 1).toNatClampNeg), .long ((jshl ((xs (i + 2).toNatClampNeg).toInt64) 32) ||| (((xs (i + 3).toNatClampNeg).toInt64) &&& 4294967295)), .int 0, .ref (wad (cxw g) 26)]) (rest := []) hG hst (c_L_next hc) lM_130 wh_next rfl rfl rfl (by decide) hk hn (Nat.le_of_ble_eq_true rfl) dL_law_1656 ?_
      refine aw_istore (L' := [(5, .int 0), (0, .ref b), (1, .ref (wad (cxw g) 0)), (2, .ref (wad (cxw g) 17)), (3, .ref (wad (cxw g) 26)), (4, .int i)]) hG dL_law_1659 (by decide) rfl ?_
      refine aw_aload_n hG 3 rfl dL_law_1661 rfl ?_
      refine aw_aload_n hG 1 rfl dL_law_1662 rfl ?_
      refine aw_iload hG 5 rfl dL_law_1663 ?_
      refine aw_iconst (v := 1) hG dL_law_1665 rfl ?_
      refine aw_iadd hG dL_law_1666 ?_
      refine aw_sld hG hX (sI h0 h7 hL (by decide) (by decide)) dL_law_1667 ?_
      refine aw_aload_n hG 1 rfl dL_law_1668 rfl ?_
      refine aw_iload hG 5 rfl dL_law_1669 ?_
      refine aw_iconst (v := 2) hG dL_law_1671 rfl ?_
      refine aw_iadd hG dL_law_1672 ?_
      refine aw_sld hG hX (sI h0 h7 hL (by decide) (by decide)) dL_law_1673 ?_
      refine aw_i2l hG dL_law_1674 ?_
      refine aw_bipush (v := 32) hG dL_law_1675 rfl ?_
      refine aw_lshlJ hG dL_law_1677 ?_
      refine aw_aload_n hG 1 rfl dL_law_1678 rfl ?_
      refine aw_iload hG 5 rfl dL_law_1679 ?_
      refine aw_iconst (v := 3) hG dL_law_1681 rfl ?_
      refine aw_iadd hG dL_law_1682 ?_
      refine aw_sld hG hX (sI h0 h7 hL (by decide) (by decide)) dL_law_1683 ?_
      refine aw_i2l hG dL_law_1684 ?_
      refine aw_ldc2 hG lM_0 dL_law_1685 ?_
      refine aw_land hG dL_law_1688 ?_
      refine aw_lor hG dL_law_1689 ?_
      refine aw_aload_n hG 1 rfl dL_law_1690 rfl ?_
      refine aw_iload hG 5 rfl dL_law_1691 ?_
      refine aw_iconst (v := 4) hG dL_law_1693 rfl ?_
      refine aw_iadd hG dL_law_1694 ?_
      refine aw_sld hG hX (sI h0 h7 hL (by decide) (by decide)) dL_law_1695 ?_
      refine aw_if_eq (t := 1703) hG dL_law_1696 rfl (fun hcq => ?_) (fun hcq => ?_)
      rotate_left
      · exact absurd hq hcq
      refine aw_iconst (v := 0) hG dL_law_1703 rfl ?_
      refine aw_callVl (As := [.int (xs (i + 1).toNatClampNeg), .long ((jshl ((xs (i + 2).toNatClampNeg).toInt64) 32) ||| (((xs (i + 3).toNatClampNeg).toInt64) &&& 4294967295)), .int 0]) (rest := []) hG (c_X7_next (c := c9) (m := m) (z := (vp_updL z 0 v9)) hs9) lM_131 wvM_X7_next (rv_X7 hG) rfl rfl rfl (by decide) (Nat.le_trans (Nat.le_refl _) hk) hn (Nat.le_of_ble_eq_true rfl) dL_law_1704 ?_
      refine aw_lstore (L' := [(6, .long s9.1), (5, .int 0), (0, .ref b), (1, .ref (wad (cxw g) 0)), (2, .ref (wad (cxw g) 17)), (3, .ref (wad (cxw g) 26)), (4, .int i)]) hG dL_law_1707 (by decide) rfl ?_
      refine aw_aload_n hG 4 rfl dL_law_1709 rfl ?_
      refine aw_callVi (As := []) (rest := []) hG (c_X7_thrown (c := c9) (m := s9.2) (z := (vp_updL z 0 v9))) lM_7 wvM_X7_thrown (rv_X7 hG) rfl rfl rfl (by decide) (Nat.le_trans (Nat.le_refl _) hk) hn (Nat.le_of_ble_eq_true rfl) dL_law_1710 ?_
      refine aw_iload hG 1 rfl dL_law_1713 ?_
      refine aw_icmp_eq (t := 1720) hG dL_law_1715 rfl (fun hq9 => ?_) (fun hq9 => ?_)
      rotate_left
      · exact absurd ht hq9
      refine aw_iload hG 1 rfl dL_law_1720 ?_
      refine aw_if_ne (t := 1736) hG dL_law_1722 rfl (fun hq9 => ?_) (fun hq9 => ?_)
      · exact absurd rfl hq9
      refine aw_aload_n hG 5 rfl dL_law_1725 rfl ?_
      refine aw_iconst (v := 0) hG dL_law_1726 rfl ?_
      refine al_out hG dL_law_1727 ?_
      refine aw_lload hG 0 rfl dL_law_1728 ?_
      refine aw_lc_eq (t := 1736) hG dL_law_1730 rfl dL_law_1731 rfl rfl (fun hq9 => ?_) (fun hq9 => ?_)
      rotate_left
      · exact absurd (pk_uLs.trans h1.symm) hq9
      refine aw_goto (t := 2542) hG dL_law_1736 rfl ?_
      refine aw_sub (L' := [(0, .ref b), (1, .ref (wad (cxw g) 0)), (2, .ref (wad (cxw g) 17)), (3, .ref (wad (cxw g) 26)), (4, .int i)]) [2, 3, 4, 5, 6] rfl ?_
      exact kk _ _ _ hI2
  · skip
    obtain ⟨v9, m9, hm, hcl⟩ := hA.2.2.2.2.2.2.2.2.2.2.2.2.2.2.1 (xs (i + 1).toNatClampNeg) ((jshl ((xs (i + 2).toNatClampNeg).toInt64) 32) ||| (((xs (i + 3).toNatClampNeg).toInt64) &&& 4294967295)) 1 c m hI
    unfold mo_next at hm
    obtain ⟨s9, hs9⟩ : ∃ s, f_X7_next (xs (i + 1).toNatClampNeg) ((jshl ((xs (i + 2).toNatClampNeg).toInt64) 32) ||| (((xs (i + 3).toNatClampNeg).toInt64) &&& 4294967295)) 1 m = s := ⟨_, rfl⟩
    rw [hs9] at hm
    have he9 := Option.some.inj hm
    have h1 := congrArg Prod.fst he9
    have h2 := congrArg Prod.snd he9
    dsimp only at h1 h2
    subst h2
    rcases hcl with ⟨hc, ht, hI2⟩ | ⟨c9, hc, ht, hI2⟩
    · skip
      refine aw_aload_n hG 1 rfl dL_law_1612 rfl ?_
      refine aw_aload_n hG 0 rfl dL_law_1613 rfl ?_
      refine aw_iload hG 4 rfl dL_law_1614 ?_
      refine aw_iconst (v := 1) hG dL_law_1616 rfl ?_
      refine aw_iadd hG dL_law_1617 ?_
      refine aw_sld hG hX (sI h0 h7 hL (by decide) (by decide)) dL_law_1618 ?_
      refine aw_aload_n hG 0 rfl dL_law_1619 rfl ?_
      refine aw_iload hG 4 rfl dL_law_1620 ?_
      refine aw_iconst (v := 2) hG dL_law_1622 rfl ?_
      refine aw_iadd hG dL_law_1623 ?_
      refine aw_sld hG hX (sI h0 h7 hL (by decide) (by decide)) dL_law_1624 ?_
      refine aw_i2l hG dL_law_1625 ?_
      refine aw_bipush (v := 32) hG dL_law_1626 rfl ?_
      refine aw_lshlJ hG dL_law_1628 ?_
      refine aw_aload_n hG 0 rfl dL_law_1629 rfl ?_
      refine aw_iload hG 4 rfl dL_law_1630 ?_
      refine aw_iconst (v := 3) hG dL_law_1632 rfl ?_
      refine aw_iadd hG dL_law_1633 ?_
      refine aw_sld hG hX (sI h0 h7 hL (by decide) (by decide)) dL_law_1634 ?_
      refine aw_i2l hG dL_law_1635 ?_
      refine aw_ldc2 hG lM_0 dL_law_1636 ?_
      refine aw_land hG dL_law_1639 ?_
      refine aw_lor hG dL_law_1640 ?_
      refine aw_aload_n hG 0 rfl dL_law_1641 rfl ?_
      refine aw_iload hG 4 rfl dL_law_1642 ?_
      refine aw_iconst (v := 4) hG dL_law_1644 rfl ?_
      refine aw_iadd hG dL_law_1645 ?_
      refine aw_sld hG hX (sI h0 h7 hL (by decide) (by decide)) dL_law_1646 ?_
      refine aw_if_eq (t := 1654) hG dL_law_1647 rfl (fun hcq => ?_) (fun hcq => ?_)
      · exact absurd hcq hq
      refine aw_iconst (v := 1) hG dL_law_1650 rfl ?_
      refine aw_goto (t := 1655) hG dL_law_1651 rfl ?_
      refine aw_aload_n hG 3 rfl dL_law_1655 rfl ?_
      refine aw_callH (v := 1) (σ' := (c, m, z)) (As := [.ref (wad (cxw g) 0), .int (xs (i + 1).toNatClampNeg), .long ((jshl ((xs (i + 2).toNatClampNeg).toInt64) 32) ||| (((xs (i + 3).toNatClampNeg).toInt64) &&& 4294967295)), .int 1, .ref (wad (cxw g) 26)]) (rest := []) hG hst (c_L_next hc) lM_130 wh_next rfl rfl rfl (by decide) hk hn (Nat.le_of_ble_eq_true rfl) dL_law_1656 ?_
      refine aw_istore (L' := [(5, .int 1), (0, .ref b), (1, .ref (wad (cxw g) 0)), (2, .ref (wad (cxw g) 17)), (3, .ref (wad (cxw g) 26)), (4, .int i)]) hG dL_law_1659 (by decide) rfl ?_
      refine aw_aload_n hG 3 rfl dL_law_1661 rfl ?_
      refine aw_aload_n hG 1 rfl dL_law_1662 rfl ?_
      refine aw_iload hG 5 rfl dL_law_1663 ?_
      refine aw_iconst (v := 1) hG dL_law_1665 rfl ?_
      refine aw_iadd hG dL_law_1666 ?_
      refine aw_sld hG hX (sI h0 h7 hL (by decide) (by decide)) dL_law_1667 ?_
      refine aw_aload_n hG 1 rfl dL_law_1668 rfl ?_
      refine aw_iload hG 5 rfl dL_law_1669 ?_
      refine aw_iconst (v := 2) hG dL_law_1671 rfl ?_
      refine aw_iadd hG dL_law_1672 ?_
      refine aw_sld hG hX (sI h0 h7 hL (by decide) (by decide)) dL_law_1673 ?_
      refine aw_i2l hG dL_law_1674 ?_
      refine aw_bipush (v := 32) hG dL_law_1675 rfl ?_
      refine aw_lshlJ hG dL_law_1677 ?_
      refine aw_aload_n hG 1 rfl dL_law_1678 rfl ?_
      refine aw_iload hG 5 rfl dL_law_1679 ?_
      refine aw_iconst (v := 3) hG dL_law_1681 rfl ?_
      refine aw_iadd hG dL_law_1682 ?_
      refine aw_sld hG hX (sI h0 h7 hL (by decide) (by decide)) dL_law_1683 ?_
      refine aw_i2l hG dL_law_1684 ?_
      refine aw_ldc2 hG lM_0 dL_law_1685 ?_
      refine aw_land hG dL_law_1688 ?_
      refine aw_lor hG dL_law_1689 ?_
      refine aw_aload_n hG 1 rfl dL_law_1690 rfl ?_
      refine aw_iload hG 5 rfl dL_law_1691 ?_
      refine aw_iconst (v := 4) hG dL_law_1693 rfl ?_
      refine aw_iadd hG dL_law_1694 ?_
      refine aw_sld hG hX (sI h0 h7 hL (by decide) (by decide)) dL_law_1695 ?_
      refine aw_if_eq (t := 1703) hG dL_law_1696 rfl (fun hcq => ?_) (fun hcq => ?_)
      · exact absurd hcq hq
      refine aw_iconst (v := 1) hG dL_law_1699 rfl ?_
      refine aw_goto (t := 1704) hG dL_law_1700 rfl ?_
      refine aw_callVl (As := [.int (xs (i + 1).toNatClampNeg), .long ((jshl ((xs (i + 2).toNatClampNeg).toInt64) 32) ||| (((xs (i + 3).toNatClampNeg).toInt64) &&& 4294967295)), .int 1]) (rest := []) hG (c_X7_next (c := c) (m := m) (z := z) hs9) lM_131 wvM_X7_next (rv_X7 hG) rfl rfl rfl (by decide) (Nat.le_trans (Nat.le_refl _) hk) hn (Nat.le_of_ble_eq_true rfl) dL_law_1704 ?_
      refine aw_lstore (L' := [(6, .long s9.1), (5, .int 1), (0, .ref b), (1, .ref (wad (cxw g) 0)), (2, .ref (wad (cxw g) 17)), (3, .ref (wad (cxw g) 26)), (4, .int i)]) hG dL_law_1707 (by decide) rfl ?_
      refine aw_aload_n hG 4 rfl dL_law_1709 rfl ?_
      refine aw_callVi (As := []) (rest := []) hG (c_X7_thrown (c := c) (m := s9.2) (z := z)) lM_7 wvM_X7_thrown (rv_X7 hG) rfl rfl rfl (by decide) (Nat.le_trans (Nat.le_refl _) hk) hn (Nat.le_of_ble_eq_true rfl) dL_law_1710 ?_
      refine aw_iload hG 1 rfl dL_law_1713 ?_
      refine aw_icmp_eq (t := 1720) hG dL_law_1715 rfl (fun hq9 => ?_) (fun hq9 => ?_)
      rotate_left
      · exact absurd ht hq9
      refine aw_iload hG 1 rfl dL_law_1720 ?_
      refine aw_if_ne (t := 1736) hG dL_law_1722 rfl (fun hq9 => ?_) (fun hq9 => ?_)
      rotate_left
      · exact absurd hq9 (by decide)
      refine aw_goto (t := 2542) hG dL_law_1736 rfl ?_
      refine aw_sub (L' := [(0, .ref b), (1, .ref (wad (cxw g) 0)), (2, .ref (wad (cxw g) 17)), (3, .ref (wad (cxw g) 26)), (4, .int i)]) [2, 3, 4, 5, 6] rfl ?_
      exact kk _ _ _ hI2
    · skip
      refine aw_aload_n hG 1 rfl dL_law_1612 rfl ?_
      refine aw_aload_n hG 0 rfl dL_law_1613 rfl ?_
      refine aw_iload hG 4 rfl dL_law_1614 ?_
      refine aw_iconst (v := 1) hG dL_law_1616 rfl ?_
      refine aw_iadd hG dL_law_1617 ?_
      refine aw_sld hG hX (sI h0 h7 hL (by decide) (by decide)) dL_law_1618 ?_
      refine aw_aload_n hG 0 rfl dL_law_1619 rfl ?_
      refine aw_iload hG 4 rfl dL_law_1620 ?_
      refine aw_iconst (v := 2) hG dL_law_1622 rfl ?_
      refine aw_iadd hG dL_law_1623 ?_
      refine aw_sld hG hX (sI h0 h7 hL (by decide) (by decide)) dL_law_1624 ?_
      refine aw_i2l hG dL_law_1625 ?_
      refine aw_bipush (v := 32) hG dL_law_1626 rfl ?_
      refine aw_lshlJ hG dL_law_1628 ?_
      refine aw_aload_n hG 0 rfl dL_law_1629 rfl ?_
      refine aw_iload hG 4 rfl dL_law_1630 ?_
      refine aw_iconst (v := 3) hG dL_law_1632 rfl ?_
      refine aw_iadd hG dL_law_1633 ?_
      refine aw_sld hG hX (sI h0 h7 hL (by decide) (by decide)) dL_law_1634 ?_
      refine aw_i2l hG dL_law_1635 ?_
      refine aw_ldc2 hG lM_0 dL_law_1636 ?_
      refine aw_land hG dL_law_1639 ?_
      refine aw_lor hG dL_law_1640 ?_
      refine aw_aload_n hG 0 rfl dL_law_1641 rfl ?_
      refine aw_iload hG 4 rfl dL_law_1642 ?_
      refine aw_iconst (v := 4) hG dL_law_1644 rfl ?_
      refine aw_iadd hG dL_law_1645 ?_
      refine aw_sld hG hX (sI h0 h7 hL (by decide) (by decide)) dL_law_1646 ?_
      refine aw_if_eq (t := 1654) hG dL_law_1647 rfl (fun hcq => ?_) (fun hcq => ?_)
      · exact absurd hcq hq
      refine aw_iconst (v := 1) hG dL_law_1650 rfl ?_
      refine aw_goto (t := 1655) hG dL_law_1651 rfl ?_
      refine aw_aload_n hG 3 rfl dL_law_1655 rfl ?_
      refine aw_callH (v := 0) (σ' := (c9, m, vp_updL z 0 v9)) (As := [.ref (wad (cxw g) 0), .int (xs (i + 1).toNatClampNeg), .long ((jshl ((xs (i + 2).toNatClampNeg).toInt64) 32) ||| (((xs (i + 3).toNatClampNeg).toInt64) &&& 4294967295)), .int 1, .ref (wad (cxw g) 26)]) (rest := []) hG hst (c_L_next hc) lM_130 wh_next rfl rfl rfl (by decide) hk hn (Nat.le_of_ble_eq_true rfl) dL_law_1656 ?_
      refine aw_istore (L' := [(5, .int 0), (0, .ref b), (1, .ref (wad (cxw g) 0)), (2, .ref (wad (cxw g) 17)), (3, .ref (wad (cxw g) 26)), (4, .int i)]) hG dL_law_1659 (by decide) rfl ?_
      refine aw_aload_n hG 3 rfl dL_law_1661 rfl ?_
      refine aw_aload_n hG 1 rfl dL_law_1662 rfl ?_
      refine aw_iload hG 5 rfl dL_law_1663 ?_
      refine aw_iconst (v := 1) hG dL_law_1665 rfl ?_
      refine aw_iadd hG dL_law_1666 ?_
      refine aw_sld hG hX (sI h0 h7 hL (by decide) (by decide)) dL_law_1667 ?_
      refine aw_aload_n hG 1 rfl dL_law_1668 rfl ?_
      refine aw_iload hG 5 rfl dL_law_1669 ?_
      refine aw_iconst (v := 2) hG dL_law_1671 rfl ?_
      refine aw_iadd hG dL_law_1672 ?_
      refine aw_sld hG hX (sI h0 h7 hL (by decide) (by decide)) dL_law_1673 ?_
      refine aw_i2l hG dL_law_1674 ?_
      refine aw_bipush (v := 32) hG dL_law_1675 rfl ?_
      refine aw_lshlJ hG dL_law_1677 ?_
      refine aw_aload_n hG 1 rfl dL_law_1678 rfl ?_
      refine aw_iload hG 5 rfl dL_law_1679 ?_
      refine aw_iconst (v := 3) hG dL_law_1681 rfl ?_
      refine aw_iadd hG dL_law_1682 ?_
      refine aw_sld hG hX (sI h0 h7 hL (by decide) (by decide)) dL_law_1683 ?_
      refine aw_i2l hG dL_law_1684 ?_
      refine aw_ldc2 hG lM_0 dL_law_1685 ?_
      refine aw_land hG dL_law_1688 ?_
      refine aw_lor hG dL_law_1689 ?_
      refine aw_aload_n hG 1 rfl dL_law_1690 rfl ?_
      refine aw_iload hG 5 rfl dL_law_1691 ?_
      refine aw_iconst (v := 4) hG dL_law_1693 rfl ?_
      refine aw_iadd hG dL_law_1694 ?_
      refine aw_sld hG hX (sI h0 h7 hL (by decide) (by decide)) dL_law_1695 ?_
      refine aw_if_eq (t := 1703) hG dL_law_1696 rfl (fun hcq => ?_) (fun hcq => ?_)
      · exact absurd hcq hq
      refine aw_iconst (v := 1) hG dL_law_1699 rfl ?_
      refine aw_goto (t := 1704) hG dL_law_1700 rfl ?_
      refine aw_callVl (As := [.int (xs (i + 1).toNatClampNeg), .long ((jshl ((xs (i + 2).toNatClampNeg).toInt64) 32) ||| (((xs (i + 3).toNatClampNeg).toInt64) &&& 4294967295)), .int 1]) (rest := []) hG (c_X7_next (c := c9) (m := m) (z := (vp_updL z 0 v9)) hs9) lM_131 wvM_X7_next (rv_X7 hG) rfl rfl rfl (by decide) (Nat.le_trans (Nat.le_refl _) hk) hn (Nat.le_of_ble_eq_true rfl) dL_law_1704 ?_
      refine aw_lstore (L' := [(6, .long s9.1), (5, .int 0), (0, .ref b), (1, .ref (wad (cxw g) 0)), (2, .ref (wad (cxw g) 17)), (3, .ref (wad (cxw g) 26)), (4, .int i)]) hG dL_law_1707 (by decide) rfl ?_
      refine aw_aload_n hG 4 rfl dL_law_1709 rfl ?_
      refine aw_callVi (As := []) (rest := []) hG (c_X7_thrown (c := c9) (m := s9.2) (z := (vp_updL z 0 v9))) lM_7 wvM_X7_thrown (rv_X7 hG) rfl rfl rfl (by decide) (Nat.le_trans (Nat.le_refl _) hk) hn (Nat.le_of_ble_eq_true rfl) dL_law_1710 ?_
      refine aw_iload hG 1 rfl dL_law_1713 ?_
      refine aw_icmp_eq (t := 1720) hG dL_law_1715 rfl (fun hq9 => ?_) (fun hq9 => ?_)
      rotate_left
      · exact absurd ht hq9
      refine aw_iload hG 1 rfl dL_law_1720 ?_
      refine aw_if_ne (t := 1736) hG dL_law_1722 rfl (fun hq9 => ?_) (fun hq9 => ?_)
      · exact absurd rfl hq9
      refine aw_aload_n hG 5 rfl dL_law_1725 rfl ?_
      refine aw_iconst (v := 0) hG dL_law_1726 rfl ?_
      refine al_out hG dL_law_1727 ?_
      refine aw_lload hG 0 rfl dL_law_1728 ?_
      refine aw_lc_eq (t := 1736) hG dL_law_1730 rfl dL_law_1731 rfl rfl (fun hq9 => ?_) (fun hq9 => ?_)
      rotate_left
      · exact absurd (pk_uLs.trans h1.symm) hq9
      refine aw_goto (t := 2542) hG dL_law_1736 rfl ?_
      refine aw_sub (L' := [(0, .ref b), (1, .ref (wad (cxw g) 0)), (2, .ref (wad (cxw g) 17)), (3, .ref (wad (cxw g) 26)), (4, .int i)]) [2, 3, 4, 5, 6] rfl ?_
      exact kk _ _ _ hI2
set_option maxRecDepth 20000 in
set_option maxHeartbeats 4000000 in
theorem lc_steps {Inv : CS → MS → Prop} (hA : AllA Inv) (hG : Gd g RL cL_law 8 12 mc ms) (hst : g.1.2.1.stackTraces = false) (hX : LX g b Ln xs) {i : Int32} (h0 : 0 ≤ i.toInt) (h7 : i.toInt + 7 ≤ Ln) (hL : Ln ≤ 3584) {c : CS} {m : MS} {z : Nat → Int64} (hk : k + 1 ≤ mc) (hn : n + 6 ≤ ms) (hI : Inv c m) (kk : ∀ c' m' z', Inv c' m' → AW g 2542 [(0, .ref b), (1, .ref (wad (cxw g) 0)), (2, .ref (wad (cxw g) 17)), (3, .ref (wad (cxw g) 26)), (4, .int i)] [] (c', m', z') (k + 1) (n + 6)) : AW g 1739 [(0, .ref b), (1, .ref (wad (cxw g) 0)), (2, .ref (wad (cxw g) 17)), (3, .ref (wad (cxw g) 26)), (4, .int i)] [] (c, m, z) k n := by
  obtain ⟨v9, m9, hm, hcl⟩ := hA.2.2.2.2.2.2.2.2.2.2.2.2.2.2.2.1 (xs (i + 1).toNatClampNeg) ((jshl ((xs (i + 2).toNatClampNeg).toInt64) 32) ||| (((xs (i + 3).toNatClampNeg).toInt64) &&& 4294967295)) ((jshl ((xs (i + 4).toNatClampNeg).toInt64) 32) ||| (((xs (i + 5).toNatClampNeg).toInt64) &&& 4294967295)) c m hI
  unfold mo_steps at hm
  obtain ⟨s9, hs9⟩ : ∃ s, f_X7_steps (xs (i + 1).toNatClampNeg) ((jshl ((xs (i + 2).toNatClampNeg).toInt64) 32) ||| (((xs (i + 3).toNatClampNeg).toInt64) &&& 4294967295)) ((jshl ((xs (i + 4).toNatClampNeg).toInt64) 32) ||| (((xs (i + 5).toNatClampNeg).toInt64) &&& 4294967295)) m = s := ⟨_, rfl⟩
  rw [hs9] at hm
  have he9 := Option.some.inj hm
  have h1 := congrArg Prod.fst he9
  have h2 := congrArg Prod.snd he9
  dsimp only at h1 h2
  subst h2
  rcases hcl with ⟨hc, ht, hI2⟩ | ⟨c9, hc, ht, hI2⟩
  · skip
    refine aw_aload_n hG 1 rfl dL_law_1739 rfl ?_
    refine aw_aload_n hG 0 rfl dL_law_1740 rfl ?_
    refine aw_iload hG 4 rfl dL_law_1741 ?_
    refine aw_iconst (v := 1) hG dL_law_1743 rfl ?_
    refine aw_iadd hG dL_law_1744 ?_
    refine aw_sld hG hX (sI h0 h7 hL (by decide) (by decide)) dL_law_1745 ?_
    refine aw_aload_n hG 0 rfl dL_law_1746 rfl ?_
    refine aw_iload hG 4 rfl dL_law_1747 ?_
    refine aw_iconst (v := 2) hG dL_law_1749 rfl ?_
    refine aw_iadd hG dL_law_1750 ?_
    refine aw_sld hG hX (sI h0 h7 hL (by decide) (by decide)) dL_law_1751 ?_
    refine aw_i2l hG dL_law_1752 ?_
    refine aw_bipush (v := 32) hG dL_law_1753 rfl ?_
    refine aw_lshlJ hG dL_law_1755 ?_
    refine aw_aload_n hG 0 rfl dL_law_1756 rfl ?_
    refine aw_iload hG 4 rfl dL_law_1757 ?_
    refine aw_iconst (v := 3) hG dL_law_1759 rfl ?_
    refine aw_iadd hG dL_law_1760 ?_
    refine aw_sld hG hX (sI h0 h7 hL (by decide) (by decide)) dL_law_1761 ?_
    refine aw_i2l hG dL_law_1762 ?_
    refine aw_ldc2 hG lM_0 dL_law_1763 ?_
    refine aw_land hG dL_law_1766 ?_
    refine aw_lor hG dL_law_1767 ?_
    refine aw_aload_n hG 0 rfl dL_law_1768 rfl ?_
    refine aw_iload hG 4 rfl dL_law_1769 ?_
    refine aw_iconst (v := 4) hG dL_law_1771 rfl ?_
    refine aw_iadd hG dL_law_1772 ?_
    refine aw_sld hG hX (sI h0 h7 hL (by decide) (by decide)) dL_law_1773 ?_
    refine aw_i2l hG dL_law_1774 ?_
    refine aw_bipush (v := 32) hG dL_law_1775 rfl ?_
    refine aw_lshlJ hG dL_law_1777 ?_
    refine aw_aload_n hG 0 rfl dL_law_1778 rfl ?_
    refine aw_iload hG 4 rfl dL_law_1779 ?_
    refine aw_iconst (v := 5) hG dL_law_1781 rfl ?_
    refine aw_iadd hG dL_law_1782 ?_
    refine aw_sld hG hX (sI h0 h7 hL (by decide) (by decide)) dL_law_1783 ?_
    refine aw_i2l hG dL_law_1784 ?_
    refine aw_ldc2 hG lM_0 dL_law_1785 ?_
    refine aw_land hG dL_law_1788 ?_
    refine aw_lor hG dL_law_1789 ?_
    refine aw_aload_n hG 3 rfl dL_law_1790 rfl ?_
    refine aw_callH (v := 1) (σ' := (c, m, z)) (As := [.ref (wad (cxw g) 0), .int (xs (i + 1).toNatClampNeg), .long ((jshl ((xs (i + 2).toNatClampNeg).toInt64) 32) ||| (((xs (i + 3).toNatClampNeg).toInt64) &&& 4294967295)), .long ((jshl ((xs (i + 4).toNatClampNeg).toInt64) 32) ||| (((xs (i + 5).toNatClampNeg).toInt64) &&& 4294967295)), .ref (wad (cxw g) 26)]) (rest := []) hG hst (c_L_steps hc) lM_136 wh_steps rfl rfl rfl (by decide) hk hn (Nat.le_of_ble_eq_true rfl) dL_law_1791 ?_
    refine aw_istore (L' := [(5, .int 1), (0, .ref b), (1, .ref (wad (cxw g) 0)), (2, .ref (wad (cxw g) 17)), (3, .ref (wad (cxw g) 26)), (4, .int i)]) hG dL_law_1794 (by decide) rfl ?_
    refine aw_aload_n hG 3 rfl dL_law_1796 rfl ?_
    refine aw_aload_n hG 1 rfl dL_law_1797 rfl ?_
    refine aw_iload hG 5 rfl dL_law_1798 ?_
    refine aw_iconst (v := 1) hG dL_law_1800 rfl ?_
    refine aw_iadd hG dL_law_1801 ?_
    refine aw_sld hG hX (sI h0 h7 hL (by decide) (by decide)) dL_law_1802 ?_
    refine aw_aload_n hG 1 rfl dL_law_1803 rfl ?_
    refine aw_iload hG 5 rfl dL_law_1804 ?_
    refine aw_iconst (v := 2) hG dL_law_1806 rfl ?_
    refine aw_iadd hG dL_law_1807 ?_
    refine aw_sld hG hX (sI h0 h7 hL (by decide) (by decide)) dL_law_1808 ?_
    refine aw_i2l hG dL_law_1809 ?_
    refine aw_bipush (v := 32) hG dL_law_1810 rfl ?_
    refine aw_lshlJ hG dL_law_1812 ?_
    refine aw_aload_n hG 1 rfl dL_law_1813 rfl ?_
    refine aw_iload hG 5 rfl dL_law_1814 ?_
    refine aw_iconst (v := 3) hG dL_law_1816 rfl ?_
    refine aw_iadd hG dL_law_1817 ?_
    refine aw_sld hG hX (sI h0 h7 hL (by decide) (by decide)) dL_law_1818 ?_
    refine aw_i2l hG dL_law_1819 ?_
    refine aw_ldc2 hG lM_0 dL_law_1820 ?_
    refine aw_land hG dL_law_1823 ?_
    refine aw_lor hG dL_law_1824 ?_
    refine aw_aload_n hG 1 rfl dL_law_1825 rfl ?_
    refine aw_iload hG 5 rfl dL_law_1826 ?_
    refine aw_iconst (v := 4) hG dL_law_1828 rfl ?_
    refine aw_iadd hG dL_law_1829 ?_
    refine aw_sld hG hX (sI h0 h7 hL (by decide) (by decide)) dL_law_1830 ?_
    refine aw_i2l hG dL_law_1831 ?_
    refine aw_bipush (v := 32) hG dL_law_1832 rfl ?_
    refine aw_lshlJ hG dL_law_1834 ?_
    refine aw_aload_n hG 1 rfl dL_law_1835 rfl ?_
    refine aw_iload hG 5 rfl dL_law_1836 ?_
    refine aw_iconst (v := 5) hG dL_law_1838 rfl ?_
    refine aw_iadd hG dL_law_1839 ?_
    refine aw_sld hG hX (sI h0 h7 hL (by decide) (by decide)) dL_law_1840 ?_
    refine aw_i2l hG dL_law_1841 ?_
    refine aw_ldc2 hG lM_0 dL_law_1842 ?_
    refine aw_land hG dL_law_1845 ?_
    refine aw_lor hG dL_law_1846 ?_
    refine aw_callVl (As := [.int (xs (i + 1).toNatClampNeg), .long ((jshl ((xs (i + 2).toNatClampNeg).toInt64) 32) ||| (((xs (i + 3).toNatClampNeg).toInt64) &&& 4294967295)), .long ((jshl ((xs (i + 4).toNatClampNeg).toInt64) 32) ||| (((xs (i + 5).toNatClampNeg).toInt64) &&& 4294967295))]) (rest := []) hG (c_X7_steps (c := c) (m := m) (z := z) hs9) lM_137 wvM_X7_steps (rv_X7 hG) rfl rfl rfl (by decide) (Nat.le_trans (Nat.le_refl _) hk) hn (Nat.le_of_ble_eq_true rfl) dL_law_1847 ?_
    refine aw_lstore (L' := [(6, .long s9.1), (5, .int 1), (0, .ref b), (1, .ref (wad (cxw g) 0)), (2, .ref (wad (cxw g) 17)), (3, .ref (wad (cxw g) 26)), (4, .int i)]) hG dL_law_1850 (by decide) rfl ?_
    refine aw_aload_n hG 4 rfl dL_law_1852 rfl ?_
    refine aw_callVi (As := []) (rest := []) hG (c_X7_thrown (c := c) (m := s9.2) (z := z)) lM_7 wvM_X7_thrown (rv_X7 hG) rfl rfl rfl (by decide) (Nat.le_trans (Nat.le_refl _) hk) hn (Nat.le_of_ble_eq_true rfl) dL_law_1853 ?_
    refine aw_iload hG 1 rfl dL_law_1856 ?_
    refine aw_icmp_eq (t := 1863) hG dL_law_1858 rfl (fun hq9 => ?_) (fun hq9 => ?_)
    rotate_left
    · exact absurd ht hq9
    refine aw_iload hG 1 rfl dL_law_1863 ?_
    refine aw_if_ne (t := 1879) hG dL_law_1865 rfl (fun hq9 => ?_) (fun hq9 => ?_)
    rotate_left
    · exact absurd hq9 (by decide)
    refine aw_goto (t := 2542) hG dL_law_1879 rfl ?_
    refine aw_sub (L' := [(0, .ref b), (1, .ref (wad (cxw g) 0)), (2, .ref (wad (cxw g) 17)), (3, .ref (wad (cxw g) 26)), (4, .int i)]) [2, 3, 4, 5, 6] rfl ?_
    exact kk _ _ _ hI2
  · skip
    refine aw_aload_n hG 1 rfl dL_law_1739 rfl ?_
    refine aw_aload_n hG 0 rfl dL_law_1740 rfl ?_
    refine aw_iload hG 4 rfl dL_law_1741 ?_
    refine aw_iconst (v := 1) hG dL_law_1743 rfl ?_
    refine aw_iadd hG dL_law_1744 ?_
    refine aw_sld hG hX (sI h0 h7 hL (by decide) (by decide)) dL_law_1745 ?_
    refine aw_aload_n hG 0 rfl dL_law_1746 rfl ?_
    refine aw_iload hG 4 rfl dL_law_1747 ?_
    refine aw_iconst (v := 2) hG dL_law_1749 rfl ?_
    refine aw_iadd hG dL_law_1750 ?_
    refine aw_sld hG hX (sI h0 h7 hL (by decide) (by decide)) dL_law_1751 ?_
    refine aw_i2l hG dL_law_1752 ?_
    refine aw_bipush (v := 32) hG dL_law_1753 rfl ?_
    refine aw_lshlJ hG dL_law_1755 ?_
    refine aw_aload_n hG 0 rfl dL_law_1756 rfl ?_
    refine aw_iload hG 4 rfl dL_law_1757 ?_
    refine aw_iconst (v := 3) hG dL_law_1759 rfl ?_
    refine aw_iadd hG dL_law_1760 ?_
    refine aw_sld hG hX (sI h0 h7 hL (by decide) (by decide)) dL_law_1761 ?_
    refine aw_i2l hG dL_law_1762 ?_
    refine aw_ldc2 hG lM_0 dL_law_1763 ?_
    refine aw_land hG dL_law_1766 ?_
    refine aw_lor hG dL_law_1767 ?_
    refine aw_aload_n hG 0 rfl dL_law_1768 rfl ?_
    refine aw_iload hG 4 rfl dL_law_1769 ?_
    refine aw_iconst (v := 4) hG dL_law_1771 rfl ?_
    refine aw_iadd hG dL_law_1772 ?_
    refine aw_sld hG hX (sI h0 h7 hL (by decide) (by decide)) dL_law_1773 ?_
    refine aw_i2l hG dL_law_1774 ?_
    refine aw_bipush (v := 32) hG dL_law_1775 rfl ?_
    refine aw_lshlJ hG dL_law_1777 ?_
    refine aw_aload_n hG 0 rfl dL_law_1778 rfl ?_
    refine aw_iload hG 4 rfl dL_law_1779 ?_
    refine aw_iconst (v := 5) hG dL_law_1781 rfl ?_
    refine aw_iadd hG dL_law_1782 ?_
    refine aw_sld hG hX (sI h0 h7 hL (by decide) (by decide)) dL_law_1783 ?_
    refine aw_i2l hG dL_law_1784 ?_
    refine aw_ldc2 hG lM_0 dL_law_1785 ?_
    refine aw_land hG dL_law_1788 ?_
    refine aw_lor hG dL_law_1789 ?_
    refine aw_aload_n hG 3 rfl dL_law_1790 rfl ?_
    refine aw_callH (v := 0) (σ' := (c9, m, vp_updL z 0 v9)) (As := [.ref (wad (cxw g) 0), .int (xs (i + 1).toNatClampNeg), .long ((jshl ((xs (i + 2).toNatClampNeg).toInt64) 32) ||| (((xs (i + 3).toNatClampNeg).toInt64) &&& 4294967295)), .long ((jshl ((xs (i + 4).toNatClampNeg).toInt64) 32) ||| (((xs (i + 5).toNatClampNeg).toInt64) &&& 4294967295)), .ref (wad (cxw g) 26)]) (rest := []) hG hst (c_L_steps hc) lM_136 wh_steps rfl rfl rfl (by decide) hk hn (Nat.le_of_ble_eq_true rfl) dL_law_1791 ?_
    refine aw_istore (L' := [(5, .int 0), (0, .ref b), (1, .ref (wad (cxw g) 0)), (2, .ref (wad (cxw g) 17)), (3, .ref (wad (cxw g) 26)), (4, .int i)]) hG dL_law_1794 (by decide) rfl ?_
    refine aw_aload_n hG 3 rfl dL_law_1796 rfl ?_
    refine aw_aload_n hG 1 rfl dL_law_1797 rfl ?_
    refine aw_iload hG 5 rfl dL_law_1798 ?_
    refine aw_iconst (v := 1) hG dL_law_1800 rfl ?_
    refine aw_iadd hG dL_law_1801 ?_
    refine aw_sld hG hX (sI h0 h7 hL (by decide) (by decide)) dL_law_1802 ?_
    refine aw_aload_n hG 1 rfl dL_law_1803 rfl ?_
    refine aw_iload hG 5 rfl dL_law_1804 ?_
    refine aw_iconst (v := 2) hG dL_law_1806 rfl ?_
    refine aw_iadd hG dL_law_1807 ?_
    refine aw_sld hG hX (sI h0 h7 hL (by decide) (by decide)) dL_law_1808 ?_
    refine aw_i2l hG dL_law_1809 ?_
    refine aw_bipush (v := 32) hG dL_law_1810 rfl ?_
    refine aw_lshlJ hG dL_law_1812 ?_
    refine aw_aload_n hG 1 rfl dL_law_1813 rfl ?_
    refine aw_iload hG 5 rfl dL_law_1814 ?_
    refine aw_iconst (v := 3) hG dL_law_1816 rfl ?_
    refine aw_iadd hG dL_law_1817 ?_
    refine aw_sld hG hX (sI h0 h7 hL (by decide) (by decide)) dL_law_1818 ?_
    refine aw_i2l hG dL_law_1819 ?_
    refine aw_ldc2 hG lM_0 dL_law_1820 ?_
    refine aw_land hG dL_law_1823 ?_
    refine aw_lor hG dL_law_1824 ?_
    refine aw_aload_n hG 1 rfl dL_law_1825 rfl ?_
    refine aw_iload hG 5 rfl dL_law_1826 ?_
    refine aw_iconst (v := 4) hG dL_law_1828 rfl ?_
    refine aw_iadd hG dL_law_1829 ?_
    refine aw_sld hG hX (sI h0 h7 hL (by decide) (by decide)) dL_law_1830 ?_
    refine aw_i2l hG dL_law_1831 ?_
    refine aw_bipush (v := 32) hG dL_law_1832 rfl ?_
    refine aw_lshlJ hG dL_law_1834 ?_
    refine aw_aload_n hG 1 rfl dL_law_1835 rfl ?_
    refine aw_iload hG 5 rfl dL_law_1836 ?_
    refine aw_iconst (v := 5) hG dL_law_1838 rfl ?_
    refine aw_iadd hG dL_law_1839 ?_
    refine aw_sld hG hX (sI h0 h7 hL (by decide) (by decide)) dL_law_1840 ?_
    refine aw_i2l hG dL_law_1841 ?_
    refine aw_ldc2 hG lM_0 dL_law_1842 ?_
    refine aw_land hG dL_law_1845 ?_
    refine aw_lor hG dL_law_1846 ?_
    refine aw_callVl (As := [.int (xs (i + 1).toNatClampNeg), .long ((jshl ((xs (i + 2).toNatClampNeg).toInt64) 32) ||| (((xs (i + 3).toNatClampNeg).toInt64) &&& 4294967295)), .long ((jshl ((xs (i + 4).toNatClampNeg).toInt64) 32) ||| (((xs (i + 5).toNatClampNeg).toInt64) &&& 4294967295))]) (rest := []) hG (c_X7_steps (c := c9) (m := m) (z := (vp_updL z 0 v9)) hs9) lM_137 wvM_X7_steps (rv_X7 hG) rfl rfl rfl (by decide) (Nat.le_trans (Nat.le_refl _) hk) hn (Nat.le_of_ble_eq_true rfl) dL_law_1847 ?_
    refine aw_lstore (L' := [(6, .long s9.1), (5, .int 0), (0, .ref b), (1, .ref (wad (cxw g) 0)), (2, .ref (wad (cxw g) 17)), (3, .ref (wad (cxw g) 26)), (4, .int i)]) hG dL_law_1850 (by decide) rfl ?_
    refine aw_aload_n hG 4 rfl dL_law_1852 rfl ?_
    refine aw_callVi (As := []) (rest := []) hG (c_X7_thrown (c := c9) (m := s9.2) (z := (vp_updL z 0 v9))) lM_7 wvM_X7_thrown (rv_X7 hG) rfl rfl rfl (by decide) (Nat.le_trans (Nat.le_refl _) hk) hn (Nat.le_of_ble_eq_true rfl) dL_law_1853 ?_
    refine aw_iload hG 1 rfl dL_law_1856 ?_
    refine aw_icmp_eq (t := 1863) hG dL_law_1858 rfl (fun hq9 => ?_) (fun hq9 => ?_)
    rotate_left
    · exact absurd ht hq9
    refine aw_iload hG 1 rfl dL_law_1863 ?_
    refine aw_if_ne (t := 1879) hG dL_law_1865 rfl (fun hq9 => ?_) (fun hq9 => ?_)
    · exact absurd rfl hq9
    refine aw_aload_n hG 5 rfl dL_law_1868 rfl ?_
    refine aw_iconst (v := 0) hG dL_law_1869 rfl ?_
    refine al_out hG dL_law_1870 ?_
    refine aw_lload hG 0 rfl dL_law_1871 ?_
    refine aw_lc_eq (t := 1879) hG dL_law_1873 rfl dL_law_1874 rfl rfl (fun hq9 => ?_) (fun hq9 => ?_)
    rotate_left
    · exact absurd (pk_uLs.trans h1.symm) hq9
    refine aw_goto (t := 2542) hG dL_law_1879 rfl ?_
    refine aw_sub (L' := [(0, .ref b), (1, .ref (wad (cxw g) 0)), (2, .ref (wad (cxw g) 17)), (3, .ref (wad (cxw g) 26)), (4, .int i)]) [2, 3, 4, 5, 6] rfl ?_
    exact kk _ _ _ hI2
set_option maxRecDepth 20000 in
set_option maxHeartbeats 4000000 in
theorem lc_compare {Inv : CS → MS → Prop} (hA : AllA Inv) (hG : Gd g RL cL_law 8 12 mc ms) (hst : g.1.2.1.stackTraces = false) (hX : LX g b Ln xs) {i : Int32} (h0 : 0 ≤ i.toInt) (h7 : i.toInt + 7 ≤ Ln) (hL : Ln ≤ 3584) {c : CS} {m : MS} {z : Nat → Int64} (hk : k + 1 ≤ mc) (hn : n + 6 ≤ ms) (hI : Inv c m) (kk : ∀ c' m' z', Inv c' m' → AW g 2542 [(0, .ref b), (1, .ref (wad (cxw g) 0)), (2, .ref (wad (cxw g) 17)), (3, .ref (wad (cxw g) 26)), (4, .int i)] [] (c', m', z') (k + 1) (n + 6)) : AW g 1882 [(0, .ref b), (1, .ref (wad (cxw g) 0)), (2, .ref (wad (cxw g) 17)), (3, .ref (wad (cxw g) 26)), (4, .int i)] [] (c, m, z) k n := by
  obtain ⟨v9, m9, hm, hcl⟩ := hA.2.2.2.2.2.2.2.2.2.2.2.2.2.2.2.2.1 (xs (i + 1).toNatClampNeg) ((jshl ((xs (i + 2).toNatClampNeg).toInt64) 32) ||| (((xs (i + 3).toNatClampNeg).toInt64) &&& 4294967295)) ((jshl ((xs (i + 4).toNatClampNeg).toInt64) 32) ||| (((xs (i + 5).toNatClampNeg).toInt64) &&& 4294967295)) c m hI
  unfold mo_compare at hm
  obtain ⟨s9, hs9⟩ : ∃ s, f_X7_compare (xs (i + 1).toNatClampNeg) ((jshl ((xs (i + 2).toNatClampNeg).toInt64) 32) ||| (((xs (i + 3).toNatClampNeg).toInt64) &&& 4294967295)) ((jshl ((xs (i + 4).toNatClampNeg).toInt64) 32) ||| (((xs (i + 5).toNatClampNeg).toInt64) &&& 4294967295)) m = s := ⟨_, rfl⟩
  rw [hs9] at hm
  have he9 := Option.some.inj hm
  have h1 := congrArg Prod.fst he9
  have h2 := congrArg Prod.snd he9
  dsimp only at h1 h2
  subst h2
  rcases hcl with ⟨hc, ht, hI2⟩ | ⟨c9, hc, ht, hI2⟩
  · skip
    refine aw_aload_n hG 1 rfl dL_law_1882 rfl ?_
    refine aw_aload_n hG 0 rfl dL_law_1883 rfl ?_
    refine aw_iload hG 4 rfl dL_law_1884 ?_
    refine aw_iconst (v := 1) hG dL_law_1886 rfl ?_
    refine aw_iadd hG dL_law_1887 ?_
    refine aw_sld hG hX (sI h0 h7 hL (by decide) (by decide)) dL_law_1888 ?_
    refine aw_aload_n hG 0 rfl dL_law_1889 rfl ?_
    refine aw_iload hG 4 rfl dL_law_1890 ?_
    refine aw_iconst (v := 2) hG dL_law_1892 rfl ?_
    refine aw_iadd hG dL_law_1893 ?_
    refine aw_sld hG hX (sI h0 h7 hL (by decide) (by decide)) dL_law_1894 ?_
    refine aw_i2l hG dL_law_1895 ?_
    refine aw_bipush (v := 32) hG dL_law_1896 rfl ?_
    refine aw_lshlJ hG dL_law_1898 ?_
    refine aw_aload_n hG 0 rfl dL_law_1899 rfl ?_
    refine aw_iload hG 4 rfl dL_law_1900 ?_
    refine aw_iconst (v := 3) hG dL_law_1902 rfl ?_
    refine aw_iadd hG dL_law_1903 ?_
    refine aw_sld hG hX (sI h0 h7 hL (by decide) (by decide)) dL_law_1904 ?_
    refine aw_i2l hG dL_law_1905 ?_
    refine aw_ldc2 hG lM_0 dL_law_1906 ?_
    refine aw_land hG dL_law_1909 ?_
    refine aw_lor hG dL_law_1910 ?_
    refine aw_aload_n hG 0 rfl dL_law_1911 rfl ?_
    refine aw_iload hG 4 rfl dL_law_1912 ?_
    refine aw_iconst (v := 4) hG dL_law_1914 rfl ?_
    refine aw_iadd hG dL_law_1915 ?_
    refine aw_sld hG hX (sI h0 h7 hL (by decide) (by decide)) dL_law_1916 ?_
    refine aw_i2l hG dL_law_1917 ?_
    refine aw_bipush (v := 32) hG dL_law_1918 rfl ?_
    refine aw_lshlJ hG dL_law_1920 ?_
    refine aw_aload_n hG 0 rfl dL_law_1921 rfl ?_
    refine aw_iload hG 4 rfl dL_law_1922 ?_
    refine aw_iconst (v := 5) hG dL_law_1924 rfl ?_
    refine aw_iadd hG dL_law_1925 ?_
    refine aw_sld hG hX (sI h0 h7 hL (by decide) (by decide)) dL_law_1926 ?_
    refine aw_i2l hG dL_law_1927 ?_
    refine aw_ldc2 hG lM_0 dL_law_1928 ?_
    refine aw_land hG dL_law_1931 ?_
    refine aw_lor hG dL_law_1932 ?_
    refine aw_aload_n hG 3 rfl dL_law_1933 rfl ?_
    refine aw_callH (v := 1) (σ' := (c, m, z)) (As := [.ref (wad (cxw g) 0), .int (xs (i + 1).toNatClampNeg), .long ((jshl ((xs (i + 2).toNatClampNeg).toInt64) 32) ||| (((xs (i + 3).toNatClampNeg).toInt64) &&& 4294967295)), .long ((jshl ((xs (i + 4).toNatClampNeg).toInt64) 32) ||| (((xs (i + 5).toNatClampNeg).toInt64) &&& 4294967295)), .ref (wad (cxw g) 26)]) (rest := []) hG hst (c_L_compare hc) lM_142 wh_compare rfl rfl rfl (by decide) hk hn (Nat.le_of_ble_eq_true rfl) dL_law_1934 ?_
    refine aw_istore (L' := [(5, .int 1), (0, .ref b), (1, .ref (wad (cxw g) 0)), (2, .ref (wad (cxw g) 17)), (3, .ref (wad (cxw g) 26)), (4, .int i)]) hG dL_law_1937 (by decide) rfl ?_
    refine aw_aload_n hG 3 rfl dL_law_1939 rfl ?_
    refine aw_aload_n hG 1 rfl dL_law_1940 rfl ?_
    refine aw_iload hG 5 rfl dL_law_1941 ?_
    refine aw_iconst (v := 1) hG dL_law_1943 rfl ?_
    refine aw_iadd hG dL_law_1944 ?_
    refine aw_sld hG hX (sI h0 h7 hL (by decide) (by decide)) dL_law_1945 ?_
    refine aw_aload_n hG 1 rfl dL_law_1946 rfl ?_
    refine aw_iload hG 5 rfl dL_law_1947 ?_
    refine aw_iconst (v := 2) hG dL_law_1949 rfl ?_
    refine aw_iadd hG dL_law_1950 ?_
    refine aw_sld hG hX (sI h0 h7 hL (by decide) (by decide)) dL_law_1951 ?_
    refine aw_i2l hG dL_law_1952 ?_
    refine aw_bipush (v := 32) hG dL_law_1953 rfl ?_
    refine aw_lshlJ hG dL_law_1955 ?_
    refine aw_aload_n hG 1 rfl dL_law_1956 rfl ?_
    refine aw_iload hG 5 rfl dL_law_1957 ?_
    refine aw_iconst (v := 3) hG dL_law_1959 rfl ?_
    refine aw_iadd hG dL_law_1960 ?_
    refine aw_sld hG hX (sI h0 h7 hL (by decide) (by decide)) dL_law_1961 ?_
    refine aw_i2l hG dL_law_1962 ?_
    refine aw_ldc2 hG lM_0 dL_law_1963 ?_
    refine aw_land hG dL_law_1966 ?_
    refine aw_lor hG dL_law_1967 ?_
    refine aw_aload_n hG 1 rfl dL_law_1968 rfl ?_
    refine aw_iload hG 5 rfl dL_law_1969 ?_
    refine aw_iconst (v := 4) hG dL_law_1971 rfl ?_
    refine aw_iadd hG dL_law_1972 ?_
    refine aw_sld hG hX (sI h0 h7 hL (by decide) (by decide)) dL_law_1973 ?_
    refine aw_i2l hG dL_law_1974 ?_
    refine aw_bipush (v := 32) hG dL_law_1975 rfl ?_
    refine aw_lshlJ hG dL_law_1977 ?_
    refine aw_aload_n hG 1 rfl dL_law_1978 rfl ?_
    refine aw_iload hG 5 rfl dL_law_1979 ?_
    refine aw_iconst (v := 5) hG dL_law_1981 rfl ?_
    refine aw_iadd hG dL_law_1982 ?_
    refine aw_sld hG hX (sI h0 h7 hL (by decide) (by decide)) dL_law_1983 ?_
    refine aw_i2l hG dL_law_1984 ?_
    refine aw_ldc2 hG lM_0 dL_law_1985 ?_
    refine aw_land hG dL_law_1988 ?_
    refine aw_lor hG dL_law_1989 ?_
    refine aw_callVi (As := [.int (xs (i + 1).toNatClampNeg), .long ((jshl ((xs (i + 2).toNatClampNeg).toInt64) 32) ||| (((xs (i + 3).toNatClampNeg).toInt64) &&& 4294967295)), .long ((jshl ((xs (i + 4).toNatClampNeg).toInt64) 32) ||| (((xs (i + 5).toNatClampNeg).toInt64) &&& 4294967295))]) (rest := []) hG (c_X7_compare (c := c) (m := m) (z := z) hs9) lM_143 wvM_X7_compare (rv_X7 hG) rfl rfl rfl (by decide) (Nat.le_trans (Nat.le_refl _) hk) hn (Nat.le_of_ble_eq_true rfl) dL_law_1990 ?_
    refine aw_istore (L' := [(6, .int s9.1), (5, .int 1), (0, .ref b), (1, .ref (wad (cxw g) 0)), (2, .ref (wad (cxw g) 17)), (3, .ref (wad (cxw g) 26)), (4, .int i)]) hG dL_law_1993 (by decide) rfl ?_
    refine aw_aload_n hG 4 rfl dL_law_1995 rfl ?_
    refine aw_callVi (As := []) (rest := []) hG (c_X7_thrown (c := c) (m := s9.2) (z := z)) lM_7 wvM_X7_thrown (rv_X7 hG) rfl rfl rfl (by decide) (Nat.le_trans (Nat.le_refl _) hk) hn (Nat.le_of_ble_eq_true rfl) dL_law_1996 ?_
    refine aw_iload hG 1 rfl dL_law_1999 ?_
    refine aw_icmp_eq (t := 2006) hG dL_law_2001 rfl (fun hq9 => ?_) (fun hq9 => ?_)
    rotate_left
    · exact absurd ht hq9
    refine aw_iload hG 1 rfl dL_law_2006 ?_
    refine aw_if_ne (t := 2023) hG dL_law_2008 rfl (fun hq9 => ?_) (fun hq9 => ?_)
    rotate_left
    · exact absurd hq9 (by decide)
    refine aw_goto (t := 2542) hG dL_law_2023 rfl ?_
    refine aw_sub (L' := [(0, .ref b), (1, .ref (wad (cxw g) 0)), (2, .ref (wad (cxw g) 17)), (3, .ref (wad (cxw g) 26)), (4, .int i)]) [2, 3, 4, 5, 6] rfl ?_
    exact kk _ _ _ hI2
  · skip
    refine aw_aload_n hG 1 rfl dL_law_1882 rfl ?_
    refine aw_aload_n hG 0 rfl dL_law_1883 rfl ?_
    refine aw_iload hG 4 rfl dL_law_1884 ?_
    refine aw_iconst (v := 1) hG dL_law_1886 rfl ?_
    refine aw_iadd hG dL_law_1887 ?_
    refine aw_sld hG hX (sI h0 h7 hL (by decide) (by decide)) dL_law_1888 ?_
    refine aw_aload_n hG 0 rfl dL_law_1889 rfl ?_
    refine aw_iload hG 4 rfl dL_law_1890 ?_
    refine aw_iconst (v := 2) hG dL_law_1892 rfl ?_
    refine aw_iadd hG dL_law_1893 ?_
    refine aw_sld hG hX (sI h0 h7 hL (by decide) (by decide)) dL_law_1894 ?_
    refine aw_i2l hG dL_law_1895 ?_
    refine aw_bipush (v := 32) hG dL_law_1896 rfl ?_
    refine aw_lshlJ hG dL_law_1898 ?_
    refine aw_aload_n hG 0 rfl dL_law_1899 rfl ?_
    refine aw_iload hG 4 rfl dL_law_1900 ?_
    refine aw_iconst (v := 3) hG dL_law_1902 rfl ?_
    refine aw_iadd hG dL_law_1903 ?_
    refine aw_sld hG hX (sI h0 h7 hL (by decide) (by decide)) dL_law_1904 ?_
    refine aw_i2l hG dL_law_1905 ?_
    refine aw_ldc2 hG lM_0 dL_law_1906 ?_
    refine aw_land hG dL_law_1909 ?_
    refine aw_lor hG dL_law_1910 ?_
    refine aw_aload_n hG 0 rfl dL_law_1911 rfl ?_
    refine aw_iload hG 4 rfl dL_law_1912 ?_
    refine aw_iconst (v := 4) hG dL_law_1914 rfl ?_
    refine aw_iadd hG dL_law_1915 ?_
    refine aw_sld hG hX (sI h0 h7 hL (by decide) (by decide)) dL_law_1916 ?_
    refine aw_i2l hG dL_law_1917 ?_
    refine aw_bipush (v := 32) hG dL_law_1918 rfl ?_
    refine aw_lshlJ hG dL_law_1920 ?_
    refine aw_aload_n hG 0 rfl dL_law_1921 rfl ?_
    refine aw_iload hG 4 rfl dL_law_1922 ?_
    refine aw_iconst (v := 5) hG dL_law_1924 rfl ?_
    refine aw_iadd hG dL_law_1925 ?_
    refine aw_sld hG hX (sI h0 h7 hL (by decide) (by decide)) dL_law_1926 ?_
    refine aw_i2l hG dL_law_1927 ?_
    refine aw_ldc2 hG lM_0 dL_law_1928 ?_
    refine aw_land hG dL_law_1931 ?_
    refine aw_lor hG dL_law_1932 ?_
    refine aw_aload_n hG 3 rfl dL_law_1933 rfl ?_
    refine aw_callH (v := 0) (σ' := (c9, m, vp_updL z 0 v9)) (As := [.ref (wad (cxw g) 0), .int (xs (i + 1).toNatClampNeg), .long ((jshl ((xs (i + 2).toNatClampNeg).toInt64) 32) ||| (((xs (i + 3).toNatClampNeg).toInt64) &&& 4294967295)), .long ((jshl ((xs (i + 4).toNatClampNeg).toInt64) 32) ||| (((xs (i + 5).toNatClampNeg).toInt64) &&& 4294967295)), .ref (wad (cxw g) 26)]) (rest := []) hG hst (c_L_compare hc) lM_142 wh_compare rfl rfl rfl (by decide) hk hn (Nat.le_of_ble_eq_true rfl) dL_law_1934 ?_
    refine aw_istore (L' := [(5, .int 0), (0, .ref b), (1, .ref (wad (cxw g) 0)), (2, .ref (wad (cxw g) 17)), (3, .ref (wad (cxw g) 26)), (4, .int i)]) hG dL_law_1937 (by decide) rfl ?_
    refine aw_aload_n hG 3 rfl dL_law_1939 rfl ?_
    refine aw_aload_n hG 1 rfl dL_law_1940 rfl ?_
    refine aw_iload hG 5 rfl dL_law_1941 ?_
    refine aw_iconst (v := 1) hG dL_law_1943 rfl ?_
    refine aw_iadd hG dL_law_1944 ?_
    refine aw_sld hG hX (sI h0 h7 hL (by decide) (by decide)) dL_law_1945 ?_
    refine aw_aload_n hG 1 rfl dL_law_1946 rfl ?_
    refine aw_iload hG 5 rfl dL_law_1947 ?_
    refine aw_iconst (v := 2) hG dL_law_1949 rfl ?_
    refine aw_iadd hG dL_law_1950 ?_
    refine aw_sld hG hX (sI h0 h7 hL (by decide) (by decide)) dL_law_1951 ?_
    refine aw_i2l hG dL_law_1952 ?_
    refine aw_bipush (v := 32) hG dL_law_1953 rfl ?_
    refine aw_lshlJ hG dL_law_1955 ?_
    refine aw_aload_n hG 1 rfl dL_law_1956 rfl ?_
    refine aw_iload hG 5 rfl dL_law_1957 ?_
    refine aw_iconst (v := 3) hG dL_law_1959 rfl ?_
    refine aw_iadd hG dL_law_1960 ?_
    refine aw_sld hG hX (sI h0 h7 hL (by decide) (by decide)) dL_law_1961 ?_
    refine aw_i2l hG dL_law_1962 ?_
    refine aw_ldc2 hG lM_0 dL_law_1963 ?_
    refine aw_land hG dL_law_1966 ?_
    refine aw_lor hG dL_law_1967 ?_
    refine aw_aload_n hG 1 rfl dL_law_1968 rfl ?_
    refine aw_iload hG 5 rfl dL_law_1969 ?_
    refine aw_iconst (v := 4) hG dL_law_1971 rfl ?_
    refine aw_iadd hG dL_law_1972 ?_
    refine aw_sld hG hX (sI h0 h7 hL (by decide) (by decide)) dL_law_1973 ?_
    refine aw_i2l hG dL_law_1974 ?_
    refine aw_bipush (v := 32) hG dL_law_1975 rfl ?_
    refine aw_lshlJ hG dL_law_1977 ?_
    refine aw_aload_n hG 1 rfl dL_law_1978 rfl ?_
    refine aw_iload hG 5 rfl dL_law_1979 ?_
    refine aw_iconst (v := 5) hG dL_law_1981 rfl ?_
    refine aw_iadd hG dL_law_1982 ?_
    refine aw_sld hG hX (sI h0 h7 hL (by decide) (by decide)) dL_law_1983 ?_
    refine aw_i2l hG dL_law_1984 ?_
    refine aw_ldc2 hG lM_0 dL_law_1985 ?_
    refine aw_land hG dL_law_1988 ?_
    refine aw_lor hG dL_law_1989 ?_
    refine aw_callVi (As := [.int (xs (i + 1).toNatClampNeg), .long ((jshl ((xs (i + 2).toNatClampNeg).toInt64) 32) ||| (((xs (i + 3).toNatClampNeg).toInt64) &&& 4294967295)), .long ((jshl ((xs (i + 4).toNatClampNeg).toInt64) 32) ||| (((xs (i + 5).toNatClampNeg).toInt64) &&& 4294967295))]) (rest := []) hG (c_X7_compare (c := c9) (m := m) (z := (vp_updL z 0 v9)) hs9) lM_143 wvM_X7_compare (rv_X7 hG) rfl rfl rfl (by decide) (Nat.le_trans (Nat.le_refl _) hk) hn (Nat.le_of_ble_eq_true rfl) dL_law_1990 ?_
    refine aw_istore (L' := [(6, .int s9.1), (5, .int 0), (0, .ref b), (1, .ref (wad (cxw g) 0)), (2, .ref (wad (cxw g) 17)), (3, .ref (wad (cxw g) 26)), (4, .int i)]) hG dL_law_1993 (by decide) rfl ?_
    refine aw_aload_n hG 4 rfl dL_law_1995 rfl ?_
    refine aw_callVi (As := []) (rest := []) hG (c_X7_thrown (c := c9) (m := s9.2) (z := (vp_updL z 0 v9))) lM_7 wvM_X7_thrown (rv_X7 hG) rfl rfl rfl (by decide) (Nat.le_trans (Nat.le_refl _) hk) hn (Nat.le_of_ble_eq_true rfl) dL_law_1996 ?_
    refine aw_iload hG 1 rfl dL_law_1999 ?_
    refine aw_icmp_eq (t := 2006) hG dL_law_2001 rfl (fun hq9 => ?_) (fun hq9 => ?_)
    rotate_left
    · exact absurd ht hq9
    refine aw_iload hG 1 rfl dL_law_2006 ?_
    refine aw_if_ne (t := 2023) hG dL_law_2008 rfl (fun hq9 => ?_) (fun hq9 => ?_)
    · exact absurd rfl hq9
    refine aw_aload_n hG 5 rfl dL_law_2011 rfl ?_
    refine aw_iconst (v := 0) hG dL_law_2012 rfl ?_
    refine al_out hG dL_law_2013 ?_
    refine aw_iload hG 0 rfl dL_law_2014 ?_
    refine aw_i2l hG dL_law_2016 ?_
    refine aw_lc_eq (t := 2023) hG dL_law_2017 rfl dL_law_2018 rfl rfl (fun hq9 => ?_) (fun hq9 => ?_)
    rotate_left
    · exact absurd (pk_uLs.trans h1.symm) hq9
    refine aw_goto (t := 2542) hG dL_law_2023 rfl ?_
    refine aw_sub (L' := [(0, .ref b), (1, .ref (wad (cxw g) 0)), (2, .ref (wad (cxw g) 17)), (3, .ref (wad (cxw g) 26)), (4, .int i)]) [2, 3, 4, 5, 6] rfl ?_
    exact kk _ _ _ hI2
set_option maxRecDepth 20000 in
set_option maxHeartbeats 4000000 in
theorem lc_order {Inv : CS → MS → Prop} (hA : AllA Inv) (hG : Gd g RL cL_law 8 12 mc ms) (hst : g.1.2.1.stackTraces = false) (hX : LX g b Ln xs) {i : Int32} (h0 : 0 ≤ i.toInt) (h7 : i.toInt + 7 ≤ Ln) (hL : Ln ≤ 3584) {c : CS} {m : MS} {z : Nat → Int64} (hk : k + 1 ≤ mc) (hn : n + 6 ≤ ms) (hI : Inv c m) (kk : ∀ c' m' z', Inv c' m' → AW g 2542 [(0, .ref b), (1, .ref (wad (cxw g) 0)), (2, .ref (wad (cxw g) 17)), (3, .ref (wad (cxw g) 26)), (4, .int i)] [] (c', m', z') (k + 1) (n + 6)) : AW g 2026 [(0, .ref b), (1, .ref (wad (cxw g) 0)), (2, .ref (wad (cxw g) 17)), (3, .ref (wad (cxw g) 26)), (4, .int i)] [] (c, m, z) k n := by
  obtain ⟨v9, m9, hm, hcl⟩ := hA.2.2.2.2.2.2.2.2.2.2.2.2.2.2.2.2.2.1 (xs (i + 1).toNatClampNeg) ((jshl ((xs (i + 2).toNatClampNeg).toInt64) 32) ||| (((xs (i + 3).toNatClampNeg).toInt64) &&& 4294967295)) ((jshl ((xs (i + 4).toNatClampNeg).toInt64) 32) ||| (((xs (i + 5).toNatClampNeg).toInt64) &&& 4294967295)) c m hI
  unfold mo_order at hm
  obtain ⟨s9, hs9⟩ : ∃ s, f_X7_order (xs (i + 1).toNatClampNeg) ((jshl ((xs (i + 2).toNatClampNeg).toInt64) 32) ||| (((xs (i + 3).toNatClampNeg).toInt64) &&& 4294967295)) ((jshl ((xs (i + 4).toNatClampNeg).toInt64) 32) ||| (((xs (i + 5).toNatClampNeg).toInt64) &&& 4294967295)) m = s := ⟨_, rfl⟩
  rw [hs9] at hm
  have he9 := Option.some.inj hm
  have h1 := congrArg Prod.fst he9
  have h2 := congrArg Prod.snd he9
  dsimp only at h1 h2
  subst h2
  rcases hcl with ⟨hc, ht, hI2⟩ | ⟨c9, hc, ht, hI2⟩
  · skip
    refine aw_aload_n hG 1 rfl dL_law_2026 rfl ?_
    refine aw_aload_n hG 0 rfl dL_law_2027 rfl ?_
    refine aw_iload hG 4 rfl dL_law_2028 ?_
    refine aw_iconst (v := 1) hG dL_law_2030 rfl ?_
    refine aw_iadd hG dL_law_2031 ?_
    refine aw_sld hG hX (sI h0 h7 hL (by decide) (by decide)) dL_law_2032 ?_
    refine aw_aload_n hG 0 rfl dL_law_2033 rfl ?_
    refine aw_iload hG 4 rfl dL_law_2034 ?_
    refine aw_iconst (v := 2) hG dL_law_2036 rfl ?_
    refine aw_iadd hG dL_law_2037 ?_
    refine aw_sld hG hX (sI h0 h7 hL (by decide) (by decide)) dL_law_2038 ?_
    refine aw_i2l hG dL_law_2039 ?_
    refine aw_bipush (v := 32) hG dL_law_2040 rfl ?_
    refine aw_lshlJ hG dL_law_2042 ?_
    refine aw_aload_n hG 0 rfl dL_law_2043 rfl ?_
    refine aw_iload hG 4 rfl dL_law_2044 ?_
    refine aw_iconst (v := 3) hG dL_law_2046 rfl ?_
    refine aw_iadd hG dL_law_2047 ?_
    refine aw_sld hG hX (sI h0 h7 hL (by decide) (by decide)) dL_law_2048 ?_
    refine aw_i2l hG dL_law_2049 ?_
    refine aw_ldc2 hG lM_0 dL_law_2050 ?_
    refine aw_land hG dL_law_2053 ?_
    refine aw_lor hG dL_law_2054 ?_
    refine aw_aload_n hG 0 rfl dL_law_2055 rfl ?_
    refine aw_iload hG 4 rfl dL_law_2056 ?_
    refine aw_iconst (v := 4) hG dL_law_2058 rfl ?_
    refine aw_iadd hG dL_law_2059 ?_
    refine aw_sld hG hX (sI h0 h7 hL (by decide) (by decide)) dL_law_2060 ?_
    refine aw_i2l hG dL_law_2061 ?_
    refine aw_bipush (v := 32) hG dL_law_2062 rfl ?_
    refine aw_lshlJ hG dL_law_2064 ?_
    refine aw_aload_n hG 0 rfl dL_law_2065 rfl ?_
    refine aw_iload hG 4 rfl dL_law_2066 ?_
    refine aw_iconst (v := 5) hG dL_law_2068 rfl ?_
    refine aw_iadd hG dL_law_2069 ?_
    refine aw_sld hG hX (sI h0 h7 hL (by decide) (by decide)) dL_law_2070 ?_
    refine aw_i2l hG dL_law_2071 ?_
    refine aw_ldc2 hG lM_0 dL_law_2072 ?_
    refine aw_land hG dL_law_2075 ?_
    refine aw_lor hG dL_law_2076 ?_
    refine aw_aload_n hG 3 rfl dL_law_2077 rfl ?_
    refine aw_callH (v := 1) (σ' := (c, m, z)) (As := [.ref (wad (cxw g) 0), .int (xs (i + 1).toNatClampNeg), .long ((jshl ((xs (i + 2).toNatClampNeg).toInt64) 32) ||| (((xs (i + 3).toNatClampNeg).toInt64) &&& 4294967295)), .long ((jshl ((xs (i + 4).toNatClampNeg).toInt64) 32) ||| (((xs (i + 5).toNatClampNeg).toInt64) &&& 4294967295)), .ref (wad (cxw g) 26)]) (rest := []) hG hst (c_L_order hc) lM_148 wh_order rfl rfl rfl (by decide) hk hn (Nat.le_of_ble_eq_true rfl) dL_law_2078 ?_
    refine aw_istore (L' := [(5, .int 1), (0, .ref b), (1, .ref (wad (cxw g) 0)), (2, .ref (wad (cxw g) 17)), (3, .ref (wad (cxw g) 26)), (4, .int i)]) hG dL_law_2081 (by decide) rfl ?_
    refine aw_aload_n hG 3 rfl dL_law_2083 rfl ?_
    refine aw_aload_n hG 1 rfl dL_law_2084 rfl ?_
    refine aw_iload hG 5 rfl dL_law_2085 ?_
    refine aw_iconst (v := 1) hG dL_law_2087 rfl ?_
    refine aw_iadd hG dL_law_2088 ?_
    refine aw_sld hG hX (sI h0 h7 hL (by decide) (by decide)) dL_law_2089 ?_
    refine aw_aload_n hG 1 rfl dL_law_2090 rfl ?_
    refine aw_iload hG 5 rfl dL_law_2091 ?_
    refine aw_iconst (v := 2) hG dL_law_2093 rfl ?_
    refine aw_iadd hG dL_law_2094 ?_
    refine aw_sld hG hX (sI h0 h7 hL (by decide) (by decide)) dL_law_2095 ?_
    refine aw_i2l hG dL_law_2096 ?_
    refine aw_bipush (v := 32) hG dL_law_2097 rfl ?_
    refine aw_lshlJ hG dL_law_2099 ?_
    refine aw_aload_n hG 1 rfl dL_law_2100 rfl ?_
    refine aw_iload hG 5 rfl dL_law_2101 ?_
    refine aw_iconst (v := 3) hG dL_law_2103 rfl ?_
    refine aw_iadd hG dL_law_2104 ?_
    refine aw_sld hG hX (sI h0 h7 hL (by decide) (by decide)) dL_law_2105 ?_
    refine aw_i2l hG dL_law_2106 ?_
    refine aw_ldc2 hG lM_0 dL_law_2107 ?_
    refine aw_land hG dL_law_2110 ?_
    refine aw_lor hG dL_law_2111 ?_
    refine aw_aload_n hG 1 rfl dL_law_2112 rfl ?_
    refine aw_iload hG 5 rfl dL_law_2113 ?_
    refine aw_iconst (v := 4) hG dL_law_2115 rfl ?_
    refine aw_iadd hG dL_law_2116 ?_
    refine aw_sld hG hX (sI h0 h7 hL (by decide) (by decide)) dL_law_2117 ?_
    refine aw_i2l hG dL_law_2118 ?_
    refine aw_bipush (v := 32) hG dL_law_2119 rfl ?_
    refine aw_lshlJ hG dL_law_2121 ?_
    refine aw_aload_n hG 1 rfl dL_law_2122 rfl ?_
    refine aw_iload hG 5 rfl dL_law_2123 ?_
    refine aw_iconst (v := 5) hG dL_law_2125 rfl ?_
    refine aw_iadd hG dL_law_2126 ?_
    refine aw_sld hG hX (sI h0 h7 hL (by decide) (by decide)) dL_law_2127 ?_
    refine aw_i2l hG dL_law_2128 ?_
    refine aw_ldc2 hG lM_0 dL_law_2129 ?_
    refine aw_land hG dL_law_2132 ?_
    refine aw_lor hG dL_law_2133 ?_
    refine aw_callVi (As := [.int (xs (i + 1).toNatClampNeg), .long ((jshl ((xs (i + 2).toNatClampNeg).toInt64) 32) ||| (((xs (i + 3).toNatClampNeg).toInt64) &&& 4294967295)), .long ((jshl ((xs (i + 4).toNatClampNeg).toInt64) 32) ||| (((xs (i + 5).toNatClampNeg).toInt64) &&& 4294967295))]) (rest := []) hG (c_X7_order (c := c) (m := m) (z := z) hs9) lM_149 wvM_X7_order (rv_X7 hG) rfl rfl rfl (by decide) (Nat.le_trans (Nat.le_refl _) hk) hn (Nat.le_of_ble_eq_true rfl) dL_law_2134 ?_
    refine aw_istore (L' := [(6, .int s9.1), (5, .int 1), (0, .ref b), (1, .ref (wad (cxw g) 0)), (2, .ref (wad (cxw g) 17)), (3, .ref (wad (cxw g) 26)), (4, .int i)]) hG dL_law_2137 (by decide) rfl ?_
    refine aw_aload_n hG 4 rfl dL_law_2139 rfl ?_
    refine aw_callVi (As := []) (rest := []) hG (c_X7_thrown (c := c) (m := s9.2) (z := z)) lM_7 wvM_X7_thrown (rv_X7 hG) rfl rfl rfl (by decide) (Nat.le_trans (Nat.le_refl _) hk) hn (Nat.le_of_ble_eq_true rfl) dL_law_2140 ?_
    refine aw_iload hG 1 rfl dL_law_2143 ?_
    refine aw_icmp_eq (t := 2150) hG dL_law_2145 rfl (fun hq9 => ?_) (fun hq9 => ?_)
    rotate_left
    · exact absurd ht hq9
    refine aw_iload hG 1 rfl dL_law_2150 ?_
    refine aw_if_ne (t := 2167) hG dL_law_2152 rfl (fun hq9 => ?_) (fun hq9 => ?_)
    rotate_left
    · exact absurd hq9 (by decide)
    refine aw_goto (t := 2542) hG dL_law_2167 rfl ?_
    refine aw_sub (L' := [(0, .ref b), (1, .ref (wad (cxw g) 0)), (2, .ref (wad (cxw g) 17)), (3, .ref (wad (cxw g) 26)), (4, .int i)]) [2, 3, 4, 5, 6] rfl ?_
    exact kk _ _ _ hI2
  · skip
    refine aw_aload_n hG 1 rfl dL_law_2026 rfl ?_
    refine aw_aload_n hG 0 rfl dL_law_2027 rfl ?_
    refine aw_iload hG 4 rfl dL_law_2028 ?_
    refine aw_iconst (v := 1) hG dL_law_2030 rfl ?_
    refine aw_iadd hG dL_law_2031 ?_
    refine aw_sld hG hX (sI h0 h7 hL (by decide) (by decide)) dL_law_2032 ?_
    refine aw_aload_n hG 0 rfl dL_law_2033 rfl ?_
    refine aw_iload hG 4 rfl dL_law_2034 ?_
    refine aw_iconst (v := 2) hG dL_law_2036 rfl ?_
    refine aw_iadd hG dL_law_2037 ?_
    refine aw_sld hG hX (sI h0 h7 hL (by decide) (by decide)) dL_law_2038 ?_
    refine aw_i2l hG dL_law_2039 ?_
    refine aw_bipush (v := 32) hG dL_law_2040 rfl ?_
    refine aw_lshlJ hG dL_law_2042 ?_
    refine aw_aload_n hG 0 rfl dL_law_2043 rfl ?_
    refine aw_iload hG 4 rfl dL_law_2044 ?_
    refine aw_iconst (v := 3) hG dL_law_2046 rfl ?_
    refine aw_iadd hG dL_law_2047 ?_
    refine aw_sld hG hX (sI h0 h7 hL (by decide) (by decide)) dL_law_2048 ?_
    refine aw_i2l hG dL_law_2049 ?_
    refine aw_ldc2 hG lM_0 dL_law_2050 ?_
    refine aw_land hG dL_law_2053 ?_
    refine aw_lor hG dL_law_2054 ?_
    refine aw_aload_n hG 0 rfl dL_law_2055 rfl ?_
    refine aw_iload hG 4 rfl dL_law_2056 ?_
    refine aw_iconst (v := 4) hG dL_law_2058 rfl ?_
    refine aw_iadd hG dL_law_2059 ?_
    refine aw_sld hG hX (sI h0 h7 hL (by decide) (by decide)) dL_law_2060 ?_
    refine aw_i2l hG dL_law_2061 ?_
    refine aw_bipush (v := 32) hG dL_law_2062 rfl ?_
    refine aw_lshlJ hG dL_law_2064 ?_
    refine aw_aload_n hG 0 rfl dL_law_2065 rfl ?_
    refine aw_iload hG 4 rfl dL_law_2066 ?_
    refine aw_iconst (v := 5) hG dL_law_2068 rfl ?_
    refine aw_iadd hG dL_law_2069 ?_
    refine aw_sld hG hX (sI h0 h7 hL (by decide) (by decide)) dL_law_2070 ?_
    refine aw_i2l hG dL_law_2071 ?_
    refine aw_ldc2 hG lM_0 dL_law_2072 ?_
    refine aw_land hG dL_law_2075 ?_
    refine aw_lor hG dL_law_2076 ?_
    refine aw_aload_n hG 3 rfl dL_law_2077 rfl ?_
    refine aw_callH (v := 0) (σ' := (c9, m, vp_updL z 0 v9)) (As := [.ref (wad (cxw g) 0), .int (xs (i + 1).toNatClampNeg), .long ((jshl ((xs (i + 2).toNatClampNeg).toInt64) 32) ||| (((xs (i + 3).toNatClampNeg).toInt64) &&& 4294967295)), .long ((jshl ((xs (i + 4).toNatClampNeg).toInt64) 32) ||| (((xs (i + 5).toNatClampNeg).toInt64) &&& 4294967295)), .ref (wad (cxw g) 26)]) (rest := []) hG hst (c_L_order hc) lM_148 wh_order rfl rfl rfl (by decide) hk hn (Nat.le_of_ble_eq_true rfl) dL_law_2078 ?_
    refine aw_istore (L' := [(5, .int 0), (0, .ref b), (1, .ref (wad (cxw g) 0)), (2, .ref (wad (cxw g) 17)), (3, .ref (wad (cxw g) 26)), (4, .int i)]) hG dL_law_2081 (by decide) rfl ?_
    refine aw_aload_n hG 3 rfl dL_law_2083 rfl ?_
    refine aw_aload_n hG 1 rfl dL_law_2084 rfl ?_
    refine aw_iload hG 5 rfl dL_law_2085 ?_
    refine aw_iconst (v := 1) hG dL_law_2087 rfl ?_
    refine aw_iadd hG dL_law_2088 ?_
    refine aw_sld hG hX (sI h0 h7 hL (by decide) (by decide)) dL_law_2089 ?_
    refine aw_aload_n hG 1 rfl dL_law_2090 rfl ?_
    refine aw_iload hG 5 rfl dL_law_2091 ?_
    refine aw_iconst (v := 2) hG dL_law_2093 rfl ?_
    refine aw_iadd hG dL_law_2094 ?_
    refine aw_sld hG hX (sI h0 h7 hL (by decide) (by decide)) dL_law_2095 ?_
    refine aw_i2l hG dL_law_2096 ?_
    refine aw_bipush (v := 32) hG dL_law_2097 rfl ?_
    refine aw_lshlJ hG dL_law_2099 ?_
    refine aw_aload_n hG 1 rfl dL_law_2100 rfl ?_
    refine aw_iload hG 5 rfl dL_law_2101 ?_
    refine aw_iconst (v := 3) hG dL_law_2103 rfl ?_
    refine aw_iadd hG dL_law_2104 ?_
    refine aw_sld hG hX (sI h0 h7 hL (by decide) (by decide)) dL_law_2105 ?_
    refine aw_i2l hG dL_law_2106 ?_
    refine aw_ldc2 hG lM_0 dL_law_2107 ?_
    refine aw_land hG dL_law_2110 ?_
    refine aw_lor hG dL_law_2111 ?_
    refine aw_aload_n hG 1 rfl dL_law_2112 rfl ?_
    refine aw_iload hG 5 rfl dL_law_2113 ?_
    refine aw_iconst (v := 4) hG dL_law_2115 rfl ?_
    refine aw_iadd hG dL_law_2116 ?_
    refine aw_sld hG hX (sI h0 h7 hL (by decide) (by decide)) dL_law_2117 ?_
    refine aw_i2l hG dL_law_2118 ?_
    refine aw_bipush (v := 32) hG dL_law_2119 rfl ?_
    refine aw_lshlJ hG dL_law_2121 ?_
    refine aw_aload_n hG 1 rfl dL_law_2122 rfl ?_
    refine aw_iload hG 5 rfl dL_law_2123 ?_
    refine aw_iconst (v := 5) hG dL_law_2125 rfl ?_
    refine aw_iadd hG dL_law_2126 ?_
    refine aw_sld hG hX (sI h0 h7 hL (by decide) (by decide)) dL_law_2127 ?_
    refine aw_i2l hG dL_law_2128 ?_
    refine aw_ldc2 hG lM_0 dL_law_2129 ?_
    refine aw_land hG dL_law_2132 ?_
    refine aw_lor hG dL_law_2133 ?_
    refine aw_callVi (As := [.int (xs (i + 1).toNatClampNeg), .long ((jshl ((xs (i + 2).toNatClampNeg).toInt64) 32) ||| (((xs (i + 3).toNatClampNeg).toInt64) &&& 4294967295)), .long ((jshl ((xs (i + 4).toNatClampNeg).toInt64) 32) ||| (((xs (i + 5).toNatClampNeg).toInt64) &&& 4294967295))]) (rest := []) hG (c_X7_order (c := c9) (m := m) (z := (vp_updL z 0 v9)) hs9) lM_149 wvM_X7_order (rv_X7 hG) rfl rfl rfl (by decide) (Nat.le_trans (Nat.le_refl _) hk) hn (Nat.le_of_ble_eq_true rfl) dL_law_2134 ?_
    refine aw_istore (L' := [(6, .int s9.1), (5, .int 0), (0, .ref b), (1, .ref (wad (cxw g) 0)), (2, .ref (wad (cxw g) 17)), (3, .ref (wad (cxw g) 26)), (4, .int i)]) hG dL_law_2137 (by decide) rfl ?_
    refine aw_aload_n hG 4 rfl dL_law_2139 rfl ?_
    refine aw_callVi (As := []) (rest := []) hG (c_X7_thrown (c := c9) (m := s9.2) (z := (vp_updL z 0 v9))) lM_7 wvM_X7_thrown (rv_X7 hG) rfl rfl rfl (by decide) (Nat.le_trans (Nat.le_refl _) hk) hn (Nat.le_of_ble_eq_true rfl) dL_law_2140 ?_
    refine aw_iload hG 1 rfl dL_law_2143 ?_
    refine aw_icmp_eq (t := 2150) hG dL_law_2145 rfl (fun hq9 => ?_) (fun hq9 => ?_)
    rotate_left
    · exact absurd ht hq9
    refine aw_iload hG 1 rfl dL_law_2150 ?_
    refine aw_if_ne (t := 2167) hG dL_law_2152 rfl (fun hq9 => ?_) (fun hq9 => ?_)
    · exact absurd rfl hq9
    refine aw_aload_n hG 5 rfl dL_law_2155 rfl ?_
    refine aw_iconst (v := 0) hG dL_law_2156 rfl ?_
    refine al_out hG dL_law_2157 ?_
    refine aw_iload hG 0 rfl dL_law_2158 ?_
    refine aw_i2l hG dL_law_2160 ?_
    refine aw_lc_eq (t := 2167) hG dL_law_2161 rfl dL_law_2162 rfl rfl (fun hq9 => ?_) (fun hq9 => ?_)
    rotate_left
    · exact absurd (pk_uLs.trans h1.symm) hq9
    refine aw_goto (t := 2542) hG dL_law_2167 rfl ?_
    refine aw_sub (L' := [(0, .ref b), (1, .ref (wad (cxw g) 0)), (2, .ref (wad (cxw g) 17)), (3, .ref (wad (cxw g) 26)), (4, .int i)]) [2, 3, 4, 5, 6] rfl ?_
    exact kk _ _ _ hI2
set_option maxRecDepth 20000 in
set_option maxHeartbeats 4000000 in
theorem lc_kind {Inv : CS → MS → Prop} (hA : AllA Inv) (hG : Gd g RL cL_law 8 12 mc ms) (hst : g.1.2.1.stackTraces = false) (hX : LX g b Ln xs) {i : Int32} (h0 : 0 ≤ i.toInt) (h7 : i.toInt + 7 ≤ Ln) (hL : Ln ≤ 3584) {c : CS} {m : MS} {z : Nat → Int64} (hk : k + 1 ≤ mc) (hn : n + 6 ≤ ms) (hI : Inv c m) (kk : ∀ c' m' z', Inv c' m' → AW g 2542 [(0, .ref b), (1, .ref (wad (cxw g) 0)), (2, .ref (wad (cxw g) 17)), (3, .ref (wad (cxw g) 26)), (4, .int i)] [] (c', m', z') (k + 1) (n + 6)) : AW g 2170 [(0, .ref b), (1, .ref (wad (cxw g) 0)), (2, .ref (wad (cxw g) 17)), (3, .ref (wad (cxw g) 26)), (4, .int i)] [] (c, m, z) k n := by
  obtain ⟨v9, m9, hm, hcl⟩ := hA.2.2.2.2.2.2.2.2.2.2.2.2.2.2.2.2.2.2.1 (xs (i + 1).toNatClampNeg) ((jshl ((xs (i + 2).toNatClampNeg).toInt64) 32) ||| (((xs (i + 3).toNatClampNeg).toInt64) &&& 4294967295)) c m hI
  unfold mo_kind at hm
  obtain ⟨s9, hs9⟩ : ∃ s, f_X7_kind (xs (i + 1).toNatClampNeg) ((jshl ((xs (i + 2).toNatClampNeg).toInt64) 32) ||| (((xs (i + 3).toNatClampNeg).toInt64) &&& 4294967295)) m = s := ⟨_, rfl⟩
  rw [hs9] at hm
  have he9 := Option.some.inj hm
  have h1 := congrArg Prod.fst he9
  have h2 := congrArg Prod.snd he9
  dsimp only at h1 h2
  subst h2
  rcases hcl with ⟨hc, ht, hI2⟩ | ⟨c9, hc, ht, hI2⟩
  · skip
    refine aw_aload_n hG 1 rfl dL_law_2170 rfl ?_
    refine aw_aload_n hG 0 rfl dL_law_2171 rfl ?_
    refine aw_iload hG 4 rfl dL_law_2172 ?_
    refine aw_iconst (v := 1) hG dL_law_2174 rfl ?_
    refine aw_iadd hG dL_law_2175 ?_
    refine aw_sld hG hX (sI h0 h7 hL (by decide) (by decide)) dL_law_2176 ?_
    refine aw_aload_n hG 0 rfl dL_law_2177 rfl ?_
    refine aw_iload hG 4 rfl dL_law_2178 ?_
    refine aw_iconst (v := 2) hG dL_law_2180 rfl ?_
    refine aw_iadd hG dL_law_2181 ?_
    refine aw_sld hG hX (sI h0 h7 hL (by decide) (by decide)) dL_law_2182 ?_
    refine aw_i2l hG dL_law_2183 ?_
    refine aw_bipush (v := 32) hG dL_law_2184 rfl ?_
    refine aw_lshlJ hG dL_law_2186 ?_
    refine aw_aload_n hG 0 rfl dL_law_2187 rfl ?_
    refine aw_iload hG 4 rfl dL_law_2188 ?_
    refine aw_iconst (v := 3) hG dL_law_2190 rfl ?_
    refine aw_iadd hG dL_law_2191 ?_
    refine aw_sld hG hX (sI h0 h7 hL (by decide) (by decide)) dL_law_2192 ?_
    refine aw_i2l hG dL_law_2193 ?_
    refine aw_ldc2 hG lM_0 dL_law_2194 ?_
    refine aw_land hG dL_law_2197 ?_
    refine aw_lor hG dL_law_2198 ?_
    refine aw_aload_n hG 3 rfl dL_law_2199 rfl ?_
    refine aw_callH (v := 1) (σ' := (c, m, z)) (As := [.ref (wad (cxw g) 0), .int (xs (i + 1).toNatClampNeg), .long ((jshl ((xs (i + 2).toNatClampNeg).toInt64) 32) ||| (((xs (i + 3).toNatClampNeg).toInt64) &&& 4294967295)), .ref (wad (cxw g) 26)]) (rest := []) hG hst (c_L_kind hc) lM_154 wh_kind rfl rfl rfl (by decide) hk hn (Nat.le_of_ble_eq_true rfl) dL_law_2200 ?_
    refine aw_istore (L' := [(5, .int 1), (0, .ref b), (1, .ref (wad (cxw g) 0)), (2, .ref (wad (cxw g) 17)), (3, .ref (wad (cxw g) 26)), (4, .int i)]) hG dL_law_2203 (by decide) rfl ?_
    refine aw_aload_n hG 3 rfl dL_law_2205 rfl ?_
    refine aw_aload_n hG 1 rfl dL_law_2206 rfl ?_
    refine aw_iload hG 5 rfl dL_law_2207 ?_
    refine aw_iconst (v := 1) hG dL_law_2209 rfl ?_
    refine aw_iadd hG dL_law_2210 ?_
    refine aw_sld hG hX (sI h0 h7 hL (by decide) (by decide)) dL_law_2211 ?_
    refine aw_aload_n hG 1 rfl dL_law_2212 rfl ?_
    refine aw_iload hG 5 rfl dL_law_2213 ?_
    refine aw_iconst (v := 2) hG dL_law_2215 rfl ?_
    refine aw_iadd hG dL_law_2216 ?_
    refine aw_sld hG hX (sI h0 h7 hL (by decide) (by decide)) dL_law_2217 ?_
    refine aw_i2l hG dL_law_2218 ?_
    refine aw_bipush (v := 32) hG dL_law_2219 rfl ?_
    refine aw_lshlJ hG dL_law_2221 ?_
    refine aw_aload_n hG 1 rfl dL_law_2222 rfl ?_
    refine aw_iload hG 5 rfl dL_law_2223 ?_
    refine aw_iconst (v := 3) hG dL_law_2225 rfl ?_
    refine aw_iadd hG dL_law_2226 ?_
    refine aw_sld hG hX (sI h0 h7 hL (by decide) (by decide)) dL_law_2227 ?_
    refine aw_i2l hG dL_law_2228 ?_
    refine aw_ldc2 hG lM_0 dL_law_2229 ?_
    refine aw_land hG dL_law_2232 ?_
    refine aw_lor hG dL_law_2233 ?_
    refine aw_callVi (As := [.int (xs (i + 1).toNatClampNeg), .long ((jshl ((xs (i + 2).toNatClampNeg).toInt64) 32) ||| (((xs (i + 3).toNatClampNeg).toInt64) &&& 4294967295))]) (rest := []) hG (c_X7_kind (c := c) (m := m) (z := z) hs9) lM_155 wvM_X7_kind (rv_X7 hG) rfl rfl rfl (by decide) (Nat.le_trans (Nat.le_refl _) hk) hn (Nat.le_of_ble_eq_true rfl) dL_law_2234 ?_
    refine aw_istore (L' := [(6, .int s9.1), (5, .int 1), (0, .ref b), (1, .ref (wad (cxw g) 0)), (2, .ref (wad (cxw g) 17)), (3, .ref (wad (cxw g) 26)), (4, .int i)]) hG dL_law_2237 (by decide) rfl ?_
    refine aw_aload_n hG 4 rfl dL_law_2239 rfl ?_
    refine aw_callVi (As := []) (rest := []) hG (c_X7_thrown (c := c) (m := s9.2) (z := z)) lM_7 wvM_X7_thrown (rv_X7 hG) rfl rfl rfl (by decide) (Nat.le_trans (Nat.le_refl _) hk) hn (Nat.le_of_ble_eq_true rfl) dL_law_2240 ?_
    refine aw_iload hG 1 rfl dL_law_2243 ?_
    refine aw_icmp_eq (t := 2250) hG dL_law_2245 rfl (fun hq9 => ?_) (fun hq9 => ?_)
    rotate_left
    · exact absurd ht hq9
    refine aw_iload hG 1 rfl dL_law_2250 ?_
    refine aw_if_ne (t := 2267) hG dL_law_2252 rfl (fun hq9 => ?_) (fun hq9 => ?_)
    rotate_left
    · exact absurd hq9 (by decide)
    refine aw_goto (t := 2542) hG dL_law_2267 rfl ?_
    refine aw_sub (L' := [(0, .ref b), (1, .ref (wad (cxw g) 0)), (2, .ref (wad (cxw g) 17)), (3, .ref (wad (cxw g) 26)), (4, .int i)]) [2, 3, 4, 5, 6] rfl ?_
    exact kk _ _ _ hI2
  · skip
    refine aw_aload_n hG 1 rfl dL_law_2170 rfl ?_
    refine aw_aload_n hG 0 rfl dL_law_2171 rfl ?_
    refine aw_iload hG 4 rfl dL_law_2172 ?_
    refine aw_iconst (v := 1) hG dL_law_2174 rfl ?_
    refine aw_iadd hG dL_law_2175 ?_
    refine aw_sld hG hX (sI h0 h7 hL (by decide) (by decide)) dL_law_2176 ?_
    refine aw_aload_n hG 0 rfl dL_law_2177 rfl ?_
    refine aw_iload hG 4 rfl dL_law_2178 ?_
    refine aw_iconst (v := 2) hG dL_law_2180 rfl ?_
    refine aw_iadd hG dL_law_2181 ?_
    refine aw_sld hG hX (sI h0 h7 hL (by decide) (by decide)) dL_law_2182 ?_
    refine aw_i2l hG dL_law_2183 ?_
    refine aw_bipush (v := 32) hG dL_law_2184 rfl ?_
    refine aw_lshlJ hG dL_law_2186 ?_
    refine aw_aload_n hG 0 rfl dL_law_2187 rfl ?_
    refine aw_iload hG 4 rfl dL_law_2188 ?_
    refine aw_iconst (v := 3) hG dL_law_2190 rfl ?_
    refine aw_iadd hG dL_law_2191 ?_
    refine aw_sld hG hX (sI h0 h7 hL (by decide) (by decide)) dL_law_2192 ?_
    refine aw_i2l hG dL_law_2193 ?_
    refine aw_ldc2 hG lM_0 dL_law_2194 ?_
    refine aw_land hG dL_law_2197 ?_
    refine aw_lor hG dL_law_2198 ?_
    refine aw_aload_n hG 3 rfl dL_law_2199 rfl ?_
    refine aw_callH (v := 0) (σ' := (c9, m, vp_updL z 0 v9)) (As := [.ref (wad (cxw g) 0), .int (xs (i + 1).toNatClampNeg), .long ((jshl ((xs (i + 2).toNatClampNeg).toInt64) 32) ||| (((xs (i + 3).toNatClampNeg).toInt64) &&& 4294967295)), .ref (wad (cxw g) 26)]) (rest := []) hG hst (c_L_kind hc) lM_154 wh_kind rfl rfl rfl (by decide) hk hn (Nat.le_of_ble_eq_true rfl) dL_law_2200 ?_
    refine aw_istore (L' := [(5, .int 0), (0, .ref b), (1, .ref (wad (cxw g) 0)), (2, .ref (wad (cxw g) 17)), (3, .ref (wad (cxw g) 26)), (4, .int i)]) hG dL_law_2203 (by decide) rfl ?_
    refine aw_aload_n hG 3 rfl dL_law_2205 rfl ?_
    refine aw_aload_n hG 1 rfl dL_law_2206 rfl ?_
    refine aw_iload hG 5 rfl dL_law_2207 ?_
    refine aw_iconst (v := 1) hG dL_law_2209 rfl ?_
    refine aw_iadd hG dL_law_2210 ?_
    refine aw_sld hG hX (sI h0 h7 hL (by decide) (by decide)) dL_law_2211 ?_
    refine aw_aload_n hG 1 rfl dL_law_2212 rfl ?_
    refine aw_iload hG 5 rfl dL_law_2213 ?_
    refine aw_iconst (v := 2) hG dL_law_2215 rfl ?_
    refine aw_iadd hG dL_law_2216 ?_
    refine aw_sld hG hX (sI h0 h7 hL (by decide) (by decide)) dL_law_2217 ?_
    refine aw_i2l hG dL_law_2218 ?_
    refine aw_bipush (v := 32) hG dL_law_2219 rfl ?_
    refine aw_lshlJ hG dL_law_2221 ?_
    refine aw_aload_n hG 1 rfl dL_law_2222 rfl ?_
    refine aw_iload hG 5 rfl dL_law_2223 ?_
    refine aw_iconst (v := 3) hG dL_law_2225 rfl ?_
    refine aw_iadd hG dL_law_2226 ?_
    refine aw_sld hG hX (sI h0 h7 hL (by decide) (by decide)) dL_law_2227 ?_
    refine aw_i2l hG dL_law_2228 ?_
    refine aw_ldc2 hG lM_0 dL_law_2229 ?_
    refine aw_land hG dL_law_2232 ?_
    refine aw_lor hG dL_law_2233 ?_
    refine aw_callVi (As := [.int (xs (i + 1).toNatClampNeg), .long ((jshl ((xs (i + 2).toNatClampNeg).toInt64) 32) ||| (((xs (i + 3).toNatClampNeg).toInt64) &&& 4294967295))]) (rest := []) hG (c_X7_kind (c := c9) (m := m) (z := (vp_updL z 0 v9)) hs9) lM_155 wvM_X7_kind (rv_X7 hG) rfl rfl rfl (by decide) (Nat.le_trans (Nat.le_refl _) hk) hn (Nat.le_of_ble_eq_true rfl) dL_law_2234 ?_
    refine aw_istore (L' := [(6, .int s9.1), (5, .int 0), (0, .ref b), (1, .ref (wad (cxw g) 0)), (2, .ref (wad (cxw g) 17)), (3, .ref (wad (cxw g) 26)), (4, .int i)]) hG dL_law_2237 (by decide) rfl ?_
    refine aw_aload_n hG 4 rfl dL_law_2239 rfl ?_
    refine aw_callVi (As := []) (rest := []) hG (c_X7_thrown (c := c9) (m := s9.2) (z := (vp_updL z 0 v9))) lM_7 wvM_X7_thrown (rv_X7 hG) rfl rfl rfl (by decide) (Nat.le_trans (Nat.le_refl _) hk) hn (Nat.le_of_ble_eq_true rfl) dL_law_2240 ?_
    refine aw_iload hG 1 rfl dL_law_2243 ?_
    refine aw_icmp_eq (t := 2250) hG dL_law_2245 rfl (fun hq9 => ?_) (fun hq9 => ?_)
    rotate_left
    · exact absurd ht hq9
    refine aw_iload hG 1 rfl dL_law_2250 ?_
    refine aw_if_ne (t := 2267) hG dL_law_2252 rfl (fun hq9 => ?_) (fun hq9 => ?_)
    · exact absurd rfl hq9
    refine aw_aload_n hG 5 rfl dL_law_2255 rfl ?_
    refine aw_iconst (v := 0) hG dL_law_2256 rfl ?_
    refine al_out hG dL_law_2257 ?_
    refine aw_iload hG 0 rfl dL_law_2258 ?_
    refine aw_i2l hG dL_law_2260 ?_
    refine aw_lc_eq (t := 2267) hG dL_law_2261 rfl dL_law_2262 rfl rfl (fun hq9 => ?_) (fun hq9 => ?_)
    rotate_left
    · exact absurd (pk_uLs.trans h1.symm) hq9
    refine aw_goto (t := 2542) hG dL_law_2267 rfl ?_
    refine aw_sub (L' := [(0, .ref b), (1, .ref (wad (cxw g) 0)), (2, .ref (wad (cxw g) 17)), (3, .ref (wad (cxw g) 26)), (4, .int i)]) [2, 3, 4, 5, 6] rfl ?_
    exact kk _ _ _ hI2
set_option maxRecDepth 20000 in
set_option maxHeartbeats 4000000 in
theorem lc_reads {Inv : CS → MS → Prop} (hA : AllA Inv) (hG : Gd g RL cL_law 8 12 mc ms) (hst : g.1.2.1.stackTraces = false) (hX : LX g b Ln xs) {i : Int32} (h0 : 0 ≤ i.toInt) (h7 : i.toInt + 7 ≤ Ln) (hL : Ln ≤ 3584) {c : CS} {m : MS} {z : Nat → Int64} (hk : k + 1 ≤ mc) (hn : n + 6 ≤ ms) (hI : Inv c m) (kk : ∀ c' m' z', Inv c' m' → AW g 2542 [(0, .ref b), (1, .ref (wad (cxw g) 0)), (2, .ref (wad (cxw g) 17)), (3, .ref (wad (cxw g) 26)), (4, .int i)] [] (c', m', z') (k + 1) (n + 6)) : AW g 2270 [(0, .ref b), (1, .ref (wad (cxw g) 0)), (2, .ref (wad (cxw g) 17)), (3, .ref (wad (cxw g) 26)), (4, .int i)] [] (c, m, z) k n := by
  obtain ⟨v9, m9, hm, hcl⟩ := hA.2.2.2.2.2.2.2.2.2.2.2.2.2.2.2.2.2.2.2.1 (xs (i + 1).toNatClampNeg) ((jshl ((xs (i + 2).toNatClampNeg).toInt64) 32) ||| (((xs (i + 3).toNatClampNeg).toInt64) &&& 4294967295)) ((jshl ((xs (i + 4).toNatClampNeg).toInt64) 32) ||| (((xs (i + 5).toNatClampNeg).toInt64) &&& 4294967295)) (xs (i + 6).toNatClampNeg) c m hI
  unfold mo_reads at hm
  obtain ⟨s9, hs9, he9⟩ := Option.map_eq_some_iff.mp hm
  have h1 := congrArg Prod.fst he9
  have h2 := congrArg Prod.snd he9
  dsimp only at h1 h2
  subst h2
  rcases hcl with ⟨hc, ht, hI2⟩ | ⟨c9, hc, ht, hI2⟩
  · skip
    refine aw_aload_n hG 1 rfl dL_law_2270 rfl ?_
    refine aw_aload_n hG 0 rfl dL_law_2271 rfl ?_
    refine aw_iload hG 4 rfl dL_law_2272 ?_
    refine aw_iconst (v := 1) hG dL_law_2274 rfl ?_
    refine aw_iadd hG dL_law_2275 ?_
    refine aw_sld hG hX (sI h0 h7 hL (by decide) (by decide)) dL_law_2276 ?_
    refine aw_aload_n hG 0 rfl dL_law_2277 rfl ?_
    refine aw_iload hG 4 rfl dL_law_2278 ?_
    refine aw_iconst (v := 2) hG dL_law_2280 rfl ?_
    refine aw_iadd hG dL_law_2281 ?_
    refine aw_sld hG hX (sI h0 h7 hL (by decide) (by decide)) dL_law_2282 ?_
    refine aw_i2l hG dL_law_2283 ?_
    refine aw_bipush (v := 32) hG dL_law_2284 rfl ?_
    refine aw_lshlJ hG dL_law_2286 ?_
    refine aw_aload_n hG 0 rfl dL_law_2287 rfl ?_
    refine aw_iload hG 4 rfl dL_law_2288 ?_
    refine aw_iconst (v := 3) hG dL_law_2290 rfl ?_
    refine aw_iadd hG dL_law_2291 ?_
    refine aw_sld hG hX (sI h0 h7 hL (by decide) (by decide)) dL_law_2292 ?_
    refine aw_i2l hG dL_law_2293 ?_
    refine aw_ldc2 hG lM_0 dL_law_2294 ?_
    refine aw_land hG dL_law_2297 ?_
    refine aw_lor hG dL_law_2298 ?_
    refine aw_aload_n hG 0 rfl dL_law_2299 rfl ?_
    refine aw_iload hG 4 rfl dL_law_2300 ?_
    refine aw_iconst (v := 4) hG dL_law_2302 rfl ?_
    refine aw_iadd hG dL_law_2303 ?_
    refine aw_sld hG hX (sI h0 h7 hL (by decide) (by decide)) dL_law_2304 ?_
    refine aw_i2l hG dL_law_2305 ?_
    refine aw_bipush (v := 32) hG dL_law_2306 rfl ?_
    refine aw_lshlJ hG dL_law_2308 ?_
    refine aw_aload_n hG 0 rfl dL_law_2309 rfl ?_
    refine aw_iload hG 4 rfl dL_law_2310 ?_
    refine aw_iconst (v := 5) hG dL_law_2312 rfl ?_
    refine aw_iadd hG dL_law_2313 ?_
    refine aw_sld hG hX (sI h0 h7 hL (by decide) (by decide)) dL_law_2314 ?_
    refine aw_i2l hG dL_law_2315 ?_
    refine aw_ldc2 hG lM_0 dL_law_2316 ?_
    refine aw_land hG dL_law_2319 ?_
    refine aw_lor hG dL_law_2320 ?_
    refine aw_aload_n hG 0 rfl dL_law_2321 rfl ?_
    refine aw_iload hG 4 rfl dL_law_2322 ?_
    refine aw_bipush (v := 6) hG dL_law_2324 rfl ?_
    refine aw_iadd hG dL_law_2326 ?_
    refine aw_sld hG hX (sI h0 h7 hL (by decide) (by decide)) dL_law_2327 ?_
    refine aw_aload_n hG 3 rfl dL_law_2328 rfl ?_
    refine aw_callH (v := 1) (σ' := (c, m, z)) (As := [.ref (wad (cxw g) 0), .int (xs (i + 1).toNatClampNeg), .long ((jshl ((xs (i + 2).toNatClampNeg).toInt64) 32) ||| (((xs (i + 3).toNatClampNeg).toInt64) &&& 4294967295)), .long ((jshl ((xs (i + 4).toNatClampNeg).toInt64) 32) ||| (((xs (i + 5).toNatClampNeg).toInt64) &&& 4294967295)), .int (xs (i + 6).toNatClampNeg), .ref (wad (cxw g) 26)]) (rest := []) hG hst (c_L_reads hc) lM_160 wh_reads rfl rfl rfl (by decide) hk hn (Nat.le_of_ble_eq_true rfl) dL_law_2329 ?_
    refine aw_istore (L' := [(5, .int 1), (0, .ref b), (1, .ref (wad (cxw g) 0)), (2, .ref (wad (cxw g) 17)), (3, .ref (wad (cxw g) 26)), (4, .int i)]) hG dL_law_2332 (by decide) rfl ?_
    refine aw_aload_n hG 3 rfl dL_law_2334 rfl ?_
    refine aw_aload_n hG 1 rfl dL_law_2335 rfl ?_
    refine aw_iload hG 5 rfl dL_law_2336 ?_
    refine aw_iconst (v := 1) hG dL_law_2338 rfl ?_
    refine aw_iadd hG dL_law_2339 ?_
    refine aw_sld hG hX (sI h0 h7 hL (by decide) (by decide)) dL_law_2340 ?_
    refine aw_aload_n hG 1 rfl dL_law_2341 rfl ?_
    refine aw_iload hG 5 rfl dL_law_2342 ?_
    refine aw_iconst (v := 2) hG dL_law_2344 rfl ?_
    refine aw_iadd hG dL_law_2345 ?_
    refine aw_sld hG hX (sI h0 h7 hL (by decide) (by decide)) dL_law_2346 ?_
    refine aw_i2l hG dL_law_2347 ?_
    refine aw_bipush (v := 32) hG dL_law_2348 rfl ?_
    refine aw_lshlJ hG dL_law_2350 ?_
    refine aw_aload_n hG 1 rfl dL_law_2351 rfl ?_
    refine aw_iload hG 5 rfl dL_law_2352 ?_
    refine aw_iconst (v := 3) hG dL_law_2354 rfl ?_
    refine aw_iadd hG dL_law_2355 ?_
    refine aw_sld hG hX (sI h0 h7 hL (by decide) (by decide)) dL_law_2356 ?_
    refine aw_i2l hG dL_law_2357 ?_
    refine aw_ldc2 hG lM_0 dL_law_2358 ?_
    refine aw_land hG dL_law_2361 ?_
    refine aw_lor hG dL_law_2362 ?_
    refine aw_aload_n hG 1 rfl dL_law_2363 rfl ?_
    refine aw_iload hG 5 rfl dL_law_2364 ?_
    refine aw_iconst (v := 4) hG dL_law_2366 rfl ?_
    refine aw_iadd hG dL_law_2367 ?_
    refine aw_sld hG hX (sI h0 h7 hL (by decide) (by decide)) dL_law_2368 ?_
    refine aw_i2l hG dL_law_2369 ?_
    refine aw_bipush (v := 32) hG dL_law_2370 rfl ?_
    refine aw_lshlJ hG dL_law_2372 ?_
    refine aw_aload_n hG 1 rfl dL_law_2373 rfl ?_
    refine aw_iload hG 5 rfl dL_law_2374 ?_
    refine aw_iconst (v := 5) hG dL_law_2376 rfl ?_
    refine aw_iadd hG dL_law_2377 ?_
    refine aw_sld hG hX (sI h0 h7 hL (by decide) (by decide)) dL_law_2378 ?_
    refine aw_i2l hG dL_law_2379 ?_
    refine aw_ldc2 hG lM_0 dL_law_2380 ?_
    refine aw_land hG dL_law_2383 ?_
    refine aw_lor hG dL_law_2384 ?_
    refine aw_aload_n hG 1 rfl dL_law_2385 rfl ?_
    refine aw_iload hG 5 rfl dL_law_2386 ?_
    refine aw_bipush (v := 6) hG dL_law_2388 rfl ?_
    refine aw_iadd hG dL_law_2390 ?_
    refine aw_sld hG hX (sI h0 h7 hL (by decide) (by decide)) dL_law_2391 ?_
    refine aw_callVi (As := [.int (xs (i + 1).toNatClampNeg), .long ((jshl ((xs (i + 2).toNatClampNeg).toInt64) 32) ||| (((xs (i + 3).toNatClampNeg).toInt64) &&& 4294967295)), .long ((jshl ((xs (i + 4).toNatClampNeg).toInt64) 32) ||| (((xs (i + 5).toNatClampNeg).toInt64) &&& 4294967295)), .int (xs (i + 6).toNatClampNeg)]) (rest := []) hG (c_X7_reads (c := c) (m := m) (z := z) hs9) lM_161 wvM_X7_reads (rv_X7 hG) rfl rfl rfl (by decide) (Nat.le_trans (Nat.le_refl _) hk) hn (Nat.le_of_ble_eq_true rfl) dL_law_2392 ?_
    refine aw_istore (L' := [(6, .int s9.1), (5, .int 1), (0, .ref b), (1, .ref (wad (cxw g) 0)), (2, .ref (wad (cxw g) 17)), (3, .ref (wad (cxw g) 26)), (4, .int i)]) hG dL_law_2395 (by decide) rfl ?_
    refine aw_aload_n hG 4 rfl dL_law_2397 rfl ?_
    refine aw_callVi (As := []) (rest := []) hG (c_X7_thrown (c := c) (m := s9.2) (z := z)) lM_7 wvM_X7_thrown (rv_X7 hG) rfl rfl rfl (by decide) (Nat.le_trans (Nat.le_refl _) hk) hn (Nat.le_of_ble_eq_true rfl) dL_law_2398 ?_
    refine aw_iload hG 1 rfl dL_law_2401 ?_
    refine aw_icmp_eq (t := 2408) hG dL_law_2403 rfl (fun hq9 => ?_) (fun hq9 => ?_)
    rotate_left
    · exact absurd ht hq9
    refine aw_iload hG 1 rfl dL_law_2408 ?_
    refine aw_if_ne (t := 2432) hG dL_law_2410 rfl (fun hq9 => ?_) (fun hq9 => ?_)
    rotate_left
    · exact absurd hq9 (by decide)
    refine aw_goto (t := 2542) hG dL_law_2432 rfl ?_
    refine aw_sub (L' := [(0, .ref b), (1, .ref (wad (cxw g) 0)), (2, .ref (wad (cxw g) 17)), (3, .ref (wad (cxw g) 26)), (4, .int i)]) [2, 3, 4, 5, 6] rfl ?_
    exact kk _ _ _ hI2
  · skip
    refine aw_aload_n hG 1 rfl dL_law_2270 rfl ?_
    refine aw_aload_n hG 0 rfl dL_law_2271 rfl ?_
    refine aw_iload hG 4 rfl dL_law_2272 ?_
    refine aw_iconst (v := 1) hG dL_law_2274 rfl ?_
    refine aw_iadd hG dL_law_2275 ?_
    refine aw_sld hG hX (sI h0 h7 hL (by decide) (by decide)) dL_law_2276 ?_
    refine aw_aload_n hG 0 rfl dL_law_2277 rfl ?_
    refine aw_iload hG 4 rfl dL_law_2278 ?_
    refine aw_iconst (v := 2) hG dL_law_2280 rfl ?_
    refine aw_iadd hG dL_law_2281 ?_
    refine aw_sld hG hX (sI h0 h7 hL (by decide) (by decide)) dL_law_2282 ?_
    refine aw_i2l hG dL_law_2283 ?_
    refine aw_bipush (v := 32) hG dL_law_2284 rfl ?_
    refine aw_lshlJ hG dL_law_2286 ?_
    refine aw_aload_n hG 0 rfl dL_law_2287 rfl ?_
    refine aw_iload hG 4 rfl dL_law_2288 ?_
    refine aw_iconst (v := 3) hG dL_law_2290 rfl ?_
    refine aw_iadd hG dL_law_2291 ?_
    refine aw_sld hG hX (sI h0 h7 hL (by decide) (by decide)) dL_law_2292 ?_
    refine aw_i2l hG dL_law_2293 ?_
    refine aw_ldc2 hG lM_0 dL_law_2294 ?_
    refine aw_land hG dL_law_2297 ?_
    refine aw_lor hG dL_law_2298 ?_
    refine aw_aload_n hG 0 rfl dL_law_2299 rfl ?_
    refine aw_iload hG 4 rfl dL_law_2300 ?_
    refine aw_iconst (v := 4) hG dL_law_2302 rfl ?_
    refine aw_iadd hG dL_law_2303 ?_
    refine aw_sld hG hX (sI h0 h7 hL (by decide) (by decide)) dL_law_2304 ?_
    refine aw_i2l hG dL_law_2305 ?_
    refine aw_bipush (v := 32) hG dL_law_2306 rfl ?_
    refine aw_lshlJ hG dL_law_2308 ?_
    refine aw_aload_n hG 0 rfl dL_law_2309 rfl ?_
    refine aw_iload hG 4 rfl dL_law_2310 ?_
    refine aw_iconst (v := 5) hG dL_law_2312 rfl ?_
    refine aw_iadd hG dL_law_2313 ?_
    refine aw_sld hG hX (sI h0 h7 hL (by decide) (by decide)) dL_law_2314 ?_
    refine aw_i2l hG dL_law_2315 ?_
    refine aw_ldc2 hG lM_0 dL_law_2316 ?_
    refine aw_land hG dL_law_2319 ?_
    refine aw_lor hG dL_law_2320 ?_
    refine aw_aload_n hG 0 rfl dL_law_2321 rfl ?_
    refine aw_iload hG 4 rfl dL_law_2322 ?_
    refine aw_bipush (v := 6) hG dL_law_2324 rfl ?_
    refine aw_iadd hG dL_law_2326 ?_
    refine aw_sld hG hX (sI h0 h7 hL (by decide) (by decide)) dL_law_2327 ?_
    refine aw_aload_n hG 3 rfl dL_law_2328 rfl ?_
    refine aw_callH (v := 0) (σ' := (c9, m, vp_updL z 0 v9)) (As := [.ref (wad (cxw g) 0), .int (xs (i + 1).toNatClampNeg), .long ((jshl ((xs (i + 2).toNatClampNeg).toInt64) 32) ||| (((xs (i + 3).toNatClampNeg).toInt64) &&& 4294967295)), .long ((jshl ((xs (i + 4).toNatClampNeg).toInt64) 32) ||| (((xs (i + 5).toNatClampNeg).toInt64) &&& 4294967295)), .int (xs (i + 6).toNatClampNeg), .ref (wad (cxw g) 26)]) (rest := []) hG hst (c_L_reads hc) lM_160 wh_reads rfl rfl rfl (by decide) hk hn (Nat.le_of_ble_eq_true rfl) dL_law_2329 ?_
    refine aw_istore (L' := [(5, .int 0), (0, .ref b), (1, .ref (wad (cxw g) 0)), (2, .ref (wad (cxw g) 17)), (3, .ref (wad (cxw g) 26)), (4, .int i)]) hG dL_law_2332 (by decide) rfl ?_
    refine aw_aload_n hG 3 rfl dL_law_2334 rfl ?_
    refine aw_aload_n hG 1 rfl dL_law_2335 rfl ?_
    refine aw_iload hG 5 rfl dL_law_2336 ?_
    refine aw_iconst (v := 1) hG dL_law_2338 rfl ?_
    refine aw_iadd hG dL_law_2339 ?_
    refine aw_sld hG hX (sI h0 h7 hL (by decide) (by decide)) dL_law_2340 ?_
    refine aw_aload_n hG 1 rfl dL_law_2341 rfl ?_
    refine aw_iload hG 5 rfl dL_law_2342 ?_
    refine aw_iconst (v := 2) hG dL_law_2344 rfl ?_
    refine aw_iadd hG dL_law_2345 ?_
    refine aw_sld hG hX (sI h0 h7 hL (by decide) (by decide)) dL_law_2346 ?_
    refine aw_i2l hG dL_law_2347 ?_
    refine aw_bipush (v := 32) hG dL_law_2348 rfl ?_
    refine aw_lshlJ hG dL_law_2350 ?_
    refine aw_aload_n hG 1 rfl dL_law_2351 rfl ?_
    refine aw_iload hG 5 rfl dL_law_2352 ?_
    refine aw_iconst (v := 3) hG dL_law_2354 rfl ?_
    refine aw_iadd hG dL_law_2355 ?_
    refine aw_sld hG hX (sI h0 h7 hL (by decide) (by decide)) dL_law_2356 ?_
    refine aw_i2l hG dL_law_2357 ?_
    refine aw_ldc2 hG lM_0 dL_law_2358 ?_
    refine aw_land hG dL_law_2361 ?_
    refine aw_lor hG dL_law_2362 ?_
    refine aw_aload_n hG 1 rfl dL_law_2363 rfl ?_
    refine aw_iload hG 5 rfl dL_law_2364 ?_
    refine aw_iconst (v := 4) hG dL_law_2366 rfl ?_
    refine aw_iadd hG dL_law_2367 ?_
    refine aw_sld hG hX (sI h0 h7 hL (by decide) (by decide)) dL_law_2368 ?_
    refine aw_i2l hG dL_law_2369 ?_
    refine aw_bipush (v := 32) hG dL_law_2370 rfl ?_
    refine aw_lshlJ hG dL_law_2372 ?_
    refine aw_aload_n hG 1 rfl dL_law_2373 rfl ?_
    refine aw_iload hG 5 rfl dL_law_2374 ?_
    refine aw_iconst (v := 5) hG dL_law_2376 rfl ?_
    refine aw_iadd hG dL_law_2377 ?_
    refine aw_sld hG hX (sI h0 h7 hL (by decide) (by decide)) dL_law_2378 ?_
    refine aw_i2l hG dL_law_2379 ?_
    refine aw_ldc2 hG lM_0 dL_law_2380 ?_
    refine aw_land hG dL_law_2383 ?_
    refine aw_lor hG dL_law_2384 ?_
    refine aw_aload_n hG 1 rfl dL_law_2385 rfl ?_
    refine aw_iload hG 5 rfl dL_law_2386 ?_
    refine aw_bipush (v := 6) hG dL_law_2388 rfl ?_
    refine aw_iadd hG dL_law_2390 ?_
    refine aw_sld hG hX (sI h0 h7 hL (by decide) (by decide)) dL_law_2391 ?_
    refine aw_callVi (As := [.int (xs (i + 1).toNatClampNeg), .long ((jshl ((xs (i + 2).toNatClampNeg).toInt64) 32) ||| (((xs (i + 3).toNatClampNeg).toInt64) &&& 4294967295)), .long ((jshl ((xs (i + 4).toNatClampNeg).toInt64) 32) ||| (((xs (i + 5).toNatClampNeg).toInt64) &&& 4294967295)), .int (xs (i + 6).toNatClampNeg)]) (rest := []) hG (c_X7_reads (c := c9) (m := m) (z := (vp_updL z 0 v9)) hs9) lM_161 wvM_X7_reads (rv_X7 hG) rfl rfl rfl (by decide) (Nat.le_trans (Nat.le_refl _) hk) hn (Nat.le_of_ble_eq_true rfl) dL_law_2392 ?_
    refine aw_istore (L' := [(6, .int s9.1), (5, .int 0), (0, .ref b), (1, .ref (wad (cxw g) 0)), (2, .ref (wad (cxw g) 17)), (3, .ref (wad (cxw g) 26)), (4, .int i)]) hG dL_law_2395 (by decide) rfl ?_
    refine aw_aload_n hG 4 rfl dL_law_2397 rfl ?_
    refine aw_callVi (As := []) (rest := []) hG (c_X7_thrown (c := c9) (m := s9.2) (z := (vp_updL z 0 v9))) lM_7 wvM_X7_thrown (rv_X7 hG) rfl rfl rfl (by decide) (Nat.le_trans (Nat.le_refl _) hk) hn (Nat.le_of_ble_eq_true rfl) dL_law_2398 ?_
    refine aw_iload hG 1 rfl dL_law_2401 ?_
    refine aw_icmp_eq (t := 2408) hG dL_law_2403 rfl (fun hq9 => ?_) (fun hq9 => ?_)
    rotate_left
    · exact absurd ht hq9
    refine aw_iload hG 1 rfl dL_law_2408 ?_
    refine aw_if_ne (t := 2432) hG dL_law_2410 rfl (fun hq9 => ?_) (fun hq9 => ?_)
    · exact absurd rfl hq9
    refine aw_aload_n hG 5 rfl dL_law_2413 rfl ?_
    refine aw_iconst (v := 0) hG dL_law_2414 rfl ?_
    refine al_out hG dL_law_2415 ?_
    refine aw_iload hG 0 rfl dL_law_2416 ?_
    refine aw_if_eq (t := 2425) hG dL_law_2418 rfl (fun hz9 => ?_) (fun hz9 => ?_)
    · rw [if_pos hz9] at h1
      refine aw_lconst (v := 0) hG dL_law_2425 rfl ?_
      refine aw_lc_eq (t := 2432) hG dL_law_2426 rfl dL_law_2427 rfl rfl (fun hq9 => ?_) (fun hq9 => ?_)
      rotate_left
      · exact absurd (pk_uLs.trans h1.symm) hq9
      refine aw_goto (t := 2542) hG dL_law_2432 rfl ?_
      refine aw_sub (L' := [(0, .ref b), (1, .ref (wad (cxw g) 0)), (2, .ref (wad (cxw g) 17)), (3, .ref (wad (cxw g) 26)), (4, .int i)]) [2, 3, 4, 5, 6] rfl ?_
      exact kk _ _ _ hI2
    · rw [if_neg hz9] at h1
      refine aw_lconst (v := 1) hG dL_law_2421 rfl ?_
      refine aw_goto (t := 2426) hG dL_law_2422 rfl ?_
      refine aw_lc_eq (t := 2432) hG dL_law_2426 rfl dL_law_2427 rfl rfl (fun hq9 => ?_) (fun hq9 => ?_)
      rotate_left
      · exact absurd (pk_uLs.trans h1.symm) hq9
      refine aw_goto (t := 2542) hG dL_law_2432 rfl ?_
      refine aw_sub (L' := [(0, .ref b), (1, .ref (wad (cxw g) 0)), (2, .ref (wad (cxw g) 17)), (3, .ref (wad (cxw g) 26)), (4, .int i)]) [2, 3, 4, 5, 6] rfl ?_
      exact kk _ _ _ hI2
set_option maxRecDepth 20000 in
set_option maxHeartbeats 4000000 in
theorem lc_holds {Inv : CS → MS → Prop} (hA : AllA Inv) (hG : Gd g RL cL_law 8 12 mc ms) (hst : g.1.2.1.stackTraces = false) (hX : LX g b Ln xs) {i : Int32} (h0 : 0 ≤ i.toInt) (h7 : i.toInt + 7 ≤ Ln) (hL : Ln ≤ 3584) {c : CS} {m : MS} {z : Nat → Int64} (hk : k + 1 ≤ mc) (hn : n + 6 ≤ ms) (hI : Inv c m) (kk : ∀ c' m' z', Inv c' m' → AW g 2542 [(0, .ref b), (1, .ref (wad (cxw g) 0)), (2, .ref (wad (cxw g) 17)), (3, .ref (wad (cxw g) 26)), (4, .int i)] [] (c', m', z') (k + 1) (n + 6)) : AW g 2435 [(0, .ref b), (1, .ref (wad (cxw g) 0)), (2, .ref (wad (cxw g) 17)), (3, .ref (wad (cxw g) 26)), (4, .int i)] [] (c, m, z) k n := by
  obtain ⟨v9, m9, hm, hcl⟩ := hA.2.2.2.2.2.2.2.2.2.2.2.2.2.2.2.2.2.2.2.2.1 (xs (i + 1).toNatClampNeg) ((jshl ((xs (i + 2).toNatClampNeg).toInt64) 32) ||| (((xs (i + 3).toNatClampNeg).toInt64) &&& 4294967295)) c m hI
  unfold mo_holds at hm
  obtain ⟨s9, hs9⟩ : ∃ s, f_X7_holds (xs (i + 1).toNatClampNeg) ((jshl ((xs (i + 2).toNatClampNeg).toInt64) 32) ||| (((xs (i + 3).toNatClampNeg).toInt64) &&& 4294967295)) m = s := ⟨_, rfl⟩
  rw [hs9] at hm
  have he9 := Option.some.inj hm
  have h1 := congrArg Prod.fst he9
  have h2 := congrArg Prod.snd he9
  dsimp only at h1 h2
  subst h2
  rcases hcl with ⟨hc, ht, hI2⟩ | ⟨c9, hc, ht, hI2⟩
  · skip
    refine aw_aload_n hG 1 rfl dL_law_2435 rfl ?_
    refine aw_aload_n hG 0 rfl dL_law_2436 rfl ?_
    refine aw_iload hG 4 rfl dL_law_2437 ?_
    refine aw_iconst (v := 1) hG dL_law_2439 rfl ?_
    refine aw_iadd hG dL_law_2440 ?_
    refine aw_sld hG hX (sI h0 h7 hL (by decide) (by decide)) dL_law_2441 ?_
    refine aw_aload_n hG 0 rfl dL_law_2442 rfl ?_
    refine aw_iload hG 4 rfl dL_law_2443 ?_
    refine aw_iconst (v := 2) hG dL_law_2445 rfl ?_
    refine aw_iadd hG dL_law_2446 ?_
    refine aw_sld hG hX (sI h0 h7 hL (by decide) (by decide)) dL_law_2447 ?_
    refine aw_i2l hG dL_law_2448 ?_
    refine aw_bipush (v := 32) hG dL_law_2449 rfl ?_
    refine aw_lshlJ hG dL_law_2451 ?_
    refine aw_aload_n hG 0 rfl dL_law_2452 rfl ?_
    refine aw_iload hG 4 rfl dL_law_2453 ?_
    refine aw_iconst (v := 3) hG dL_law_2455 rfl ?_
    refine aw_iadd hG dL_law_2456 ?_
    refine aw_sld hG hX (sI h0 h7 hL (by decide) (by decide)) dL_law_2457 ?_
    refine aw_i2l hG dL_law_2458 ?_
    refine aw_ldc2 hG lM_0 dL_law_2459 ?_
    refine aw_land hG dL_law_2462 ?_
    refine aw_lor hG dL_law_2463 ?_
    refine aw_aload_n hG 3 rfl dL_law_2464 rfl ?_
    refine aw_callH (v := 1) (σ' := (c, m, z)) (As := [.ref (wad (cxw g) 0), .int (xs (i + 1).toNatClampNeg), .long ((jshl ((xs (i + 2).toNatClampNeg).toInt64) 32) ||| (((xs (i + 3).toNatClampNeg).toInt64) &&& 4294967295)), .ref (wad (cxw g) 26)]) (rest := []) hG hst (c_L_holds hc) lM_166 wh_holds rfl rfl rfl (by decide) hk hn (Nat.le_of_ble_eq_true rfl) dL_law_2465 ?_
    refine aw_istore (L' := [(5, .int 1), (0, .ref b), (1, .ref (wad (cxw g) 0)), (2, .ref (wad (cxw g) 17)), (3, .ref (wad (cxw g) 26)), (4, .int i)]) hG dL_law_2468 (by decide) rfl ?_
    refine aw_aload_n hG 3 rfl dL_law_2470 rfl ?_
    refine aw_aload_n hG 1 rfl dL_law_2471 rfl ?_
    refine aw_iload hG 5 rfl dL_law_2472 ?_
    refine aw_iconst (v := 1) hG dL_law_2474 rfl ?_
    refine aw_iadd hG dL_law_2475 ?_
    refine aw_sld hG hX (sI h0 h7 hL (by decide) (by decide)) dL_law_2476 ?_
    refine aw_aload_n hG 1 rfl dL_law_2477 rfl ?_
    refine aw_iload hG 5 rfl dL_law_2478 ?_
    refine aw_iconst (v := 2) hG dL_law_2480 rfl ?_
    refine aw_iadd hG dL_law_2481 ?_
    refine aw_sld hG hX (sI h0 h7 hL (by decide) (by decide)) dL_law_2482 ?_
    refine aw_i2l hG dL_law_2483 ?_
    refine aw_bipush (v := 32) hG dL_law_2484 rfl ?_
    refine aw_lshlJ hG dL_law_2486 ?_
    refine aw_aload_n hG 1 rfl dL_law_2487 rfl ?_
    refine aw_iload hG 5 rfl dL_law_2488 ?_
    refine aw_iconst (v := 3) hG dL_law_2490 rfl ?_
    refine aw_iadd hG dL_law_2491 ?_
    refine aw_sld hG hX (sI h0 h7 hL (by decide) (by decide)) dL_law_2492 ?_
    refine aw_i2l hG dL_law_2493 ?_
    refine aw_ldc2 hG lM_0 dL_law_2494 ?_
    refine aw_land hG dL_law_2497 ?_
    refine aw_lor hG dL_law_2498 ?_
    refine aw_callVi (As := [.int (xs (i + 1).toNatClampNeg), .long ((jshl ((xs (i + 2).toNatClampNeg).toInt64) 32) ||| (((xs (i + 3).toNatClampNeg).toInt64) &&& 4294967295))]) (rest := []) hG (c_X7_holds (c := c) (m := m) (z := z) hs9) lM_167 wvM_X7_holds (rv_X7 hG) rfl rfl rfl (by decide) (Nat.le_trans (Nat.le_refl _) hk) hn (Nat.le_of_ble_eq_true rfl) dL_law_2499 ?_
    refine aw_istore (L' := [(6, .int s9.1), (5, .int 1), (0, .ref b), (1, .ref (wad (cxw g) 0)), (2, .ref (wad (cxw g) 17)), (3, .ref (wad (cxw g) 26)), (4, .int i)]) hG dL_law_2502 (by decide) rfl ?_
    refine aw_aload_n hG 4 rfl dL_law_2504 rfl ?_
    refine aw_callVi (As := []) (rest := []) hG (c_X7_thrown (c := c) (m := s9.2) (z := z)) lM_7 wvM_X7_thrown (rv_X7 hG) rfl rfl rfl (by decide) (Nat.le_trans (Nat.le_refl _) hk) hn (Nat.le_of_ble_eq_true rfl) dL_law_2505 ?_
    refine aw_iload hG 1 rfl dL_law_2508 ?_
    refine aw_icmp_eq (t := 2515) hG dL_law_2510 rfl (fun hq9 => ?_) (fun hq9 => ?_)
    rotate_left
    · exact absurd ht hq9
    refine aw_iload hG 1 rfl dL_law_2515 ?_
    refine aw_if_ne (t := 2539) hG dL_law_2517 rfl (fun hq9 => ?_) (fun hq9 => ?_)
    rotate_left
    · exact absurd hq9 (by decide)
    refine aw_goto (t := 2542) hG dL_law_2539 rfl ?_
    refine aw_sub (L' := [(0, .ref b), (1, .ref (wad (cxw g) 0)), (2, .ref (wad (cxw g) 17)), (3, .ref (wad (cxw g) 26)), (4, .int i)]) [2, 3, 4, 5, 6] rfl ?_
    exact kk _ _ _ hI2
  · skip
    refine aw_aload_n hG 1 rfl dL_law_2435 rfl ?_
    refine aw_aload_n hG 0 rfl dL_law_2436 rfl ?_
    refine aw_iload hG 4 rfl dL_law_2437 ?_
    refine aw_iconst (v := 1) hG dL_law_2439 rfl ?_
    refine aw_iadd hG dL_law_2440 ?_
    refine aw_sld hG hX (sI h0 h7 hL (by decide) (by decide)) dL_law_2441 ?_
    refine aw_aload_n hG 0 rfl dL_law_2442 rfl ?_
    refine aw_iload hG 4 rfl dL_law_2443 ?_
    refine aw_iconst (v := 2) hG dL_law_2445 rfl ?_
    refine aw_iadd hG dL_law_2446 ?_
    refine aw_sld hG hX (sI h0 h7 hL (by decide) (by decide)) dL_law_2447 ?_
    refine aw_i2l hG dL_law_2448 ?_
    refine aw_bipush (v := 32) hG dL_law_2449 rfl ?_
    refine aw_lshlJ hG dL_law_2451 ?_
    refine aw_aload_n hG 0 rfl dL_law_2452 rfl ?_
    refine aw_iload hG 4 rfl dL_law_2453 ?_
    refine aw_iconst (v := 3) hG dL_law_2455 rfl ?_
    refine aw_iadd hG dL_law_2456 ?_
    refine aw_sld hG hX (sI h0 h7 hL (by decide) (by decide)) dL_law_2457 ?_
    refine aw_i2l hG dL_law_2458 ?_
    refine aw_ldc2 hG lM_0 dL_law_2459 ?_
    refine aw_land hG dL_law_2462 ?_
    refine aw_lor hG dL_law_2463 ?_
    refine aw_aload_n hG 3 rfl dL_law_2464 rfl ?_
    refine aw_callH (v := 0) (σ' := (c9, m, vp_updL z 0 v9)) (As := [.ref (wad (cxw g) 0), .int (xs (i + 1).toNatClampNeg), .long ((jshl ((xs (i + 2).toNatClampNeg).toInt64) 32) ||| (((xs (i + 3).toNatClampNeg).toInt64) &&& 4294967295)), .ref (wad (cxw g) 26)]) (rest := []) hG hst (c_L_holds hc) lM_166 wh_holds rfl rfl rfl (by decide) hk hn (Nat.le_of_ble_eq_true rfl) dL_law_2465 ?_
    refine aw_istore (L' := [(5, .int 0), (0, .ref b), (1, .ref (wad (cxw g) 0)), (2, .ref (wad (cxw g) 17)), (3, .ref (wad (cxw g) 26)), (4, .int i)]) hG dL_law_2468 (by decide) rfl ?_
    refine aw_aload_n hG 3 rfl dL_law_2470 rfl ?_
    refine aw_aload_n hG 1 rfl dL_law_2471 rfl ?_
    refine aw_iload hG 5 rfl dL_law_2472 ?_
    refine aw_iconst (v := 1) hG dL_law_2474 rfl ?_
    refine aw_iadd hG dL_law_2475 ?_
    refine aw_sld hG hX (sI h0 h7 hL (by decide) (by decide)) dL_law_2476 ?_
    refine aw_aload_n hG 1 rfl dL_law_2477 rfl ?_
    refine aw_iload hG 5 rfl dL_law_2478 ?_
    refine aw_iconst (v := 2) hG dL_law_2480 rfl ?_
    refine aw_iadd hG dL_law_2481 ?_
    refine aw_sld hG hX (sI h0 h7 hL (by decide) (by decide)) dL_law_2482 ?_
    refine aw_i2l hG dL_law_2483 ?_
    refine aw_bipush (v := 32) hG dL_law_2484 rfl ?_
    refine aw_lshlJ hG dL_law_2486 ?_
    refine aw_aload_n hG 1 rfl dL_law_2487 rfl ?_
    refine aw_iload hG 5 rfl dL_law_2488 ?_
    refine aw_iconst (v := 3) hG dL_law_2490 rfl ?_
    refine aw_iadd hG dL_law_2491 ?_
    refine aw_sld hG hX (sI h0 h7 hL (by decide) (by decide)) dL_law_2492 ?_
    refine aw_i2l hG dL_law_2493 ?_
    refine aw_ldc2 hG lM_0 dL_law_2494 ?_
    refine aw_land hG dL_law_2497 ?_
    refine aw_lor hG dL_law_2498 ?_
    refine aw_callVi (As := [.int (xs (i + 1).toNatClampNeg), .long ((jshl ((xs (i + 2).toNatClampNeg).toInt64) 32) ||| (((xs (i + 3).toNatClampNeg).toInt64) &&& 4294967295))]) (rest := []) hG (c_X7_holds (c := c9) (m := m) (z := (vp_updL z 0 v9)) hs9) lM_167 wvM_X7_holds (rv_X7 hG) rfl rfl rfl (by decide) (Nat.le_trans (Nat.le_refl _) hk) hn (Nat.le_of_ble_eq_true rfl) dL_law_2499 ?_
    refine aw_istore (L' := [(6, .int s9.1), (5, .int 0), (0, .ref b), (1, .ref (wad (cxw g) 0)), (2, .ref (wad (cxw g) 17)), (3, .ref (wad (cxw g) 26)), (4, .int i)]) hG dL_law_2502 (by decide) rfl ?_
    refine aw_aload_n hG 4 rfl dL_law_2504 rfl ?_
    refine aw_callVi (As := []) (rest := []) hG (c_X7_thrown (c := c9) (m := s9.2) (z := (vp_updL z 0 v9))) lM_7 wvM_X7_thrown (rv_X7 hG) rfl rfl rfl (by decide) (Nat.le_trans (Nat.le_refl _) hk) hn (Nat.le_of_ble_eq_true rfl) dL_law_2505 ?_
    refine aw_iload hG 1 rfl dL_law_2508 ?_
    refine aw_icmp_eq (t := 2515) hG dL_law_2510 rfl (fun hq9 => ?_) (fun hq9 => ?_)
    rotate_left
    · exact absurd ht hq9
    refine aw_iload hG 1 rfl dL_law_2515 ?_
    refine aw_if_ne (t := 2539) hG dL_law_2517 rfl (fun hq9 => ?_) (fun hq9 => ?_)
    · exact absurd rfl hq9
    refine aw_aload_n hG 5 rfl dL_law_2520 rfl ?_
    refine aw_iconst (v := 0) hG dL_law_2521 rfl ?_
    refine al_out hG dL_law_2522 ?_
    refine aw_iload hG 0 rfl dL_law_2523 ?_
    refine aw_if_eq (t := 2532) hG dL_law_2525 rfl (fun hz9 => ?_) (fun hz9 => ?_)
    · rw [if_pos hz9] at h1
      refine aw_lconst (v := 0) hG dL_law_2532 rfl ?_
      refine aw_lc_eq (t := 2539) hG dL_law_2533 rfl dL_law_2534 rfl rfl (fun hq9 => ?_) (fun hq9 => ?_)
      rotate_left
      · exact absurd (pk_uLs.trans h1.symm) hq9
      refine aw_goto (t := 2542) hG dL_law_2539 rfl ?_
      refine aw_sub (L' := [(0, .ref b), (1, .ref (wad (cxw g) 0)), (2, .ref (wad (cxw g) 17)), (3, .ref (wad (cxw g) 26)), (4, .int i)]) [2, 3, 4, 5, 6] rfl ?_
      exact kk _ _ _ hI2
    · rw [if_neg hz9] at h1
      refine aw_lconst (v := 1) hG dL_law_2528 rfl ?_
      refine aw_goto (t := 2533) hG dL_law_2529 rfl ?_
      refine aw_lc_eq (t := 2539) hG dL_law_2533 rfl dL_law_2534 rfl rfl (fun hq9 => ?_) (fun hq9 => ?_)
      rotate_left
      · exact absurd (pk_uLs.trans h1.symm) hq9
      refine aw_goto (t := 2542) hG dL_law_2539 rfl ?_
      refine aw_sub (L' := [(0, .ref b), (1, .ref (wad (cxw g) 0)), (2, .ref (wad (cxw g) 17)), (3, .ref (wad (cxw g) 26)), (4, .int i)]) [2, 3, 4, 5, 6] rfl ?_
      exact kk _ _ _ hI2
end AWL
