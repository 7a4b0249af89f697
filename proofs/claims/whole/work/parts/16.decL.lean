theorem d_L_cell_0 : decode c_L_cell 0 = .ok (.iload_n 1, 1) := by decide +kernel
theorem d_L_cell_1 : decode c_L_cell 1 = .ok (.aload_n 0, 1) := by decide +kernel
theorem d_L_cell_2 : decode c_L_cell 2 = .ok (.arraylength, 1) := by decide +kernel
theorem d_L_cell_3 : decode c_L_cell 3 = .ok (.if_icmp .ge 9, 3) := by decide +kernel
theorem d_L_cell_6 : decode c_L_cell 6 = .ok (.aload_n 0, 1) := by decide +kernel
theorem d_L_cell_7 : decode c_L_cell 7 = .ok (.iload_n 1, 1) := by decide +kernel
theorem d_L_cell_8 : decode c_L_cell 8 = .ok (.iaload, 1) := by decide +kernel
theorem d_L_cell_9 : decode c_L_cell 9 = .ok (.goto 4, 3) := by decide +kernel
theorem d_L_cell_12 : decode c_L_cell 12 = .ok (.iconst 0, 1) := by decide +kernel
theorem d_L_cell_13 : decode c_L_cell 13 = .ok (.ireturn, 1) := by decide +kernel
theorem d_L_put_0 : decode c_L_put 0 = .ok (.aload 5, 2) := by decide +kernel
theorem d_L_put_2 : decode c_L_put 2 = .ok (.iconst 0, 1) := by decide +kernel
theorem d_L_put_3 : decode c_L_put 3 = .ok (.aload_n 0, 1) := by decide +kernel
theorem d_L_put_4 : decode c_L_put 4 = .ok (.iload_n 1, 1) := by decide +kernel
theorem d_L_put_5 : decode c_L_put 5 = .ok (.iload_n 2, 1) := by decide +kernel
theorem d_L_put_6 : decode c_L_put 6 = .ok (.lload_n 3, 1) := by decide +kernel
theorem d_L_put_7 : decode c_L_put 7 = .ok (.invokevirtual 7, 3) := by decide +kernel
theorem d_L_put_10 : decode c_L_put 10 = .ok (.ifCond .eq 7, 3) := by decide +kernel
theorem d_L_put_13 : decode c_L_put 13 = .ok (.lconst 1, 1) := by decide +kernel
theorem d_L_put_14 : decode c_L_put 14 = .ok (.goto 4, 3) := by decide +kernel
theorem d_L_put_17 : decode c_L_put 17 = .ok (.lconst 0, 1) := by decide +kernel
theorem d_L_put_18 : decode c_L_put 18 = .ok (.lastore, 1) := by decide +kernel
theorem d_L_put_19 : decode c_L_put 19 = .ok (.goto 7, 3) := by decide +kernel
theorem d_L_put_22 : decode c_L_put 22 = .ok (.astore 6, 2) := by decide +kernel
theorem d_L_put_24 : decode c_L_put 24 = .ok (.iconst 1, 1) := by decide +kernel
theorem d_L_put_25 : decode c_L_put 25 = .ok (.ireturn, 1) := by decide +kernel
theorem d_L_put_26 : decode c_L_put 26 = .ok (.iconst 0, 1) := by decide +kernel
theorem d_L_put_27 : decode c_L_put 27 = .ok (.ireturn, 1) := by decide +kernel
theorem d_L_at_0 : decode c_L_at 0 = .ok (.aload_n 3, 1) := by decide +kernel
theorem d_L_at_1 : decode c_L_at 1 = .ok (.iconst 0, 1) := by decide +kernel
theorem d_L_at_2 : decode c_L_at 2 = .ok (.aload_n 0, 1) := by decide +kernel
theorem d_L_at_3 : decode c_L_at 3 = .ok (.iload_n 1, 1) := by decide +kernel
theorem d_L_at_4 : decode c_L_at 4 = .ok (.iload_n 2, 1) := by decide +kernel
theorem d_L_at_5 : decode c_L_at 5 = .ok (.invokevirtual 15, 3) := by decide +kernel
theorem d_L_at_8 : decode c_L_at 8 = .ok (.i2l, 1) := by decide +kernel
theorem d_L_at_9 : decode c_L_at 9 = .ok (.lastore, 1) := by decide +kernel
theorem d_L_at_10 : decode c_L_at 10 = .ok (.goto 7, 3) := by decide +kernel
theorem d_L_at_13 : decode c_L_at 13 = .ok (.astore 4, 2) := by decide +kernel
theorem d_L_at_15 : decode c_L_at 15 = .ok (.iconst 1, 1) := by decide +kernel
theorem d_L_at_16 : decode c_L_at 16 = .ok (.ireturn, 1) := by decide +kernel
theorem d_L_at_17 : decode c_L_at 17 = .ok (.iconst 0, 1) := by decide +kernel
theorem d_L_at_18 : decode c_L_at 18 = .ok (.ireturn, 1) := by decide +kernel
theorem d_L_hand_0 : decode c_L_hand 0 = .ok (.aload_n 0, 1) := by decide +kernel
theorem d_L_hand_1 : decode c_L_hand 1 = .ok (.iload_n 1, 1) := by decide +kernel
theorem d_L_hand_2 : decode c_L_hand 2 = .ok (.lload_n 2, 1) := by decide +kernel
theorem d_L_hand_3 : decode c_L_hand 3 = .ok (.invokevirtual 19, 3) := by decide +kernel
theorem d_L_hand_6 : decode c_L_hand 6 = .ok (.goto 7, 3) := by decide +kernel
theorem d_L_hand_9 : decode c_L_hand 9 = .ok (.astore 4, 2) := by decide +kernel
theorem d_L_hand_11 : decode c_L_hand 11 = .ok (.iconst 1, 1) := by decide +kernel
theorem d_L_hand_12 : decode c_L_hand 12 = .ok (.ireturn, 1) := by decide +kernel
theorem d_L_hand_13 : decode c_L_hand 13 = .ok (.iconst 0, 1) := by decide +kernel
theorem d_L_hand_14 : decode c_L_hand 14 = .ok (.ireturn, 1) := by decide +kernel
theorem d_L_places_0 : decode c_L_places 0 = .ok (.aload_n 1, 1) := by decide +kernel
theorem d_L_places_1 : decode c_L_places 1 = .ok (.iconst 0, 1) := by decide +kernel
theorem d_L_places_2 : decode c_L_places 2 = .ok (.aload_n 0, 1) := by decide +kernel
theorem d_L_places_3 : decode c_L_places 3 = .ok (.invokevirtual 23, 3) := by decide +kernel
theorem d_L_places_6 : decode c_L_places 6 = .ok (.i2l, 1) := by decide +kernel
theorem d_L_places_7 : decode c_L_places 7 = .ok (.lastore, 1) := by decide +kernel
theorem d_L_places_8 : decode c_L_places 8 = .ok (.goto 6, 3) := by decide +kernel
theorem d_L_places_11 : decode c_L_places 11 = .ok (.astore_n 2, 1) := by decide +kernel
theorem d_L_places_12 : decode c_L_places 12 = .ok (.iconst 1, 1) := by decide +kernel
theorem d_L_places_13 : decode c_L_places 13 = .ok (.ireturn, 1) := by decide +kernel
theorem d_L_places_14 : decode c_L_places 14 = .ok (.iconst 0, 1) := by decide +kernel
theorem d_L_places_15 : decode c_L_places 15 = .ok (.ireturn, 1) := by decide +kernel
theorem d_L_place_0 : decode c_L_place 0 = .ok (.aload_n 2, 1) := by decide +kernel
theorem d_L_place_1 : decode c_L_place 1 = .ok (.iconst 0, 1) := by decide +kernel
theorem d_L_place_2 : decode c_L_place 2 = .ok (.aload_n 0, 1) := by decide +kernel
theorem d_L_place_3 : decode c_L_place 3 = .ok (.iload_n 1, 1) := by decide +kernel
theorem d_L_place_4 : decode c_L_place 4 = .ok (.invokevirtual 29, 3) := by decide +kernel
theorem d_L_place_7 : decode c_L_place 7 = .ok (.i2l, 1) := by decide +kernel
theorem d_L_place_8 : decode c_L_place 8 = .ok (.lastore, 1) := by decide +kernel
theorem d_L_place_9 : decode c_L_place 9 = .ok (.goto 9, 3) := by decide +kernel
theorem d_L_place_12 : decode c_L_place 12 = .ok (.astore_n 3, 1) := by decide +kernel
theorem d_L_place_13 : decode c_L_place 13 = .ok (.iconst 1, 1) := by decide +kernel
theorem d_L_place_14 : decode c_L_place 14 = .ok (.ireturn, 1) := by decide +kernel
theorem d_L_place_15 : decode c_L_place 15 = .ok (.astore_n 3, 1) := by decide +kernel
theorem d_L_place_16 : decode c_L_place 16 = .ok (.iconst 2, 1) := by decide +kernel
theorem d_L_place_17 : decode c_L_place 17 = .ok (.ireturn, 1) := by decide +kernel
theorem d_L_place_18 : decode c_L_place 18 = .ok (.iconst 0, 1) := by decide +kernel
theorem d_L_place_19 : decode c_L_place 19 = .ok (.ireturn, 1) := by decide +kernel
theorem d_L_level_0 : decode c_L_level 0 = .ok (.aload 4, 2) := by decide +kernel
theorem d_L_level_2 : decode c_L_level 2 = .ok (.iconst 0, 1) := by decide +kernel
theorem d_L_level_3 : decode c_L_level 3 = .ok (.aload_n 0, 1) := by decide +kernel
theorem d_L_level_4 : decode c_L_level 4 = .ok (.iload_n 1, 1) := by decide +kernel
theorem d_L_level_5 : decode c_L_level 5 = .ok (.lload_n 2, 1) := by decide +kernel
theorem d_L_level_6 : decode c_L_level 6 = .ok (.invokevirtual 33, 3) := by decide +kernel
theorem d_L_level_9 : decode c_L_level 9 = .ok (.i2l, 1) := by decide +kernel
theorem d_L_level_10 : decode c_L_level 10 = .ok (.lastore, 1) := by decide +kernel
theorem d_L_level_11 : decode c_L_level 11 = .ok (.goto 7, 3) := by decide +kernel
theorem d_L_level_14 : decode c_L_level 14 = .ok (.astore 5, 2) := by decide +kernel
theorem d_L_level_16 : decode c_L_level 16 = .ok (.iconst 1, 1) := by decide +kernel
theorem d_L_level_17 : decode c_L_level 17 = .ok (.ireturn, 1) := by decide +kernel
theorem d_L_level_18 : decode c_L_level 18 = .ok (.iconst 0, 1) := by decide +kernel
theorem d_L_level_19 : decode c_L_level 19 = .ok (.ireturn, 1) := by decide +kernel
theorem d_L_regular_0 : decode c_L_regular 0 = .ok (.aload 4, 2) := by decide +kernel
theorem d_L_regular_2 : decode c_L_regular 2 = .ok (.iconst 0, 1) := by decide +kernel
theorem d_L_regular_3 : decode c_L_regular 3 = .ok (.aload_n 0, 1) := by decide +kernel
theorem d_L_regular_4 : decode c_L_regular 4 = .ok (.iload_n 1, 1) := by decide +kernel
theorem d_L_regular_5 : decode c_L_regular 5 = .ok (.lload_n 2, 1) := by decide +kernel
theorem d_L_regular_6 : decode c_L_regular 6 = .ok (.invokevirtual 37, 3) := by decide +kernel
theorem d_L_regular_9 : decode c_L_regular 9 = .ok (.ifCond .eq 7, 3) := by decide +kernel
theorem d_L_regular_12 : decode c_L_regular 12 = .ok (.lconst 1, 1) := by decide +kernel
theorem d_L_regular_13 : decode c_L_regular 13 = .ok (.goto 4, 3) := by decide +kernel
theorem d_L_regular_16 : decode c_L_regular 16 = .ok (.lconst 0, 1) := by decide +kernel
theorem d_L_regular_17 : decode c_L_regular 17 = .ok (.lastore, 1) := by decide +kernel
theorem d_L_regular_18 : decode c_L_regular 18 = .ok (.goto 7, 3) := by decide +kernel
theorem d_L_regular_21 : decode c_L_regular 21 = .ok (.astore 5, 2) := by decide +kernel
theorem d_L_regular_23 : decode c_L_regular 23 = .ok (.iconst 1, 1) := by decide +kernel
theorem d_L_regular_24 : decode c_L_regular 24 = .ok (.ireturn, 1) := by decide +kernel
theorem d_L_regular_25 : decode c_L_regular 25 = .ok (.iconst 0, 1) := by decide +kernel
theorem d_L_regular_26 : decode c_L_regular 26 = .ok (.ireturn, 1) := by decide +kernel
theorem d_L_exponent_0 : decode c_L_exponent 0 = .ok (.aload 5, 2) := by decide +kernel
theorem d_L_exponent_2 : decode c_L_exponent 2 = .ok (.iconst 0, 1) := by decide +kernel
theorem d_L_exponent_3 : decode c_L_exponent 3 = .ok (.aload_n 0, 1) := by decide +kernel
theorem d_L_exponent_4 : decode c_L_exponent 4 = .ok (.iload_n 1, 1) := by decide +kernel
theorem d_L_exponent_5 : decode c_L_exponent 5 = .ok (.lload_n 2, 1) := by decide +kernel
theorem d_L_exponent_6 : decode c_L_exponent 6 = .ok (.iload 4, 2) := by decide +kernel
theorem d_L_exponent_8 : decode c_L_exponent 8 = .ok (.invokevirtual 41, 3) := by decide +kernel
theorem d_L_exponent_11 : decode c_L_exponent 11 = .ok (.i2l, 1) := by decide +kernel
theorem d_L_exponent_12 : decode c_L_exponent 12 = .ok (.lastore, 1) := by decide +kernel
theorem d_L_exponent_13 : decode c_L_exponent 13 = .ok (.goto 7, 3) := by decide +kernel
theorem d_L_exponent_16 : decode c_L_exponent 16 = .ok (.astore 6, 2) := by decide +kernel
theorem d_L_exponent_18 : decode c_L_exponent 18 = .ok (.iconst 1, 1) := by decide +kernel
theorem d_L_exponent_19 : decode c_L_exponent 19 = .ok (.ireturn, 1) := by decide +kernel
theorem d_L_exponent_20 : decode c_L_exponent 20 = .ok (.iconst 0, 1) := by decide +kernel
theorem d_L_exponent_21 : decode c_L_exponent 21 = .ok (.ireturn, 1) := by decide +kernel
theorem d_L_answer_0 : decode c_L_answer 0 = .ok (.aload_n 3, 1) := by decide +kernel
theorem d_L_answer_1 : decode c_L_answer 1 = .ok (.iconst 0, 1) := by decide +kernel
theorem d_L_answer_2 : decode c_L_answer 2 = .ok (.aload_n 0, 1) := by decide +kernel
theorem d_L_answer_3 : decode c_L_answer 3 = .ok (.iload_n 1, 1) := by decide +kernel
theorem d_L_answer_4 : decode c_L_answer 4 = .ok (.iload_n 2, 1) := by decide +kernel
theorem d_L_answer_5 : decode c_L_answer 5 = .ok (.invokevirtual 45, 3) := by decide +kernel
theorem d_L_answer_8 : decode c_L_answer 8 = .ok (.i2l, 1) := by decide +kernel
theorem d_L_answer_9 : decode c_L_answer 9 = .ok (.lastore, 1) := by decide +kernel
theorem d_L_answer_10 : decode c_L_answer 10 = .ok (.goto 7, 3) := by decide +kernel
theorem d_L_answer_13 : decode c_L_answer 13 = .ok (.astore 4, 2) := by decide +kernel
theorem d_L_answer_15 : decode c_L_answer 15 = .ok (.iconst 1, 1) := by decide +kernel
theorem d_L_answer_16 : decode c_L_answer 16 = .ok (.ireturn, 1) := by decide +kernel
theorem d_L_answer_17 : decode c_L_answer 17 = .ok (.iconst 0, 1) := by decide +kernel
theorem d_L_answer_18 : decode c_L_answer 18 = .ok (.ireturn, 1) := by decide +kernel
theorem d_L_take_0 : decode c_L_take 0 = .ok (.aload_n 0, 1) := by decide +kernel
theorem d_L_take_1 : decode c_L_take 1 = .ok (.iload_n 1, 1) := by decide +kernel
theorem d_L_take_2 : decode c_L_take 2 = .ok (.invokevirtual 48, 3) := by decide +kernel
theorem d_L_take_5 : decode c_L_take 5 = .ok (.goto 6, 3) := by decide +kernel
theorem d_L_take_8 : decode c_L_take 8 = .ok (.astore_n 2, 1) := by decide +kernel
theorem d_L_take_9 : decode c_L_take 9 = .ok (.iconst 1, 1) := by decide +kernel
theorem d_L_take_10 : decode c_L_take 10 = .ok (.ireturn, 1) := by decide +kernel
theorem d_L_take_11 : decode c_L_take 11 = .ok (.iconst 0, 1) := by decide +kernel
theorem d_L_take_12 : decode c_L_take 12 = .ok (.ireturn, 1) := by decide +kernel
theorem d_L_series_0 : decode c_L_series 0 = .ok (.aload 10, 2) := by decide +kernel
theorem d_L_series_2 : decode c_L_series 2 = .ok (.iconst 0, 1) := by decide +kernel
theorem d_L_series_3 : decode c_L_series 3 = .ok (.aload_n 0, 1) := by decide +kernel
theorem d_L_series_4 : decode c_L_series 4 = .ok (.lload_n 1, 1) := by decide +kernel
theorem d_L_series_5 : decode c_L_series 5 = .ok (.lload_n 3, 1) := by decide +kernel
theorem d_L_series_6 : decode c_L_series 6 = .ok (.lload 5, 2) := by decide +kernel
theorem d_L_series_8 : decode c_L_series 8 = .ok (.lload 7, 2) := by decide +kernel
theorem d_L_series_10 : decode c_L_series 10 = .ok (.iload 9, 2) := by decide +kernel
theorem d_L_series_12 : decode c_L_series 12 = .ok (.invokevirtual 52, 3) := by decide +kernel
theorem d_L_series_15 : decode c_L_series 15 = .ok (.i2l, 1) := by decide +kernel
theorem d_L_series_16 : decode c_L_series 16 = .ok (.lastore, 1) := by decide +kernel
theorem d_L_series_17 : decode c_L_series 17 = .ok (.goto 11, 3) := by decide +kernel
theorem d_L_series_20 : decode c_L_series 20 = .ok (.astore 11, 2) := by decide +kernel
theorem d_L_series_22 : decode c_L_series 22 = .ok (.iconst 1, 1) := by decide +kernel
theorem d_L_series_23 : decode c_L_series 23 = .ok (.ireturn, 1) := by decide +kernel
theorem d_L_series_24 : decode c_L_series 24 = .ok (.astore 11, 2) := by decide +kernel
theorem d_L_series_26 : decode c_L_series 26 = .ok (.iconst 2, 1) := by decide +kernel
theorem d_L_series_27 : decode c_L_series 27 = .ok (.ireturn, 1) := by decide +kernel
theorem d_L_series_28 : decode c_L_series 28 = .ok (.iconst 0, 1) := by decide +kernel
theorem d_L_series_29 : decode c_L_series 29 = .ok (.ireturn, 1) := by decide +kernel
theorem d_L_law_0 : decode c_L_law 0 = .ok (.new 8, 3) := by decide +kernel
theorem d_L_law_3 : decode c_L_law 3 = .ok (.dup, 1) := by decide +kernel
theorem d_L_law_4 : decode c_L_law 4 = .ok (.aload_n 0, 1) := by decide +kernel
theorem d_L_law_5 : decode c_L_law 5 = .ok (.iconst 0, 1) := by decide +kernel
theorem d_L_law_6 : decode c_L_law 6 = .ok (.invokestatic 58, 3) := by decide +kernel
theorem d_L_law_9 : decode c_L_law 9 = .ok (.invokespecial 64, 3) := by decide +kernel
theorem d_L_law_12 : decode c_L_law 12 = .ok (.astore_n 1, 1) := by decide +kernel
theorem d_L_law_13 : decode c_L_law 13 = .ok (.new 66, 3) := by decide +kernel
theorem d_L_law_16 : decode c_L_law 16 = .ok (.dup, 1) := by decide +kernel
theorem d_L_law_17 : decode c_L_law 17 = .ok (.aload_n 0, 1) := by decide +kernel
theorem d_L_law_18 : decode c_L_law 18 = .ok (.iconst 0, 1) := by decide +kernel
theorem d_L_law_19 : decode c_L_law 19 = .ok (.invokestatic 58, 3) := by decide +kernel
theorem d_L_law_22 : decode c_L_law 22 = .ok (.invokespecial 68, 3) := by decide +kernel
theorem d_L_law_25 : decode c_L_law 25 = .ok (.astore_n 2, 1) := by decide +kernel
theorem d_L_law_26 : decode c_L_law 26 = .ok (.iconst 1, 1) := by decide +kernel
theorem d_L_law_27 : decode c_L_law 27 = .ok (.newarray .long, 2) := by decide +kernel
theorem d_L_law_29 : decode c_L_law 29 = .ok (.astore_n 3, 1) := by decide +kernel
theorem d_L_law_30 : decode c_L_law 30 = .ok (.iconst 1, 1) := by decide +kernel
theorem d_L_law_31 : decode c_L_law 31 = .ok (.istore 4, 2) := by decide +kernel
theorem d_L_law_33 : decode c_L_law 33 = .ok (.iload 4, 2) := by decide +kernel
theorem d_L_law_35 : decode c_L_law 35 = .ok (.aload_n 0, 1) := by decide +kernel
theorem d_L_law_36 : decode c_L_law 36 = .ok (.arraylength, 1) := by decide +kernel
theorem d_L_law_37 : decode c_L_law 37 = .ok (.bipush 10, 2) := by decide +kernel
theorem d_L_law_39 : decode c_L_law 39 = .ok (.isub, 1) := by decide +kernel
theorem d_L_law_40 : decode c_L_law 40 = .ok (.if_icmp .gt 1304, 3) := by decide +kernel
theorem d_L_law_43 : decode c_L_law 43 = .ok (.aload_n 0, 1) := by decide +kernel
theorem d_L_law_44 : decode c_L_law 44 = .ok (.iload 4, 2) := by decide +kernel
theorem d_L_law_46 : decode c_L_law 46 = .ok (.iaload, 1) := by decide +kernel
theorem d_L_law_47 : decode c_L_law 47 = .ok (.bipush 31, 2) := by decide +kernel
theorem d_L_law_49 : decode c_L_law 49 = .ok (.iand, 1) := by decide +kernel
theorem d_L_law_50 : decode c_L_law 50 = .ok (.tableswitch 1288 0 16 #[82, 201, 269, 349, 374, 418, 474, 590, 713, 841, 854, 922, 935, 971, 1211, 1222, 1277], 82) := by decide +kernel
theorem d_L_law_132 : decode c_L_law 132 = .ok (.aload_n 1, 1) := by decide +kernel
theorem d_L_law_133 : decode c_L_law 133 = .ok (.aload_n 0, 1) := by decide +kernel
theorem d_L_law_134 : decode c_L_law 134 = .ok (.iload 4, 2) := by decide +kernel
theorem d_L_law_136 : decode c_L_law 136 = .ok (.iconst 1, 1) := by decide +kernel
theorem d_L_law_137 : decode c_L_law 137 = .ok (.iadd, 1) := by decide +kernel
theorem d_L_law_138 : decode c_L_law 138 = .ok (.iaload, 1) := by decide +kernel
theorem d_L_law_139 : decode c_L_law 139 = .ok (.aload_n 0, 1) := by decide +kernel
theorem d_L_law_140 : decode c_L_law 140 = .ok (.iload 4, 2) := by decide +kernel
theorem d_L_law_142 : decode c_L_law 142 = .ok (.iconst 2, 1) := by decide +kernel
theorem d_L_law_143 : decode c_L_law 143 = .ok (.iadd, 1) := by decide +kernel
theorem d_L_law_144 : decode c_L_law 144 = .ok (.iaload, 1) := by decide +kernel
theorem d_L_law_145 : decode c_L_law 145 = .ok (.aload_n 0, 1) := by decide +kernel
theorem d_L_law_146 : decode c_L_law 146 = .ok (.iload 4, 2) := by decide +kernel
theorem d_L_law_148 : decode c_L_law 148 = .ok (.iconst 3, 1) := by decide +kernel
theorem d_L_law_149 : decode c_L_law 149 = .ok (.iadd, 1) := by decide +kernel
theorem d_L_law_150 : decode c_L_law 150 = .ok (.iaload, 1) := by decide +kernel
theorem d_L_law_151 : decode c_L_law 151 = .ok (.i2l, 1) := by decide +kernel
theorem d_L_law_152 : decode c_L_law 152 = .ok (.bipush 32, 2) := by decide +kernel
theorem d_L_law_154 : decode c_L_law 154 = .ok (.lshl, 1) := by decide +kernel
theorem d_L_law_155 : decode c_L_law 155 = .ok (.aload_n 0, 1) := by decide +kernel
theorem d_L_law_156 : decode c_L_law 156 = .ok (.iload 4, 2) := by decide +kernel
theorem d_L_law_158 : decode c_L_law 158 = .ok (.iconst 4, 1) := by decide +kernel
theorem d_L_law_159 : decode c_L_law 159 = .ok (.iadd, 1) := by decide +kernel
theorem d_L_law_160 : decode c_L_law 160 = .ok (.iaload, 1) := by decide +kernel
theorem d_L_law_161 : decode c_L_law 161 = .ok (.i2l, 1) := by decide +kernel
theorem d_L_law_162 : decode c_L_law 162 = .ok (.ldc2_w 69, 3) := by decide +kernel
theorem d_L_law_165 : decode c_L_law 165 = .ok (.land, 1) := by decide +kernel
theorem d_L_law_166 : decode c_L_law 166 = .ok (.lor, 1) := by decide +kernel
theorem d_L_law_167 : decode c_L_law 167 = .ok (.aload_n 3, 1) := by decide +kernel
theorem d_L_law_168 : decode c_L_law 168 = .ok (.invokestatic 71, 3) := by decide +kernel
theorem d_L_law_171 : decode c_L_law 171 = .ok (.istore 5, 2) := by decide +kernel
theorem d_L_law_173 : decode c_L_law 173 = .ok (.aload_n 2, 1) := by decide +kernel
theorem d_L_law_174 : decode c_L_law 174 = .ok (.aload_n 0, 1) := by decide +kernel
theorem d_L_law_175 : decode c_L_law 175 = .ok (.iload 4, 2) := by decide +kernel
theorem d_L_law_177 : decode c_L_law 177 = .ok (.iconst 1, 1) := by decide +kernel
theorem d_L_law_178 : decode c_L_law 178 = .ok (.iadd, 1) := by decide +kernel
theorem d_L_law_179 : decode c_L_law 179 = .ok (.iaload, 1) := by decide +kernel
theorem d_L_law_180 : decode c_L_law 180 = .ok (.aload_n 0, 1) := by decide +kernel
theorem d_L_law_181 : decode c_L_law 181 = .ok (.iload 4, 2) := by decide +kernel
theorem d_L_law_183 : decode c_L_law 183 = .ok (.iconst 2, 1) := by decide +kernel
theorem d_L_law_184 : decode c_L_law 184 = .ok (.iadd, 1) := by decide +kernel
theorem d_L_law_185 : decode c_L_law 185 = .ok (.iaload, 1) := by decide +kernel
theorem d_L_law_186 : decode c_L_law 186 = .ok (.aload_n 0, 1) := by decide +kernel
theorem d_L_law_187 : decode c_L_law 187 = .ok (.iload 4, 2) := by decide +kernel
theorem d_L_law_189 : decode c_L_law 189 = .ok (.iconst 3, 1) := by decide +kernel
theorem d_L_law_190 : decode c_L_law 190 = .ok (.iadd, 1) := by decide +kernel
theorem d_L_law_191 : decode c_L_law 191 = .ok (.iaload, 1) := by decide +kernel
theorem d_L_law_192 : decode c_L_law 192 = .ok (.i2l, 1) := by decide +kernel
theorem d_L_law_193 : decode c_L_law 193 = .ok (.bipush 32, 2) := by decide +kernel
theorem d_L_law_195 : decode c_L_law 195 = .ok (.lshl, 1) := by decide +kernel
theorem d_L_law_196 : decode c_L_law 196 = .ok (.aload_n 0, 1) := by decide +kernel
theorem d_L_law_197 : decode c_L_law 197 = .ok (.iload 4, 2) := by decide +kernel
theorem d_L_law_199 : decode c_L_law 199 = .ok (.iconst 4, 1) := by decide +kernel
theorem d_L_law_200 : decode c_L_law 200 = .ok (.iadd, 1) := by decide +kernel
theorem d_L_law_201 : decode c_L_law 201 = .ok (.iaload, 1) := by decide +kernel
theorem d_L_law_202 : decode c_L_law 202 = .ok (.i2l, 1) := by decide +kernel
theorem d_L_law_203 : decode c_L_law 203 = .ok (.ldc2_w 69, 3) := by decide +kernel
theorem d_L_law_206 : decode c_L_law 206 = .ok (.land, 1) := by decide +kernel
theorem d_L_law_207 : decode c_L_law 207 = .ok (.lor, 1) := by decide +kernel
theorem d_L_law_208 : decode c_L_law 208 = .ok (.invokevirtual 74, 3) := by decide +kernel
theorem d_L_law_211 : decode c_L_law 211 = .ok (.istore 6, 2) := by decide +kernel
theorem d_L_law_213 : decode c_L_law 213 = .ok (.aload_n 2, 1) := by decide +kernel
theorem d_L_law_214 : decode c_L_law 214 = .ok (.invokevirtual 75, 3) := by decide +kernel
theorem d_L_law_217 : decode c_L_law 217 = .ok (.iload 5, 2) := by decide +kernel
theorem d_L_law_219 : decode c_L_law 219 = .ok (.if_icmp .eq 5, 3) := by decide +kernel
theorem d_L_law_222 : decode c_L_law 222 = .ok (.iconst 0, 1) := by decide +kernel
theorem d_L_law_223 : decode c_L_law 223 = .ok (.ireturn, 1) := by decide +kernel
theorem d_L_law_224 : decode c_L_law 224 = .ok (.iload 5, 2) := by decide +kernel
theorem d_L_law_226 : decode c_L_law 226 = .ok (.ifCond .ne 22, 3) := by decide +kernel
theorem d_L_law_229 : decode c_L_law 229 = .ok (.aload_n 3, 1) := by decide +kernel
theorem d_L_law_230 : decode c_L_law 230 = .ok (.iconst 0, 1) := by decide +kernel
theorem d_L_law_231 : decode c_L_law 231 = .ok (.laload, 1) := by decide +kernel
theorem d_L_law_232 : decode c_L_law 232 = .ok (.iload 6, 2) := by decide +kernel
theorem d_L_law_234 : decode c_L_law 234 = .ok (.ifCond .eq 7, 3) := by decide +kernel
theorem d_L_law_237 : decode c_L_law 237 = .ok (.lconst 1, 1) := by decide +kernel
theorem d_L_law_238 : decode c_L_law 238 = .ok (.goto 4, 3) := by decide +kernel
theorem d_L_law_241 : decode c_L_law 241 = .ok (.lconst 0, 1) := by decide +kernel
theorem d_L_law_242 : decode c_L_law 242 = .ok (.lcmp, 1) := by decide +kernel
theorem d_L_law_243 : decode c_L_law 243 = .ok (.ifCond .eq 5, 3) := by decide +kernel
theorem d_L_law_246 : decode c_L_law 246 = .ok (.iconst 0, 1) := by decide +kernel
theorem d_L_law_247 : decode c_L_law 247 = .ok (.ireturn, 1) := by decide +kernel
theorem d_L_law_248 : decode c_L_law 248 = .ok (.goto 1090, 3) := by decide +kernel
theorem d_L_law_251 : decode c_L_law 251 = .ok (.aload_n 1, 1) := by decide +kernel
theorem d_L_law_252 : decode c_L_law 252 = .ok (.aload_n 0, 1) := by decide +kernel
theorem d_L_law_253 : decode c_L_law 253 = .ok (.iload 4, 2) := by decide +kernel
theorem d_L_law_255 : decode c_L_law 255 = .ok (.iconst 1, 1) := by decide +kernel
theorem d_L_law_256 : decode c_L_law 256 = .ok (.iadd, 1) := by decide +kernel
theorem d_L_law_257 : decode c_L_law 257 = .ok (.iaload, 1) := by decide +kernel
theorem d_L_law_258 : decode c_L_law 258 = .ok (.aload_n 0, 1) := by decide +kernel
theorem d_L_law_259 : decode c_L_law 259 = .ok (.iload 4, 2) := by decide +kernel
theorem d_L_law_261 : decode c_L_law 261 = .ok (.iconst 2, 1) := by decide +kernel
theorem d_L_law_262 : decode c_L_law 262 = .ok (.iadd, 1) := by decide +kernel
theorem d_L_law_263 : decode c_L_law 263 = .ok (.iaload, 1) := by decide +kernel
theorem d_L_law_264 : decode c_L_law 264 = .ok (.aload_n 3, 1) := by decide +kernel
theorem d_L_law_265 : decode c_L_law 265 = .ok (.invokestatic 78, 3) := by decide +kernel
theorem d_L_law_268 : decode c_L_law 268 = .ok (.istore 5, 2) := by decide +kernel
theorem d_L_law_270 : decode c_L_law 270 = .ok (.aload_n 2, 1) := by decide +kernel
theorem d_L_law_271 : decode c_L_law 271 = .ok (.aload_n 0, 1) := by decide +kernel
theorem d_L_law_272 : decode c_L_law 272 = .ok (.iload 4, 2) := by decide +kernel
theorem d_L_law_274 : decode c_L_law 274 = .ok (.iconst 1, 1) := by decide +kernel
theorem d_L_law_275 : decode c_L_law 275 = .ok (.iadd, 1) := by decide +kernel
theorem d_L_law_276 : decode c_L_law 276 = .ok (.iaload, 1) := by decide +kernel
theorem d_L_law_277 : decode c_L_law 277 = .ok (.aload_n 0, 1) := by decide +kernel
theorem d_L_law_278 : decode c_L_law 278 = .ok (.iload 4, 2) := by decide +kernel
theorem d_L_law_280 : decode c_L_law 280 = .ok (.iconst 2, 1) := by decide +kernel
theorem d_L_law_281 : decode c_L_law 281 = .ok (.iadd, 1) := by decide +kernel
theorem d_L_law_282 : decode c_L_law 282 = .ok (.iaload, 1) := by decide +kernel
theorem d_L_law_283 : decode c_L_law 283 = .ok (.invokevirtual 81, 3) := by decide +kernel
theorem d_L_law_286 : decode c_L_law 286 = .ok (.istore 6, 2) := by decide +kernel
theorem d_L_law_288 : decode c_L_law 288 = .ok (.aload_n 2, 1) := by decide +kernel
theorem d_L_law_289 : decode c_L_law 289 = .ok (.invokevirtual 75, 3) := by decide +kernel
theorem d_L_law_292 : decode c_L_law 292 = .ok (.iload 5, 2) := by decide +kernel
theorem d_L_law_294 : decode c_L_law 294 = .ok (.if_icmp .eq 5, 3) := by decide +kernel
theorem d_L_law_297 : decode c_L_law 297 = .ok (.iconst 0, 1) := by decide +kernel
theorem d_L_law_298 : decode c_L_law 298 = .ok (.ireturn, 1) := by decide +kernel
theorem d_L_law_299 : decode c_L_law 299 = .ok (.iload 5, 2) := by decide +kernel
theorem d_L_law_301 : decode c_L_law 301 = .ok (.ifCond .ne 15, 3) := by decide +kernel
theorem d_L_law_304 : decode c_L_law 304 = .ok (.aload_n 3, 1) := by decide +kernel
theorem d_L_law_305 : decode c_L_law 305 = .ok (.iconst 0, 1) := by decide +kernel
theorem d_L_law_306 : decode c_L_law 306 = .ok (.laload, 1) := by decide +kernel
theorem d_L_law_307 : decode c_L_law 307 = .ok (.iload 6, 2) := by decide +kernel
theorem d_L_law_309 : decode c_L_law 309 = .ok (.i2l, 1) := by decide +kernel
theorem d_L_law_310 : decode c_L_law 310 = .ok (.lcmp, 1) := by decide +kernel
theorem d_L_law_311 : decode c_L_law 311 = .ok (.ifCond .eq 5, 3) := by decide +kernel
theorem d_L_law_314 : decode c_L_law 314 = .ok (.iconst 0, 1) := by decide +kernel
theorem d_L_law_315 : decode c_L_law 315 = .ok (.ireturn, 1) := by decide +kernel
theorem d_L_law_316 : decode c_L_law 316 = .ok (.goto 1022, 3) := by decide +kernel
theorem d_L_law_319 : decode c_L_law 319 = .ok (.aload_n 1, 1) := by decide +kernel
theorem d_L_law_320 : decode c_L_law 320 = .ok (.aload_n 0, 1) := by decide +kernel
theorem d_L_law_321 : decode c_L_law 321 = .ok (.iload 4, 2) := by decide +kernel
theorem d_L_law_323 : decode c_L_law 323 = .ok (.iconst 1, 1) := by decide +kernel
theorem d_L_law_324 : decode c_L_law 324 = .ok (.iadd, 1) := by decide +kernel
theorem d_L_law_325 : decode c_L_law 325 = .ok (.iaload, 1) := by decide +kernel
theorem d_L_law_326 : decode c_L_law 326 = .ok (.aload_n 0, 1) := by decide +kernel
theorem d_L_law_327 : decode c_L_law 327 = .ok (.iload 4, 2) := by decide +kernel
theorem d_L_law_329 : decode c_L_law 329 = .ok (.iconst 2, 1) := by decide +kernel
theorem d_L_law_330 : decode c_L_law 330 = .ok (.iadd, 1) := by decide +kernel
theorem d_L_law_331 : decode c_L_law 331 = .ok (.iaload, 1) := by decide +kernel
theorem d_L_law_332 : decode c_L_law 332 = .ok (.i2l, 1) := by decide +kernel
theorem d_L_law_333 : decode c_L_law 333 = .ok (.bipush 32, 2) := by decide +kernel
theorem d_L_law_335 : decode c_L_law 335 = .ok (.lshl, 1) := by decide +kernel
theorem d_L_law_336 : decode c_L_law 336 = .ok (.aload_n 0, 1) := by decide +kernel
theorem d_L_law_337 : decode c_L_law 337 = .ok (.iload 4, 2) := by decide +kernel
theorem d_L_law_339 : decode c_L_law 339 = .ok (.iconst 3, 1) := by decide +kernel
theorem d_L_law_340 : decode c_L_law 340 = .ok (.iadd, 1) := by decide +kernel
theorem d_L_law_341 : decode c_L_law 341 = .ok (.iaload, 1) := by decide +kernel
theorem d_L_law_342 : decode c_L_law 342 = .ok (.i2l, 1) := by decide +kernel
theorem d_L_law_343 : decode c_L_law 343 = .ok (.ldc2_w 69, 3) := by decide +kernel
theorem d_L_law_346 : decode c_L_law 346 = .ok (.land, 1) := by decide +kernel
theorem d_L_law_347 : decode c_L_law 347 = .ok (.lor, 1) := by decide +kernel
theorem d_L_law_348 : decode c_L_law 348 = .ok (.invokestatic 82, 3) := by decide +kernel
theorem d_L_law_351 : decode c_L_law 351 = .ok (.istore 5, 2) := by decide +kernel
theorem d_L_law_353 : decode c_L_law 353 = .ok (.aload_n 2, 1) := by decide +kernel
theorem d_L_law_354 : decode c_L_law 354 = .ok (.aload_n 0, 1) := by decide +kernel
theorem d_L_law_355 : decode c_L_law 355 = .ok (.iload 4, 2) := by decide +kernel
theorem d_L_law_357 : decode c_L_law 357 = .ok (.iconst 1, 1) := by decide +kernel
theorem d_L_law_358 : decode c_L_law 358 = .ok (.iadd, 1) := by decide +kernel
theorem d_L_law_359 : decode c_L_law 359 = .ok (.iaload, 1) := by decide +kernel
theorem d_L_law_360 : decode c_L_law 360 = .ok (.aload_n 0, 1) := by decide +kernel
theorem d_L_law_361 : decode c_L_law 361 = .ok (.iload 4, 2) := by decide +kernel
theorem d_L_law_363 : decode c_L_law 363 = .ok (.iconst 2, 1) := by decide +kernel
theorem d_L_law_364 : decode c_L_law 364 = .ok (.iadd, 1) := by decide +kernel
theorem d_L_law_365 : decode c_L_law 365 = .ok (.iaload, 1) := by decide +kernel
theorem d_L_law_366 : decode c_L_law 366 = .ok (.i2l, 1) := by decide +kernel
theorem d_L_law_367 : decode c_L_law 367 = .ok (.bipush 32, 2) := by decide +kernel
theorem d_L_law_369 : decode c_L_law 369 = .ok (.lshl, 1) := by decide +kernel
theorem d_L_law_370 : decode c_L_law 370 = .ok (.aload_n 0, 1) := by decide +kernel
theorem d_L_law_371 : decode c_L_law 371 = .ok (.iload 4, 2) := by decide +kernel
theorem d_L_law_373 : decode c_L_law 373 = .ok (.iconst 3, 1) := by decide +kernel
theorem d_L_law_374 : decode c_L_law 374 = .ok (.iadd, 1) := by decide +kernel
theorem d_L_law_375 : decode c_L_law 375 = .ok (.iaload, 1) := by decide +kernel
theorem d_L_law_376 : decode c_L_law 376 = .ok (.i2l, 1) := by decide +kernel
theorem d_L_law_377 : decode c_L_law 377 = .ok (.ldc2_w 69, 3) := by decide +kernel
theorem d_L_law_380 : decode c_L_law 380 = .ok (.land, 1) := by decide +kernel
theorem d_L_law_381 : decode c_L_law 381 = .ok (.lor, 1) := by decide +kernel
theorem d_L_law_382 : decode c_L_law 382 = .ok (.invokevirtual 85, 3) := by decide +kernel
theorem d_L_law_385 : decode c_L_law 385 = .ok (.aload_n 2, 1) := by decide +kernel
theorem d_L_law_386 : decode c_L_law 386 = .ok (.invokevirtual 75, 3) := by decide +kernel
theorem d_L_law_389 : decode c_L_law 389 = .ok (.iload 5, 2) := by decide +kernel
theorem d_L_law_391 : decode c_L_law 391 = .ok (.if_icmp .eq 5, 3) := by decide +kernel
theorem d_L_law_394 : decode c_L_law 394 = .ok (.iconst 0, 1) := by decide +kernel
theorem d_L_law_395 : decode c_L_law 395 = .ok (.ireturn, 1) := by decide +kernel
theorem d_L_law_396 : decode c_L_law 396 = .ok (.goto 942, 3) := by decide +kernel
theorem d_L_law_399 : decode c_L_law 399 = .ok (.aload_n 1, 1) := by decide +kernel
theorem d_L_law_400 : decode c_L_law 400 = .ok (.aload_n 0, 1) := by decide +kernel
theorem d_L_law_401 : decode c_L_law 401 = .ok (.iload 4, 2) := by decide +kernel
theorem d_L_law_403 : decode c_L_law 403 = .ok (.iconst 1, 1) := by decide +kernel
theorem d_L_law_404 : decode c_L_law 404 = .ok (.iadd, 1) := by decide +kernel
theorem d_L_law_405 : decode c_L_law 405 = .ok (.iaload, 1) := by decide +kernel
theorem d_L_law_406 : decode c_L_law 406 = .ok (.invokevirtual 86, 3) := by decide +kernel
theorem d_L_law_409 : decode c_L_law 409 = .ok (.aload_n 2, 1) := by decide +kernel
theorem d_L_law_410 : decode c_L_law 410 = .ok (.aload_n 0, 1) := by decide +kernel
theorem d_L_law_411 : decode c_L_law 411 = .ok (.iload 4, 2) := by decide +kernel
theorem d_L_law_413 : decode c_L_law 413 = .ok (.iconst 1, 1) := by decide +kernel
theorem d_L_law_414 : decode c_L_law 414 = .ok (.iadd, 1) := by decide +kernel
theorem d_L_law_415 : decode c_L_law 415 = .ok (.iaload, 1) := by decide +kernel
theorem d_L_law_416 : decode c_L_law 416 = .ok (.invokevirtual 89, 3) := by decide +kernel
theorem d_L_law_419 : decode c_L_law 419 = .ok (.if_icmp .eq 919, 3) := by decide +kernel
theorem d_L_law_422 : decode c_L_law 422 = .ok (.iconst 0, 1) := by decide +kernel
theorem d_L_law_423 : decode c_L_law 423 = .ok (.ireturn, 1) := by decide +kernel
theorem d_L_law_424 : decode c_L_law 424 = .ok (.aload_n 1, 1) := by decide +kernel
theorem d_L_law_425 : decode c_L_law 425 = .ok (.aload_n 3, 1) := by decide +kernel
theorem d_L_law_426 : decode c_L_law 426 = .ok (.invokestatic 90, 3) := by decide +kernel
theorem d_L_law_429 : decode c_L_law 429 = .ok (.istore 5, 2) := by decide +kernel
theorem d_L_law_431 : decode c_L_law 431 = .ok (.aload_n 2, 1) := by decide +kernel
theorem d_L_law_432 : decode c_L_law 432 = .ok (.invokevirtual 93, 3) := by decide +kernel
theorem d_L_law_435 : decode c_L_law 435 = .ok (.istore 6, 2) := by decide +kernel
theorem d_L_law_437 : decode c_L_law 437 = .ok (.aload_n 2, 1) := by decide +kernel
theorem d_L_law_438 : decode c_L_law 438 = .ok (.invokevirtual 75, 3) := by decide +kernel
theorem d_L_law_441 : decode c_L_law 441 = .ok (.iload 5, 2) := by decide +kernel
theorem d_L_law_443 : decode c_L_law 443 = .ok (.if_icmp .eq 5, 3) := by decide +kernel
theorem d_L_law_446 : decode c_L_law 446 = .ok (.iconst 0, 1) := by decide +kernel
theorem d_L_law_447 : decode c_L_law 447 = .ok (.ireturn, 1) := by decide +kernel
theorem d_L_law_448 : decode c_L_law 448 = .ok (.iload 5, 2) := by decide +kernel
theorem d_L_law_450 : decode c_L_law 450 = .ok (.ifCond .ne 15, 3) := by decide +kernel
theorem d_L_law_453 : decode c_L_law 453 = .ok (.aload_n 3, 1) := by decide +kernel
theorem d_L_law_454 : decode c_L_law 454 = .ok (.iconst 0, 1) := by decide +kernel
theorem d_L_law_455 : decode c_L_law 455 = .ok (.laload, 1) := by decide +kernel
theorem d_L_law_456 : decode c_L_law 456 = .ok (.iload 6, 2) := by decide +kernel
theorem d_L_law_458 : decode c_L_law 458 = .ok (.i2l, 1) := by decide +kernel
theorem d_L_law_459 : decode c_L_law 459 = .ok (.lcmp, 1) := by decide +kernel
theorem d_L_law_460 : decode c_L_law 460 = .ok (.ifCond .eq 5, 3) := by decide +kernel
theorem d_L_law_463 : decode c_L_law 463 = .ok (.iconst 0, 1) := by decide +kernel
theorem d_L_law_464 : decode c_L_law 464 = .ok (.ireturn, 1) := by decide +kernel
theorem d_L_law_465 : decode c_L_law 465 = .ok (.goto 873, 3) := by decide +kernel
theorem d_L_law_468 : decode c_L_law 468 = .ok (.aload_n 1, 1) := by decide +kernel
theorem d_L_law_469 : decode c_L_law 469 = .ok (.aload_n 0, 1) := by decide +kernel
theorem d_L_law_470 : decode c_L_law 470 = .ok (.iload 4, 2) := by decide +kernel
theorem d_L_law_472 : decode c_L_law 472 = .ok (.iconst 1, 1) := by decide +kernel
theorem d_L_law_473 : decode c_L_law 473 = .ok (.iadd, 1) := by decide +kernel
theorem d_L_law_474 : decode c_L_law 474 = .ok (.iaload, 1) := by decide +kernel
theorem d_L_law_475 : decode c_L_law 475 = .ok (.aload_n 3, 1) := by decide +kernel
theorem d_L_law_476 : decode c_L_law 476 = .ok (.invokestatic 94, 3) := by decide +kernel
theorem d_L_law_479 : decode c_L_law 479 = .ok (.istore 5, 2) := by decide +kernel
theorem d_L_law_481 : decode c_L_law 481 = .ok (.aload_n 2, 1) := by decide +kernel
theorem d_L_law_482 : decode c_L_law 482 = .ok (.aload_n 0, 1) := by decide +kernel
theorem d_L_law_483 : decode c_L_law 483 = .ok (.iload 4, 2) := by decide +kernel
theorem d_L_law_485 : decode c_L_law 485 = .ok (.iconst 1, 1) := by decide +kernel
theorem d_L_law_486 : decode c_L_law 486 = .ok (.iadd, 1) := by decide +kernel
theorem d_L_law_487 : decode c_L_law 487 = .ok (.iaload, 1) := by decide +kernel
theorem d_L_law_488 : decode c_L_law 488 = .ok (.invokevirtual 97, 3) := by decide +kernel
theorem d_L_law_491 : decode c_L_law 491 = .ok (.istore 6, 2) := by decide +kernel
theorem d_L_law_493 : decode c_L_law 493 = .ok (.aload_n 2, 1) := by decide +kernel
theorem d_L_law_494 : decode c_L_law 494 = .ok (.invokevirtual 75, 3) := by decide +kernel
theorem d_L_law_497 : decode c_L_law 497 = .ok (.iload 5, 2) := by decide +kernel
theorem d_L_law_499 : decode c_L_law 499 = .ok (.if_icmp .eq 5, 3) := by decide +kernel
theorem d_L_law_502 : decode c_L_law 502 = .ok (.iconst 0, 1) := by decide +kernel
theorem d_L_law_503 : decode c_L_law 503 = .ok (.ireturn, 1) := by decide +kernel
theorem d_L_law_504 : decode c_L_law 504 = .ok (.iload 5, 2) := by decide +kernel
theorem d_L_law_506 : decode c_L_law 506 = .ok (.ifCond .ne 15, 3) := by decide +kernel
theorem d_L_law_509 : decode c_L_law 509 = .ok (.aload_n 3, 1) := by decide +kernel
theorem d_L_law_510 : decode c_L_law 510 = .ok (.iconst 0, 1) := by decide +kernel
theorem d_L_law_511 : decode c_L_law 511 = .ok (.laload, 1) := by decide +kernel
theorem d_L_law_512 : decode c_L_law 512 = .ok (.iload 6, 2) := by decide +kernel
theorem d_L_law_514 : decode c_L_law 514 = .ok (.i2l, 1) := by decide +kernel
theorem d_L_law_515 : decode c_L_law 515 = .ok (.lcmp, 1) := by decide +kernel
theorem d_L_law_516 : decode c_L_law 516 = .ok (.ifCond .eq 5, 3) := by decide +kernel
theorem d_L_law_519 : decode c_L_law 519 = .ok (.iconst 0, 1) := by decide +kernel
theorem d_L_law_520 : decode c_L_law 520 = .ok (.ireturn, 1) := by decide +kernel
theorem d_L_law_521 : decode c_L_law 521 = .ok (.goto 817, 3) := by decide +kernel
theorem d_L_law_524 : decode c_L_law 524 = .ok (.aload_n 1, 1) := by decide +kernel
theorem d_L_law_525 : decode c_L_law 525 = .ok (.aload_n 0, 1) := by decide +kernel
theorem d_L_law_526 : decode c_L_law 526 = .ok (.iload 4, 2) := by decide +kernel
theorem d_L_law_528 : decode c_L_law 528 = .ok (.iconst 1, 1) := by decide +kernel
theorem d_L_law_529 : decode c_L_law 529 = .ok (.iadd, 1) := by decide +kernel
theorem d_L_law_530 : decode c_L_law 530 = .ok (.iaload, 1) := by decide +kernel
theorem d_L_law_531 : decode c_L_law 531 = .ok (.ifCond .eq 7, 3) := by decide +kernel
theorem d_L_law_534 : decode c_L_law 534 = .ok (.iconst 1, 1) := by decide +kernel
theorem d_L_law_535 : decode c_L_law 535 = .ok (.goto 4, 3) := by decide +kernel
theorem d_L_law_538 : decode c_L_law 538 = .ok (.iconst 0, 1) := by decide +kernel
theorem d_L_law_539 : decode c_L_law 539 = .ok (.aload_n 0, 1) := by decide +kernel
theorem d_L_law_540 : decode c_L_law 540 = .ok (.iload 4, 2) := by decide +kernel
theorem d_L_law_542 : decode c_L_law 542 = .ok (.iconst 2, 1) := by decide +kernel
theorem d_L_law_543 : decode c_L_law 543 = .ok (.iadd, 1) := by decide +kernel
theorem d_L_law_544 : decode c_L_law 544 = .ok (.iaload, 1) := by decide +kernel
theorem d_L_law_545 : decode c_L_law 545 = .ok (.i2l, 1) := by decide +kernel
theorem d_L_law_546 : decode c_L_law 546 = .ok (.bipush 32, 2) := by decide +kernel
theorem d_L_law_548 : decode c_L_law 548 = .ok (.lshl, 1) := by decide +kernel
theorem d_L_law_549 : decode c_L_law 549 = .ok (.aload_n 0, 1) := by decide +kernel
theorem d_L_law_550 : decode c_L_law 550 = .ok (.iload 4, 2) := by decide +kernel
theorem d_L_law_552 : decode c_L_law 552 = .ok (.iconst 3, 1) := by decide +kernel
theorem d_L_law_553 : decode c_L_law 553 = .ok (.iadd, 1) := by decide +kernel
theorem d_L_law_554 : decode c_L_law 554 = .ok (.iaload, 1) := by decide +kernel
theorem d_L_law_555 : decode c_L_law 555 = .ok (.i2l, 1) := by decide +kernel
theorem d_L_law_556 : decode c_L_law 556 = .ok (.ldc2_w 69, 3) := by decide +kernel
theorem d_L_law_559 : decode c_L_law 559 = .ok (.land, 1) := by decide +kernel
theorem d_L_law_560 : decode c_L_law 560 = .ok (.lor, 1) := by decide +kernel
theorem d_L_law_561 : decode c_L_law 561 = .ok (.aload_n 3, 1) := by decide +kernel
theorem d_L_law_562 : decode c_L_law 562 = .ok (.invokestatic 98, 3) := by decide +kernel
theorem d_L_law_565 : decode c_L_law 565 = .ok (.istore 5, 2) := by decide +kernel
theorem d_L_law_567 : decode c_L_law 567 = .ok (.aload_n 2, 1) := by decide +kernel
theorem d_L_law_568 : decode c_L_law 568 = .ok (.aload_n 0, 1) := by decide +kernel
theorem d_L_law_569 : decode c_L_law 569 = .ok (.iload 4, 2) := by decide +kernel
theorem d_L_law_571 : decode c_L_law 571 = .ok (.iconst 1, 1) := by decide +kernel
theorem d_L_law_572 : decode c_L_law 572 = .ok (.iadd, 1) := by decide +kernel
theorem d_L_law_573 : decode c_L_law 573 = .ok (.iaload, 1) := by decide +kernel
theorem d_L_law_574 : decode c_L_law 574 = .ok (.ifCond .eq 7, 3) := by decide +kernel
theorem d_L_law_577 : decode c_L_law 577 = .ok (.iconst 1, 1) := by decide +kernel
theorem d_L_law_578 : decode c_L_law 578 = .ok (.goto 4, 3) := by decide +kernel
theorem d_L_law_581 : decode c_L_law 581 = .ok (.iconst 0, 1) := by decide +kernel
theorem d_L_law_582 : decode c_L_law 582 = .ok (.aload_n 0, 1) := by decide +kernel
theorem d_L_law_583 : decode c_L_law 583 = .ok (.iload 4, 2) := by decide +kernel
theorem d_L_law_585 : decode c_L_law 585 = .ok (.iconst 2, 1) := by decide +kernel
theorem d_L_law_586 : decode c_L_law 586 = .ok (.iadd, 1) := by decide +kernel
theorem d_L_law_587 : decode c_L_law 587 = .ok (.iaload, 1) := by decide +kernel
theorem d_L_law_588 : decode c_L_law 588 = .ok (.i2l, 1) := by decide +kernel
theorem d_L_law_589 : decode c_L_law 589 = .ok (.bipush 32, 2) := by decide +kernel
theorem d_L_law_591 : decode c_L_law 591 = .ok (.lshl, 1) := by decide +kernel
theorem d_L_law_592 : decode c_L_law 592 = .ok (.aload_n 0, 1) := by decide +kernel
theorem d_L_law_593 : decode c_L_law 593 = .ok (.iload 4, 2) := by decide +kernel
theorem d_L_law_595 : decode c_L_law 595 = .ok (.iconst 3, 1) := by decide +kernel
theorem d_L_law_596 : decode c_L_law 596 = .ok (.iadd, 1) := by decide +kernel
theorem d_L_law_597 : decode c_L_law 597 = .ok (.iaload, 1) := by decide +kernel
theorem d_L_law_598 : decode c_L_law 598 = .ok (.i2l, 1) := by decide +kernel
theorem d_L_law_599 : decode c_L_law 599 = .ok (.ldc2_w 69, 3) := by decide +kernel
theorem d_L_law_602 : decode c_L_law 602 = .ok (.land, 1) := by decide +kernel
theorem d_L_law_603 : decode c_L_law 603 = .ok (.lor, 1) := by decide +kernel
theorem d_L_law_604 : decode c_L_law 604 = .ok (.invokevirtual 101, 3) := by decide +kernel
theorem d_L_law_607 : decode c_L_law 607 = .ok (.istore 6, 2) := by decide +kernel
theorem d_L_law_609 : decode c_L_law 609 = .ok (.aload_n 2, 1) := by decide +kernel
theorem d_L_law_610 : decode c_L_law 610 = .ok (.invokevirtual 75, 3) := by decide +kernel
theorem d_L_law_613 : decode c_L_law 613 = .ok (.iload 5, 2) := by decide +kernel
theorem d_L_law_615 : decode c_L_law 615 = .ok (.if_icmp .eq 5, 3) := by decide +kernel
theorem d_L_law_618 : decode c_L_law 618 = .ok (.iconst 0, 1) := by decide +kernel
theorem d_L_law_619 : decode c_L_law 619 = .ok (.ireturn, 1) := by decide +kernel
theorem d_L_law_620 : decode c_L_law 620 = .ok (.iload 5, 2) := by decide +kernel
theorem d_L_law_622 : decode c_L_law 622 = .ok (.ifCond .ne 15, 3) := by decide +kernel
theorem d_L_law_625 : decode c_L_law 625 = .ok (.aload_n 3, 1) := by decide +kernel
theorem d_L_law_626 : decode c_L_law 626 = .ok (.iconst 0, 1) := by decide +kernel
theorem d_L_law_627 : decode c_L_law 627 = .ok (.laload, 1) := by decide +kernel
theorem d_L_law_628 : decode c_L_law 628 = .ok (.iload 6, 2) := by decide +kernel
theorem d_L_law_630 : decode c_L_law 630 = .ok (.i2l, 1) := by decide +kernel
theorem d_L_law_631 : decode c_L_law 631 = .ok (.lcmp, 1) := by decide +kernel
theorem d_L_law_632 : decode c_L_law 632 = .ok (.ifCond .eq 5, 3) := by decide +kernel
theorem d_L_law_635 : decode c_L_law 635 = .ok (.iconst 0, 1) := by decide +kernel
theorem d_L_law_636 : decode c_L_law 636 = .ok (.ireturn, 1) := by decide +kernel
theorem d_L_law_637 : decode c_L_law 637 = .ok (.goto 701, 3) := by decide +kernel
theorem d_L_law_640 : decode c_L_law 640 = .ok (.aload_n 1, 1) := by decide +kernel
theorem d_L_law_641 : decode c_L_law 641 = .ok (.aload_n 0, 1) := by decide +kernel
theorem d_L_law_642 : decode c_L_law 642 = .ok (.iload 4, 2) := by decide +kernel
theorem d_L_law_644 : decode c_L_law 644 = .ok (.iconst 1, 1) := by decide +kernel
theorem d_L_law_645 : decode c_L_law 645 = .ok (.iadd, 1) := by decide +kernel
theorem d_L_law_646 : decode c_L_law 646 = .ok (.iaload, 1) := by decide +kernel
theorem d_L_law_647 : decode c_L_law 647 = .ok (.ifCond .eq 7, 3) := by decide +kernel
theorem d_L_law_650 : decode c_L_law 650 = .ok (.iconst 1, 1) := by decide +kernel
theorem d_L_law_651 : decode c_L_law 651 = .ok (.goto 4, 3) := by decide +kernel
theorem d_L_law_654 : decode c_L_law 654 = .ok (.iconst 0, 1) := by decide +kernel
theorem d_L_law_655 : decode c_L_law 655 = .ok (.aload_n 0, 1) := by decide +kernel
theorem d_L_law_656 : decode c_L_law 656 = .ok (.iload 4, 2) := by decide +kernel
theorem d_L_law_658 : decode c_L_law 658 = .ok (.iconst 2, 1) := by decide +kernel
theorem d_L_law_659 : decode c_L_law 659 = .ok (.iadd, 1) := by decide +kernel
theorem d_L_law_660 : decode c_L_law 660 = .ok (.iaload, 1) := by decide +kernel
theorem d_L_law_661 : decode c_L_law 661 = .ok (.i2l, 1) := by decide +kernel
theorem d_L_law_662 : decode c_L_law 662 = .ok (.bipush 32, 2) := by decide +kernel
theorem d_L_law_664 : decode c_L_law 664 = .ok (.lshl, 1) := by decide +kernel
theorem d_L_law_665 : decode c_L_law 665 = .ok (.aload_n 0, 1) := by decide +kernel
theorem d_L_law_666 : decode c_L_law 666 = .ok (.iload 4, 2) := by decide +kernel
theorem d_L_law_668 : decode c_L_law 668 = .ok (.iconst 3, 1) := by decide +kernel
theorem d_L_law_669 : decode c_L_law 669 = .ok (.iadd, 1) := by decide +kernel
theorem d_L_law_670 : decode c_L_law 670 = .ok (.iaload, 1) := by decide +kernel
theorem d_L_law_671 : decode c_L_law 671 = .ok (.i2l, 1) := by decide +kernel
theorem d_L_law_672 : decode c_L_law 672 = .ok (.ldc2_w 69, 3) := by decide +kernel
theorem d_L_law_675 : decode c_L_law 675 = .ok (.land, 1) := by decide +kernel
theorem d_L_law_676 : decode c_L_law 676 = .ok (.lor, 1) := by decide +kernel
theorem d_L_law_677 : decode c_L_law 677 = .ok (.aload_n 3, 1) := by decide +kernel
theorem d_L_law_678 : decode c_L_law 678 = .ok (.invokestatic 102, 3) := by decide +kernel
theorem d_L_law_681 : decode c_L_law 681 = .ok (.istore 5, 2) := by decide +kernel
theorem d_L_law_683 : decode c_L_law 683 = .ok (.aload_n 2, 1) := by decide +kernel
theorem d_L_law_684 : decode c_L_law 684 = .ok (.aload_n 0, 1) := by decide +kernel
theorem d_L_law_685 : decode c_L_law 685 = .ok (.iload 4, 2) := by decide +kernel
theorem d_L_law_687 : decode c_L_law 687 = .ok (.iconst 1, 1) := by decide +kernel
theorem d_L_law_688 : decode c_L_law 688 = .ok (.iadd, 1) := by decide +kernel
theorem d_L_law_689 : decode c_L_law 689 = .ok (.iaload, 1) := by decide +kernel
theorem d_L_law_690 : decode c_L_law 690 = .ok (.ifCond .eq 7, 3) := by decide +kernel
theorem d_L_law_693 : decode c_L_law 693 = .ok (.iconst 1, 1) := by decide +kernel
theorem d_L_law_694 : decode c_L_law 694 = .ok (.goto 4, 3) := by decide +kernel
theorem d_L_law_697 : decode c_L_law 697 = .ok (.iconst 0, 1) := by decide +kernel
theorem d_L_law_698 : decode c_L_law 698 = .ok (.aload_n 0, 1) := by decide +kernel
theorem d_L_law_699 : decode c_L_law 699 = .ok (.iload 4, 2) := by decide +kernel
theorem d_L_law_701 : decode c_L_law 701 = .ok (.iconst 2, 1) := by decide +kernel
theorem d_L_law_702 : decode c_L_law 702 = .ok (.iadd, 1) := by decide +kernel
theorem d_L_law_703 : decode c_L_law 703 = .ok (.iaload, 1) := by decide +kernel
theorem d_L_law_704 : decode c_L_law 704 = .ok (.i2l, 1) := by decide +kernel
theorem d_L_law_705 : decode c_L_law 705 = .ok (.bipush 32, 2) := by decide +kernel
theorem d_L_law_707 : decode c_L_law 707 = .ok (.lshl, 1) := by decide +kernel
theorem d_L_law_708 : decode c_L_law 708 = .ok (.aload_n 0, 1) := by decide +kernel
theorem d_L_law_709 : decode c_L_law 709 = .ok (.iload 4, 2) := by decide +kernel
theorem d_L_law_711 : decode c_L_law 711 = .ok (.iconst 3, 1) := by decide +kernel
theorem d_L_law_712 : decode c_L_law 712 = .ok (.iadd, 1) := by decide +kernel
theorem d_L_law_713 : decode c_L_law 713 = .ok (.iaload, 1) := by decide +kernel
theorem d_L_law_714 : decode c_L_law 714 = .ok (.i2l, 1) := by decide +kernel
theorem d_L_law_715 : decode c_L_law 715 = .ok (.ldc2_w 69, 3) := by decide +kernel
theorem d_L_law_718 : decode c_L_law 718 = .ok (.land, 1) := by decide +kernel
theorem d_L_law_719 : decode c_L_law 719 = .ok (.lor, 1) := by decide +kernel
theorem d_L_law_720 : decode c_L_law 720 = .ok (.invokevirtual 104, 3) := by decide +kernel
theorem d_L_law_723 : decode c_L_law 723 = .ok (.istore 6, 2) := by decide +kernel
theorem d_L_law_725 : decode c_L_law 725 = .ok (.aload_n 2, 1) := by decide +kernel
theorem d_L_law_726 : decode c_L_law 726 = .ok (.invokevirtual 75, 3) := by decide +kernel
theorem d_L_law_729 : decode c_L_law 729 = .ok (.iload 5, 2) := by decide +kernel
theorem d_L_law_731 : decode c_L_law 731 = .ok (.if_icmp .eq 5, 3) := by decide +kernel
theorem d_L_law_734 : decode c_L_law 734 = .ok (.iconst 0, 1) := by decide +kernel
theorem d_L_law_735 : decode c_L_law 735 = .ok (.ireturn, 1) := by decide +kernel
theorem d_L_law_736 : decode c_L_law 736 = .ok (.iload 5, 2) := by decide +kernel
theorem d_L_law_738 : decode c_L_law 738 = .ok (.ifCond .ne 22, 3) := by decide +kernel
theorem d_L_law_741 : decode c_L_law 741 = .ok (.aload_n 3, 1) := by decide +kernel
theorem d_L_law_742 : decode c_L_law 742 = .ok (.iconst 0, 1) := by decide +kernel
theorem d_L_law_743 : decode c_L_law 743 = .ok (.laload, 1) := by decide +kernel
theorem d_L_law_744 : decode c_L_law 744 = .ok (.iload 6, 2) := by decide +kernel
theorem d_L_law_746 : decode c_L_law 746 = .ok (.ifCond .eq 7, 3) := by decide +kernel
theorem d_L_law_749 : decode c_L_law 749 = .ok (.lconst 1, 1) := by decide +kernel
theorem d_L_law_750 : decode c_L_law 750 = .ok (.goto 4, 3) := by decide +kernel
theorem d_L_law_753 : decode c_L_law 753 = .ok (.lconst 0, 1) := by decide +kernel
theorem d_L_law_754 : decode c_L_law 754 = .ok (.lcmp, 1) := by decide +kernel
theorem d_L_law_755 : decode c_L_law 755 = .ok (.ifCond .eq 5, 3) := by decide +kernel
theorem d_L_law_758 : decode c_L_law 758 = .ok (.iconst 0, 1) := by decide +kernel
theorem d_L_law_759 : decode c_L_law 759 = .ok (.ireturn, 1) := by decide +kernel
theorem d_L_law_760 : decode c_L_law 760 = .ok (.goto 578, 3) := by decide +kernel
theorem d_L_law_763 : decode c_L_law 763 = .ok (.aload_n 1, 1) := by decide +kernel
theorem d_L_law_764 : decode c_L_law 764 = .ok (.aload_n 0, 1) := by decide +kernel
theorem d_L_law_765 : decode c_L_law 765 = .ok (.iload 4, 2) := by decide +kernel
theorem d_L_law_767 : decode c_L_law 767 = .ok (.iconst 1, 1) := by decide +kernel
theorem d_L_law_768 : decode c_L_law 768 = .ok (.iadd, 1) := by decide +kernel
theorem d_L_law_769 : decode c_L_law 769 = .ok (.iaload, 1) := by decide +kernel
theorem d_L_law_770 : decode c_L_law 770 = .ok (.ifCond .eq 7, 3) := by decide +kernel
theorem d_L_law_773 : decode c_L_law 773 = .ok (.iconst 1, 1) := by decide +kernel
theorem d_L_law_774 : decode c_L_law 774 = .ok (.goto 4, 3) := by decide +kernel
theorem d_L_law_777 : decode c_L_law 777 = .ok (.iconst 0, 1) := by decide +kernel
theorem d_L_law_778 : decode c_L_law 778 = .ok (.aload_n 0, 1) := by decide +kernel
theorem d_L_law_779 : decode c_L_law 779 = .ok (.iload 4, 2) := by decide +kernel
theorem d_L_law_781 : decode c_L_law 781 = .ok (.iconst 2, 1) := by decide +kernel
theorem d_L_law_782 : decode c_L_law 782 = .ok (.iadd, 1) := by decide +kernel
theorem d_L_law_783 : decode c_L_law 783 = .ok (.iaload, 1) := by decide +kernel
theorem d_L_law_784 : decode c_L_law 784 = .ok (.i2l, 1) := by decide +kernel
theorem d_L_law_785 : decode c_L_law 785 = .ok (.bipush 32, 2) := by decide +kernel
theorem d_L_law_787 : decode c_L_law 787 = .ok (.lshl, 1) := by decide +kernel
theorem d_L_law_788 : decode c_L_law 788 = .ok (.aload_n 0, 1) := by decide +kernel
theorem d_L_law_789 : decode c_L_law 789 = .ok (.iload 4, 2) := by decide +kernel
theorem d_L_law_791 : decode c_L_law 791 = .ok (.iconst 3, 1) := by decide +kernel
theorem d_L_law_792 : decode c_L_law 792 = .ok (.iadd, 1) := by decide +kernel
theorem d_L_law_793 : decode c_L_law 793 = .ok (.iaload, 1) := by decide +kernel
theorem d_L_law_794 : decode c_L_law 794 = .ok (.i2l, 1) := by decide +kernel
theorem d_L_law_795 : decode c_L_law 795 = .ok (.ldc2_w 69, 3) := by decide +kernel
theorem d_L_law_798 : decode c_L_law 798 = .ok (.land, 1) := by decide +kernel
theorem d_L_law_799 : decode c_L_law 799 = .ok (.lor, 1) := by decide +kernel
theorem d_L_law_800 : decode c_L_law 800 = .ok (.aload_n 0, 1) := by decide +kernel
theorem d_L_law_801 : decode c_L_law 801 = .ok (.iload 4, 2) := by decide +kernel
theorem d_L_law_803 : decode c_L_law 803 = .ok (.iconst 4, 1) := by decide +kernel
theorem d_L_law_804 : decode c_L_law 804 = .ok (.iadd, 1) := by decide +kernel
theorem d_L_law_805 : decode c_L_law 805 = .ok (.iaload, 1) := by decide +kernel
theorem d_L_law_806 : decode c_L_law 806 = .ok (.aload_n 3, 1) := by decide +kernel
theorem d_L_law_807 : decode c_L_law 807 = .ok (.invokestatic 105, 3) := by decide +kernel
theorem d_L_law_810 : decode c_L_law 810 = .ok (.istore 5, 2) := by decide +kernel
theorem d_L_law_812 : decode c_L_law 812 = .ok (.aload_n 2, 1) := by decide +kernel
theorem d_L_law_813 : decode c_L_law 813 = .ok (.aload_n 0, 1) := by decide +kernel
theorem d_L_law_814 : decode c_L_law 814 = .ok (.iload 4, 2) := by decide +kernel
theorem d_L_law_816 : decode c_L_law 816 = .ok (.iconst 1, 1) := by decide +kernel
theorem d_L_law_817 : decode c_L_law 817 = .ok (.iadd, 1) := by decide +kernel
theorem d_L_law_818 : decode c_L_law 818 = .ok (.iaload, 1) := by decide +kernel
theorem d_L_law_819 : decode c_L_law 819 = .ok (.ifCond .eq 7, 3) := by decide +kernel
theorem d_L_law_822 : decode c_L_law 822 = .ok (.iconst 1, 1) := by decide +kernel
theorem d_L_law_823 : decode c_L_law 823 = .ok (.goto 4, 3) := by decide +kernel
theorem d_L_law_826 : decode c_L_law 826 = .ok (.iconst 0, 1) := by decide +kernel
theorem d_L_law_827 : decode c_L_law 827 = .ok (.aload_n 0, 1) := by decide +kernel
theorem d_L_law_828 : decode c_L_law 828 = .ok (.iload 4, 2) := by decide +kernel
theorem d_L_law_830 : decode c_L_law 830 = .ok (.iconst 2, 1) := by decide +kernel
theorem d_L_law_831 : decode c_L_law 831 = .ok (.iadd, 1) := by decide +kernel
theorem d_L_law_832 : decode c_L_law 832 = .ok (.iaload, 1) := by decide +kernel
theorem d_L_law_833 : decode c_L_law 833 = .ok (.i2l, 1) := by decide +kernel
theorem d_L_law_834 : decode c_L_law 834 = .ok (.bipush 32, 2) := by decide +kernel
theorem d_L_law_836 : decode c_L_law 836 = .ok (.lshl, 1) := by decide +kernel
theorem d_L_law_837 : decode c_L_law 837 = .ok (.aload_n 0, 1) := by decide +kernel
theorem d_L_law_838 : decode c_L_law 838 = .ok (.iload 4, 2) := by decide +kernel
theorem d_L_law_840 : decode c_L_law 840 = .ok (.iconst 3, 1) := by decide +kernel
theorem d_L_law_841 : decode c_L_law 841 = .ok (.iadd, 1) := by decide +kernel
theorem d_L_law_842 : decode c_L_law 842 = .ok (.iaload, 1) := by decide +kernel
theorem d_L_law_843 : decode c_L_law 843 = .ok (.i2l, 1) := by decide +kernel
theorem d_L_law_844 : decode c_L_law 844 = .ok (.ldc2_w 69, 3) := by decide +kernel
theorem d_L_law_847 : decode c_L_law 847 = .ok (.land, 1) := by decide +kernel
theorem d_L_law_848 : decode c_L_law 848 = .ok (.lor, 1) := by decide +kernel
theorem d_L_law_849 : decode c_L_law 849 = .ok (.aload_n 0, 1) := by decide +kernel
theorem d_L_law_850 : decode c_L_law 850 = .ok (.iload 4, 2) := by decide +kernel
theorem d_L_law_852 : decode c_L_law 852 = .ok (.iconst 4, 1) := by decide +kernel
theorem d_L_law_853 : decode c_L_law 853 = .ok (.iadd, 1) := by decide +kernel
theorem d_L_law_854 : decode c_L_law 854 = .ok (.iaload, 1) := by decide +kernel
theorem d_L_law_855 : decode c_L_law 855 = .ok (.invokevirtual 108, 3) := by decide +kernel
theorem d_L_law_858 : decode c_L_law 858 = .ok (.istore 6, 2) := by decide +kernel
theorem d_L_law_860 : decode c_L_law 860 = .ok (.aload_n 2, 1) := by decide +kernel
theorem d_L_law_861 : decode c_L_law 861 = .ok (.invokevirtual 75, 3) := by decide +kernel
theorem d_L_law_864 : decode c_L_law 864 = .ok (.iload 5, 2) := by decide +kernel
theorem d_L_law_866 : decode c_L_law 866 = .ok (.if_icmp .eq 5, 3) := by decide +kernel
theorem d_L_law_869 : decode c_L_law 869 = .ok (.iconst 0, 1) := by decide +kernel
theorem d_L_law_870 : decode c_L_law 870 = .ok (.ireturn, 1) := by decide +kernel
theorem d_L_law_871 : decode c_L_law 871 = .ok (.iload 5, 2) := by decide +kernel
theorem d_L_law_873 : decode c_L_law 873 = .ok (.ifCond .ne 15, 3) := by decide +kernel
theorem d_L_law_876 : decode c_L_law 876 = .ok (.aload_n 3, 1) := by decide +kernel
theorem d_L_law_877 : decode c_L_law 877 = .ok (.iconst 0, 1) := by decide +kernel
theorem d_L_law_878 : decode c_L_law 878 = .ok (.laload, 1) := by decide +kernel
theorem d_L_law_879 : decode c_L_law 879 = .ok (.iload 6, 2) := by decide +kernel
theorem d_L_law_881 : decode c_L_law 881 = .ok (.i2l, 1) := by decide +kernel
theorem d_L_law_882 : decode c_L_law 882 = .ok (.lcmp, 1) := by decide +kernel
theorem d_L_law_883 : decode c_L_law 883 = .ok (.ifCond .eq 5, 3) := by decide +kernel
theorem d_L_law_886 : decode c_L_law 886 = .ok (.iconst 0, 1) := by decide +kernel
theorem d_L_law_887 : decode c_L_law 887 = .ok (.ireturn, 1) := by decide +kernel
theorem d_L_law_888 : decode c_L_law 888 = .ok (.goto 450, 3) := by decide +kernel
theorem d_L_law_891 : decode c_L_law 891 = .ok (.aload_n 1, 1) := by decide +kernel
theorem d_L_law_892 : decode c_L_law 892 = .ok (.invokevirtual 109, 3) := by decide +kernel
theorem d_L_law_895 : decode c_L_law 895 = .ok (.aload_n 2, 1) := by decide +kernel
theorem d_L_law_896 : decode c_L_law 896 = .ok (.invokevirtual 112, 3) := by decide +kernel
theorem d_L_law_899 : decode c_L_law 899 = .ok (.if_icmp .eq 439, 3) := by decide +kernel
theorem d_L_law_902 : decode c_L_law 902 = .ok (.iconst 0, 1) := by decide +kernel
theorem d_L_law_903 : decode c_L_law 903 = .ok (.ireturn, 1) := by decide +kernel
theorem d_L_law_904 : decode c_L_law 904 = .ok (.aload_n 1, 1) := by decide +kernel
theorem d_L_law_905 : decode c_L_law 905 = .ok (.aload_n 0, 1) := by decide +kernel
theorem d_L_law_906 : decode c_L_law 906 = .ok (.iload 4, 2) := by decide +kernel
theorem d_L_law_908 : decode c_L_law 908 = .ok (.iconst 1, 1) := by decide +kernel
theorem d_L_law_909 : decode c_L_law 909 = .ok (.iadd, 1) := by decide +kernel
theorem d_L_law_910 : decode c_L_law 910 = .ok (.iaload, 1) := by decide +kernel
theorem d_L_law_911 : decode c_L_law 911 = .ok (.aload_n 0, 1) := by decide +kernel
theorem d_L_law_912 : decode c_L_law 912 = .ok (.iload 4, 2) := by decide +kernel
theorem d_L_law_914 : decode c_L_law 914 = .ok (.iconst 2, 1) := by decide +kernel
theorem d_L_law_915 : decode c_L_law 915 = .ok (.iadd, 1) := by decide +kernel
theorem d_L_law_916 : decode c_L_law 916 = .ok (.iaload, 1) := by decide +kernel
theorem d_L_law_917 : decode c_L_law 917 = .ok (.aload_n 3, 1) := by decide +kernel
theorem d_L_law_918 : decode c_L_law 918 = .ok (.invokestatic 113, 3) := by decide +kernel
theorem d_L_law_921 : decode c_L_law 921 = .ok (.istore 5, 2) := by decide +kernel
theorem d_L_law_923 : decode c_L_law 923 = .ok (.aload_n 2, 1) := by decide +kernel
theorem d_L_law_924 : decode c_L_law 924 = .ok (.aload_n 0, 1) := by decide +kernel
theorem d_L_law_925 : decode c_L_law 925 = .ok (.iload 4, 2) := by decide +kernel
theorem d_L_law_927 : decode c_L_law 927 = .ok (.iconst 1, 1) := by decide +kernel
theorem d_L_law_928 : decode c_L_law 928 = .ok (.iadd, 1) := by decide +kernel
theorem d_L_law_929 : decode c_L_law 929 = .ok (.iaload, 1) := by decide +kernel
theorem d_L_law_930 : decode c_L_law 930 = .ok (.aload_n 0, 1) := by decide +kernel
theorem d_L_law_931 : decode c_L_law 931 = .ok (.iload 4, 2) := by decide +kernel
theorem d_L_law_933 : decode c_L_law 933 = .ok (.iconst 2, 1) := by decide +kernel
theorem d_L_law_934 : decode c_L_law 934 = .ok (.iadd, 1) := by decide +kernel
theorem d_L_law_935 : decode c_L_law 935 = .ok (.iaload, 1) := by decide +kernel
theorem d_L_law_936 : decode c_L_law 936 = .ok (.invokevirtual 115, 3) := by decide +kernel
theorem d_L_law_939 : decode c_L_law 939 = .ok (.istore 6, 2) := by decide +kernel
theorem d_L_law_941 : decode c_L_law 941 = .ok (.aload_n 2, 1) := by decide +kernel
theorem d_L_law_942 : decode c_L_law 942 = .ok (.invokevirtual 75, 3) := by decide +kernel
theorem d_L_law_945 : decode c_L_law 945 = .ok (.iload 5, 2) := by decide +kernel
theorem d_L_law_947 : decode c_L_law 947 = .ok (.if_icmp .eq 5, 3) := by decide +kernel
theorem d_L_law_950 : decode c_L_law 950 = .ok (.iconst 0, 1) := by decide +kernel
theorem d_L_law_951 : decode c_L_law 951 = .ok (.ireturn, 1) := by decide +kernel
theorem d_L_law_952 : decode c_L_law 952 = .ok (.iload 5, 2) := by decide +kernel
theorem d_L_law_954 : decode c_L_law 954 = .ok (.ifCond .ne 15, 3) := by decide +kernel
theorem d_L_law_957 : decode c_L_law 957 = .ok (.aload_n 3, 1) := by decide +kernel
theorem d_L_law_958 : decode c_L_law 958 = .ok (.iconst 0, 1) := by decide +kernel
theorem d_L_law_959 : decode c_L_law 959 = .ok (.laload, 1) := by decide +kernel
theorem d_L_law_960 : decode c_L_law 960 = .ok (.iload 6, 2) := by decide +kernel
theorem d_L_law_962 : decode c_L_law 962 = .ok (.i2l, 1) := by decide +kernel
theorem d_L_law_963 : decode c_L_law 963 = .ok (.lcmp, 1) := by decide +kernel
theorem d_L_law_964 : decode c_L_law 964 = .ok (.ifCond .eq 5, 3) := by decide +kernel
theorem d_L_law_967 : decode c_L_law 967 = .ok (.iconst 0, 1) := by decide +kernel
theorem d_L_law_968 : decode c_L_law 968 = .ok (.ireturn, 1) := by decide +kernel
theorem d_L_law_969 : decode c_L_law 969 = .ok (.goto 369, 3) := by decide +kernel
theorem d_L_law_972 : decode c_L_law 972 = .ok (.aload_n 1, 1) := by decide +kernel
theorem d_L_law_973 : decode c_L_law 973 = .ok (.invokevirtual 116, 3) := by decide +kernel
theorem d_L_law_976 : decode c_L_law 976 = .ok (.aload_n 2, 1) := by decide +kernel
theorem d_L_law_977 : decode c_L_law 977 = .ok (.invokevirtual 120, 3) := by decide +kernel
theorem d_L_law_980 : decode c_L_law 980 = .ok (.if_icmp .eq 358, 3) := by decide +kernel
theorem d_L_law_983 : decode c_L_law 983 = .ok (.iconst 0, 1) := by decide +kernel
theorem d_L_law_984 : decode c_L_law 984 = .ok (.ireturn, 1) := by decide +kernel
theorem d_L_law_985 : decode c_L_law 985 = .ok (.aload_n 1, 1) := by decide +kernel
theorem d_L_law_986 : decode c_L_law 986 = .ok (.aload_n 0, 1) := by decide +kernel
theorem d_L_law_987 : decode c_L_law 987 = .ok (.iload 4, 2) := by decide +kernel
theorem d_L_law_989 : decode c_L_law 989 = .ok (.iconst 1, 1) := by decide +kernel
theorem d_L_law_990 : decode c_L_law 990 = .ok (.iadd, 1) := by decide +kernel
theorem d_L_law_991 : decode c_L_law 991 = .ok (.iaload, 1) := by decide +kernel
theorem d_L_law_992 : decode c_L_law 992 = .ok (.invokestatic 121, 3) := by decide +kernel
theorem d_L_law_995 : decode c_L_law 995 = .ok (.istore 5, 2) := by decide +kernel
theorem d_L_law_997 : decode c_L_law 997 = .ok (.aload_n 2, 1) := by decide +kernel
theorem d_L_law_998 : decode c_L_law 998 = .ok (.aload_n 0, 1) := by decide +kernel
theorem d_L_law_999 : decode c_L_law 999 = .ok (.iload 4, 2) := by decide +kernel
theorem d_L_law_1001 : decode c_L_law 1001 = .ok (.iconst 1, 1) := by decide +kernel
theorem d_L_law_1002 : decode c_L_law 1002 = .ok (.iadd, 1) := by decide +kernel
theorem d_L_law_1003 : decode c_L_law 1003 = .ok (.iaload, 1) := by decide +kernel
theorem d_L_law_1004 : decode c_L_law 1004 = .ok (.invokevirtual 124, 3) := by decide +kernel
theorem d_L_law_1007 : decode c_L_law 1007 = .ok (.aload_n 2, 1) := by decide +kernel
theorem d_L_law_1008 : decode c_L_law 1008 = .ok (.invokevirtual 75, 3) := by decide +kernel
theorem d_L_law_1011 : decode c_L_law 1011 = .ok (.iload 5, 2) := by decide +kernel
theorem d_L_law_1013 : decode c_L_law 1013 = .ok (.if_icmp .eq 5, 3) := by decide +kernel
theorem d_L_law_1016 : decode c_L_law 1016 = .ok (.iconst 0, 1) := by decide +kernel
theorem d_L_law_1017 : decode c_L_law 1017 = .ok (.ireturn, 1) := by decide +kernel
theorem d_L_law_1018 : decode c_L_law 1018 = .ok (.goto 320, 3) := by decide +kernel
theorem d_L_law_1021 : decode c_L_law 1021 = .ok (.aload_n 1, 1) := by decide +kernel
theorem d_L_law_1022 : decode c_L_law 1022 = .ok (.aload_n 0, 1) := by decide +kernel
theorem d_L_law_1023 : decode c_L_law 1023 = .ok (.iload 4, 2) := by decide +kernel
theorem d_L_law_1025 : decode c_L_law 1025 = .ok (.iconst 1, 1) := by decide +kernel
theorem d_L_law_1026 : decode c_L_law 1026 = .ok (.iadd, 1) := by decide +kernel
theorem d_L_law_1027 : decode c_L_law 1027 = .ok (.iaload, 1) := by decide +kernel
theorem d_L_law_1028 : decode c_L_law 1028 = .ok (.i2l, 1) := by decide +kernel
theorem d_L_law_1029 : decode c_L_law 1029 = .ok (.bipush 32, 2) := by decide +kernel
theorem d_L_law_1031 : decode c_L_law 1031 = .ok (.lshl, 1) := by decide +kernel
theorem d_L_law_1032 : decode c_L_law 1032 = .ok (.aload_n 0, 1) := by decide +kernel
theorem d_L_law_1033 : decode c_L_law 1033 = .ok (.iload 4, 2) := by decide +kernel
theorem d_L_law_1035 : decode c_L_law 1035 = .ok (.iconst 2, 1) := by decide +kernel
theorem d_L_law_1036 : decode c_L_law 1036 = .ok (.iadd, 1) := by decide +kernel
theorem d_L_law_1037 : decode c_L_law 1037 = .ok (.iaload, 1) := by decide +kernel
theorem d_L_law_1038 : decode c_L_law 1038 = .ok (.i2l, 1) := by decide +kernel
theorem d_L_law_1039 : decode c_L_law 1039 = .ok (.ldc2_w 69, 3) := by decide +kernel
theorem d_L_law_1042 : decode c_L_law 1042 = .ok (.land, 1) := by decide +kernel
theorem d_L_law_1043 : decode c_L_law 1043 = .ok (.lor, 1) := by decide +kernel
theorem d_L_law_1044 : decode c_L_law 1044 = .ok (.aload_n 0, 1) := by decide +kernel
theorem d_L_law_1045 : decode c_L_law 1045 = .ok (.iload 4, 2) := by decide +kernel
theorem d_L_law_1047 : decode c_L_law 1047 = .ok (.iconst 3, 1) := by decide +kernel
theorem d_L_law_1048 : decode c_L_law 1048 = .ok (.iadd, 1) := by decide +kernel
theorem d_L_law_1049 : decode c_L_law 1049 = .ok (.iaload, 1) := by decide +kernel
theorem d_L_law_1050 : decode c_L_law 1050 = .ok (.i2l, 1) := by decide +kernel
theorem d_L_law_1051 : decode c_L_law 1051 = .ok (.bipush 32, 2) := by decide +kernel
theorem d_L_law_1053 : decode c_L_law 1053 = .ok (.lshl, 1) := by decide +kernel
theorem d_L_law_1054 : decode c_L_law 1054 = .ok (.aload_n 0, 1) := by decide +kernel
theorem d_L_law_1055 : decode c_L_law 1055 = .ok (.iload 4, 2) := by decide +kernel
theorem d_L_law_1057 : decode c_L_law 1057 = .ok (.iconst 4, 1) := by decide +kernel
theorem d_L_law_1058 : decode c_L_law 1058 = .ok (.iadd, 1) := by decide +kernel
theorem d_L_law_1059 : decode c_L_law 1059 = .ok (.iaload, 1) := by decide +kernel
theorem d_L_law_1060 : decode c_L_law 1060 = .ok (.i2l, 1) := by decide +kernel
theorem d_L_law_1061 : decode c_L_law 1061 = .ok (.ldc2_w 69, 3) := by decide +kernel
theorem d_L_law_1064 : decode c_L_law 1064 = .ok (.land, 1) := by decide +kernel
theorem d_L_law_1065 : decode c_L_law 1065 = .ok (.lor, 1) := by decide +kernel
theorem d_L_law_1066 : decode c_L_law 1066 = .ok (.aload_n 0, 1) := by decide +kernel
theorem d_L_law_1067 : decode c_L_law 1067 = .ok (.iload 4, 2) := by decide +kernel
theorem d_L_law_1069 : decode c_L_law 1069 = .ok (.iconst 5, 1) := by decide +kernel
theorem d_L_law_1070 : decode c_L_law 1070 = .ok (.iadd, 1) := by decide +kernel
theorem d_L_law_1071 : decode c_L_law 1071 = .ok (.iaload, 1) := by decide +kernel
theorem d_L_law_1072 : decode c_L_law 1072 = .ok (.i2l, 1) := by decide +kernel
theorem d_L_law_1073 : decode c_L_law 1073 = .ok (.bipush 32, 2) := by decide +kernel
theorem d_L_law_1075 : decode c_L_law 1075 = .ok (.lshl, 1) := by decide +kernel
theorem d_L_law_1076 : decode c_L_law 1076 = .ok (.aload_n 0, 1) := by decide +kernel
theorem d_L_law_1077 : decode c_L_law 1077 = .ok (.iload 4, 2) := by decide +kernel
theorem d_L_law_1079 : decode c_L_law 1079 = .ok (.bipush 6, 2) := by decide +kernel
theorem d_L_law_1081 : decode c_L_law 1081 = .ok (.iadd, 1) := by decide +kernel
theorem d_L_law_1082 : decode c_L_law 1082 = .ok (.iaload, 1) := by decide +kernel
theorem d_L_law_1083 : decode c_L_law 1083 = .ok (.i2l, 1) := by decide +kernel
theorem d_L_law_1084 : decode c_L_law 1084 = .ok (.ldc2_w 69, 3) := by decide +kernel
theorem d_L_law_1087 : decode c_L_law 1087 = .ok (.land, 1) := by decide +kernel
theorem d_L_law_1088 : decode c_L_law 1088 = .ok (.lor, 1) := by decide +kernel
theorem d_L_law_1089 : decode c_L_law 1089 = .ok (.aload_n 0, 1) := by decide +kernel
theorem d_L_law_1090 : decode c_L_law 1090 = .ok (.iload 4, 2) := by decide +kernel
theorem d_L_law_1092 : decode c_L_law 1092 = .ok (.bipush 7, 2) := by decide +kernel
theorem d_L_law_1094 : decode c_L_law 1094 = .ok (.iadd, 1) := by decide +kernel
theorem d_L_law_1095 : decode c_L_law 1095 = .ok (.iaload, 1) := by decide +kernel
theorem d_L_law_1096 : decode c_L_law 1096 = .ok (.i2l, 1) := by decide +kernel
theorem d_L_law_1097 : decode c_L_law 1097 = .ok (.bipush 32, 2) := by decide +kernel
theorem d_L_law_1099 : decode c_L_law 1099 = .ok (.lshl, 1) := by decide +kernel
theorem d_L_law_1100 : decode c_L_law 1100 = .ok (.aload_n 0, 1) := by decide +kernel
theorem d_L_law_1101 : decode c_L_law 1101 = .ok (.iload 4, 2) := by decide +kernel
theorem d_L_law_1103 : decode c_L_law 1103 = .ok (.bipush 8, 2) := by decide +kernel
theorem d_L_law_1105 : decode c_L_law 1105 = .ok (.iadd, 1) := by decide +kernel
theorem d_L_law_1106 : decode c_L_law 1106 = .ok (.iaload, 1) := by decide +kernel
theorem d_L_law_1107 : decode c_L_law 1107 = .ok (.i2l, 1) := by decide +kernel
theorem d_L_law_1108 : decode c_L_law 1108 = .ok (.ldc2_w 69, 3) := by decide +kernel
theorem d_L_law_1111 : decode c_L_law 1111 = .ok (.land, 1) := by decide +kernel
theorem d_L_law_1112 : decode c_L_law 1112 = .ok (.lor, 1) := by decide +kernel
theorem d_L_law_1113 : decode c_L_law 1113 = .ok (.aload_n 0, 1) := by decide +kernel
theorem d_L_law_1114 : decode c_L_law 1114 = .ok (.iload 4, 2) := by decide +kernel
theorem d_L_law_1116 : decode c_L_law 1116 = .ok (.bipush 9, 2) := by decide +kernel
theorem d_L_law_1118 : decode c_L_law 1118 = .ok (.iadd, 1) := by decide +kernel
theorem d_L_law_1119 : decode c_L_law 1119 = .ok (.iaload, 1) := by decide +kernel
theorem d_L_law_1120 : decode c_L_law 1120 = .ok (.aload_n 3, 1) := by decide +kernel
theorem d_L_law_1121 : decode c_L_law 1121 = .ok (.invokestatic 125, 3) := by decide +kernel
theorem d_L_law_1124 : decode c_L_law 1124 = .ok (.istore 5, 2) := by decide +kernel
theorem d_L_law_1126 : decode c_L_law 1126 = .ok (.aload_n 2, 1) := by decide +kernel
theorem d_L_law_1127 : decode c_L_law 1127 = .ok (.aload_n 0, 1) := by decide +kernel
theorem d_L_law_1128 : decode c_L_law 1128 = .ok (.iload 4, 2) := by decide +kernel
theorem d_L_law_1130 : decode c_L_law 1130 = .ok (.iconst 1, 1) := by decide +kernel
theorem d_L_law_1131 : decode c_L_law 1131 = .ok (.iadd, 1) := by decide +kernel
theorem d_L_law_1132 : decode c_L_law 1132 = .ok (.iaload, 1) := by decide +kernel
theorem d_L_law_1133 : decode c_L_law 1133 = .ok (.i2l, 1) := by decide +kernel
theorem d_L_law_1134 : decode c_L_law 1134 = .ok (.bipush 32, 2) := by decide +kernel
theorem d_L_law_1136 : decode c_L_law 1136 = .ok (.lshl, 1) := by decide +kernel
theorem d_L_law_1137 : decode c_L_law 1137 = .ok (.aload_n 0, 1) := by decide +kernel
theorem d_L_law_1138 : decode c_L_law 1138 = .ok (.iload 4, 2) := by decide +kernel
theorem d_L_law_1140 : decode c_L_law 1140 = .ok (.iconst 2, 1) := by decide +kernel
theorem d_L_law_1141 : decode c_L_law 1141 = .ok (.iadd, 1) := by decide +kernel
theorem d_L_law_1142 : decode c_L_law 1142 = .ok (.iaload, 1) := by decide +kernel
theorem d_L_law_1143 : decode c_L_law 1143 = .ok (.i2l, 1) := by decide +kernel
theorem d_L_law_1144 : decode c_L_law 1144 = .ok (.ldc2_w 69, 3) := by decide +kernel
theorem d_L_law_1147 : decode c_L_law 1147 = .ok (.land, 1) := by decide +kernel
theorem d_L_law_1148 : decode c_L_law 1148 = .ok (.lor, 1) := by decide +kernel
theorem d_L_law_1149 : decode c_L_law 1149 = .ok (.aload_n 0, 1) := by decide +kernel
theorem d_L_law_1150 : decode c_L_law 1150 = .ok (.iload 4, 2) := by decide +kernel
theorem d_L_law_1152 : decode c_L_law 1152 = .ok (.iconst 3, 1) := by decide +kernel
theorem d_L_law_1153 : decode c_L_law 1153 = .ok (.iadd, 1) := by decide +kernel
theorem d_L_law_1154 : decode c_L_law 1154 = .ok (.iaload, 1) := by decide +kernel
theorem d_L_law_1155 : decode c_L_law 1155 = .ok (.i2l, 1) := by decide +kernel
theorem d_L_law_1156 : decode c_L_law 1156 = .ok (.bipush 32, 2) := by decide +kernel
theorem d_L_law_1158 : decode c_L_law 1158 = .ok (.lshl, 1) := by decide +kernel
theorem d_L_law_1159 : decode c_L_law 1159 = .ok (.aload_n 0, 1) := by decide +kernel
theorem d_L_law_1160 : decode c_L_law 1160 = .ok (.iload 4, 2) := by decide +kernel
theorem d_L_law_1162 : decode c_L_law 1162 = .ok (.iconst 4, 1) := by decide +kernel
theorem d_L_law_1163 : decode c_L_law 1163 = .ok (.iadd, 1) := by decide +kernel
theorem d_L_law_1164 : decode c_L_law 1164 = .ok (.iaload, 1) := by decide +kernel
theorem d_L_law_1165 : decode c_L_law 1165 = .ok (.i2l, 1) := by decide +kernel
theorem d_L_law_1166 : decode c_L_law 1166 = .ok (.ldc2_w 69, 3) := by decide +kernel
theorem d_L_law_1169 : decode c_L_law 1169 = .ok (.land, 1) := by decide +kernel
theorem d_L_law_1170 : decode c_L_law 1170 = .ok (.lor, 1) := by decide +kernel
theorem d_L_law_1171 : decode c_L_law 1171 = .ok (.aload_n 0, 1) := by decide +kernel
theorem d_L_law_1172 : decode c_L_law 1172 = .ok (.iload 4, 2) := by decide +kernel
theorem d_L_law_1174 : decode c_L_law 1174 = .ok (.iconst 5, 1) := by decide +kernel
theorem d_L_law_1175 : decode c_L_law 1175 = .ok (.iadd, 1) := by decide +kernel
theorem d_L_law_1176 : decode c_L_law 1176 = .ok (.iaload, 1) := by decide +kernel
theorem d_L_law_1177 : decode c_L_law 1177 = .ok (.i2l, 1) := by decide +kernel
theorem d_L_law_1178 : decode c_L_law 1178 = .ok (.bipush 32, 2) := by decide +kernel
theorem d_L_law_1180 : decode c_L_law 1180 = .ok (.lshl, 1) := by decide +kernel
theorem d_L_law_1181 : decode c_L_law 1181 = .ok (.aload_n 0, 1) := by decide +kernel
theorem d_L_law_1182 : decode c_L_law 1182 = .ok (.iload 4, 2) := by decide +kernel
theorem d_L_law_1184 : decode c_L_law 1184 = .ok (.bipush 6, 2) := by decide +kernel
theorem d_L_law_1186 : decode c_L_law 1186 = .ok (.iadd, 1) := by decide +kernel
theorem d_L_law_1187 : decode c_L_law 1187 = .ok (.iaload, 1) := by decide +kernel
theorem d_L_law_1188 : decode c_L_law 1188 = .ok (.i2l, 1) := by decide +kernel
theorem d_L_law_1189 : decode c_L_law 1189 = .ok (.ldc2_w 69, 3) := by decide +kernel
theorem d_L_law_1192 : decode c_L_law 1192 = .ok (.land, 1) := by decide +kernel
theorem d_L_law_1193 : decode c_L_law 1193 = .ok (.lor, 1) := by decide +kernel
theorem d_L_law_1194 : decode c_L_law 1194 = .ok (.aload_n 0, 1) := by decide +kernel
theorem d_L_law_1195 : decode c_L_law 1195 = .ok (.iload 4, 2) := by decide +kernel
theorem d_L_law_1197 : decode c_L_law 1197 = .ok (.bipush 7, 2) := by decide +kernel
theorem d_L_law_1199 : decode c_L_law 1199 = .ok (.iadd, 1) := by decide +kernel
theorem d_L_law_1200 : decode c_L_law 1200 = .ok (.iaload, 1) := by decide +kernel
theorem d_L_law_1201 : decode c_L_law 1201 = .ok (.i2l, 1) := by decide +kernel
theorem d_L_law_1202 : decode c_L_law 1202 = .ok (.bipush 32, 2) := by decide +kernel
theorem d_L_law_1204 : decode c_L_law 1204 = .ok (.lshl, 1) := by decide +kernel
theorem d_L_law_1205 : decode c_L_law 1205 = .ok (.aload_n 0, 1) := by decide +kernel
theorem d_L_law_1206 : decode c_L_law 1206 = .ok (.iload 4, 2) := by decide +kernel
theorem d_L_law_1208 : decode c_L_law 1208 = .ok (.bipush 8, 2) := by decide +kernel
theorem d_L_law_1210 : decode c_L_law 1210 = .ok (.iadd, 1) := by decide +kernel
theorem d_L_law_1211 : decode c_L_law 1211 = .ok (.iaload, 1) := by decide +kernel
theorem d_L_law_1212 : decode c_L_law 1212 = .ok (.i2l, 1) := by decide +kernel
theorem d_L_law_1213 : decode c_L_law 1213 = .ok (.ldc2_w 69, 3) := by decide +kernel
theorem d_L_law_1216 : decode c_L_law 1216 = .ok (.land, 1) := by decide +kernel
theorem d_L_law_1217 : decode c_L_law 1217 = .ok (.lor, 1) := by decide +kernel
theorem d_L_law_1218 : decode c_L_law 1218 = .ok (.aload_n 0, 1) := by decide +kernel
theorem d_L_law_1219 : decode c_L_law 1219 = .ok (.iload 4, 2) := by decide +kernel
theorem d_L_law_1221 : decode c_L_law 1221 = .ok (.bipush 9, 2) := by decide +kernel
theorem d_L_law_1223 : decode c_L_law 1223 = .ok (.iadd, 1) := by decide +kernel
theorem d_L_law_1224 : decode c_L_law 1224 = .ok (.iaload, 1) := by decide +kernel
theorem d_L_law_1225 : decode c_L_law 1225 = .ok (.invokevirtual 128, 3) := by decide +kernel
theorem d_L_law_1228 : decode c_L_law 1228 = .ok (.istore 6, 2) := by decide +kernel
theorem d_L_law_1230 : decode c_L_law 1230 = .ok (.aload_n 2, 1) := by decide +kernel
theorem d_L_law_1231 : decode c_L_law 1231 = .ok (.invokevirtual 75, 3) := by decide +kernel
theorem d_L_law_1234 : decode c_L_law 1234 = .ok (.iload 5, 2) := by decide +kernel
theorem d_L_law_1236 : decode c_L_law 1236 = .ok (.if_icmp .eq 5, 3) := by decide +kernel
theorem d_L_law_1239 : decode c_L_law 1239 = .ok (.iconst 0, 1) := by decide +kernel
theorem d_L_law_1240 : decode c_L_law 1240 = .ok (.ireturn, 1) := by decide +kernel
theorem d_L_law_1241 : decode c_L_law 1241 = .ok (.iload 5, 2) := by decide +kernel
theorem d_L_law_1243 : decode c_L_law 1243 = .ok (.ifCond .ne 15, 3) := by decide +kernel
theorem d_L_law_1246 : decode c_L_law 1246 = .ok (.aload_n 3, 1) := by decide +kernel
theorem d_L_law_1247 : decode c_L_law 1247 = .ok (.iconst 0, 1) := by decide +kernel
theorem d_L_law_1248 : decode c_L_law 1248 = .ok (.laload, 1) := by decide +kernel
theorem d_L_law_1249 : decode c_L_law 1249 = .ok (.iload 6, 2) := by decide +kernel
theorem d_L_law_1251 : decode c_L_law 1251 = .ok (.i2l, 1) := by decide +kernel
theorem d_L_law_1252 : decode c_L_law 1252 = .ok (.lcmp, 1) := by decide +kernel
theorem d_L_law_1253 : decode c_L_law 1253 = .ok (.ifCond .eq 5, 3) := by decide +kernel
theorem d_L_law_1256 : decode c_L_law 1256 = .ok (.iconst 0, 1) := by decide +kernel
theorem d_L_law_1257 : decode c_L_law 1257 = .ok (.ireturn, 1) := by decide +kernel
theorem d_L_law_1258 : decode c_L_law 1258 = .ok (.goto 80, 3) := by decide +kernel
theorem d_L_law_1261 : decode c_L_law 1261 = .ok (.aload_n 1, 1) := by decide +kernel
theorem d_L_law_1262 : decode c_L_law 1262 = .ok (.invokevirtual 129, 3) := by decide +kernel
theorem d_L_law_1265 : decode c_L_law 1265 = .ok (.aload_n 2, 1) := by decide +kernel
theorem d_L_law_1266 : decode c_L_law 1266 = .ok (.invokevirtual 132, 3) := by decide +kernel
theorem d_L_law_1269 : decode c_L_law 1269 = .ok (.goto 69, 3) := by decide +kernel
theorem d_L_law_1272 : decode c_L_law 1272 = .ok (.aload_n 1, 1) := by decide +kernel
theorem d_L_law_1273 : decode c_L_law 1273 = .ok (.aload_n 0, 1) := by decide +kernel
theorem d_L_law_1274 : decode c_L_law 1274 = .ok (.iload 4, 2) := by decide +kernel
theorem d_L_law_1276 : decode c_L_law 1276 = .ok (.iconst 1, 1) := by decide +kernel
theorem d_L_law_1277 : decode c_L_law 1277 = .ok (.iadd, 1) := by decide +kernel
theorem d_L_law_1278 : decode c_L_law 1278 = .ok (.iaload, 1) := by decide +kernel
theorem d_L_law_1279 : decode c_L_law 1279 = .ok (.i2l, 1) := by decide +kernel
theorem d_L_law_1280 : decode c_L_law 1280 = .ok (.bipush 32, 2) := by decide +kernel
theorem d_L_law_1282 : decode c_L_law 1282 = .ok (.lshl, 1) := by decide +kernel
theorem d_L_law_1283 : decode c_L_law 1283 = .ok (.aload_n 0, 1) := by decide +kernel
theorem d_L_law_1284 : decode c_L_law 1284 = .ok (.iload 4, 2) := by decide +kernel
theorem d_L_law_1286 : decode c_L_law 1286 = .ok (.iconst 2, 1) := by decide +kernel
theorem d_L_law_1287 : decode c_L_law 1287 = .ok (.iadd, 1) := by decide +kernel
theorem d_L_law_1288 : decode c_L_law 1288 = .ok (.iaload, 1) := by decide +kernel
theorem d_L_law_1289 : decode c_L_law 1289 = .ok (.i2l, 1) := by decide +kernel
theorem d_L_law_1290 : decode c_L_law 1290 = .ok (.ldc2_w 69, 3) := by decide +kernel
theorem d_L_law_1293 : decode c_L_law 1293 = .ok (.land, 1) := by decide +kernel
theorem d_L_law_1294 : decode c_L_law 1294 = .ok (.lor, 1) := by decide +kernel
theorem d_L_law_1295 : decode c_L_law 1295 = .ok (.invokevirtual 133, 3) := by decide +kernel
theorem d_L_law_1298 : decode c_L_law 1298 = .ok (.aload_n 2, 1) := by decide +kernel
theorem d_L_law_1299 : decode c_L_law 1299 = .ok (.aload_n 0, 1) := by decide +kernel
theorem d_L_law_1300 : decode c_L_law 1300 = .ok (.iload 4, 2) := by decide +kernel
theorem d_L_law_1302 : decode c_L_law 1302 = .ok (.iconst 1, 1) := by decide +kernel
theorem d_L_law_1303 : decode c_L_law 1303 = .ok (.iadd, 1) := by decide +kernel
theorem d_L_law_1304 : decode c_L_law 1304 = .ok (.iaload, 1) := by decide +kernel
theorem d_L_law_1305 : decode c_L_law 1305 = .ok (.i2l, 1) := by decide +kernel
theorem d_L_law_1306 : decode c_L_law 1306 = .ok (.bipush 32, 2) := by decide +kernel
theorem d_L_law_1308 : decode c_L_law 1308 = .ok (.lshl, 1) := by decide +kernel
theorem d_L_law_1309 : decode c_L_law 1309 = .ok (.aload_n 0, 1) := by decide +kernel
theorem d_L_law_1310 : decode c_L_law 1310 = .ok (.iload 4, 2) := by decide +kernel
theorem d_L_law_1312 : decode c_L_law 1312 = .ok (.iconst 2, 1) := by decide +kernel
theorem d_L_law_1313 : decode c_L_law 1313 = .ok (.iadd, 1) := by decide +kernel
theorem d_L_law_1314 : decode c_L_law 1314 = .ok (.iaload, 1) := by decide +kernel
theorem d_L_law_1315 : decode c_L_law 1315 = .ok (.i2l, 1) := by decide +kernel
theorem d_L_law_1316 : decode c_L_law 1316 = .ok (.ldc2_w 69, 3) := by decide +kernel
theorem d_L_law_1319 : decode c_L_law 1319 = .ok (.land, 1) := by decide +kernel
theorem d_L_law_1320 : decode c_L_law 1320 = .ok (.lor, 1) := by decide +kernel
theorem d_L_law_1321 : decode c_L_law 1321 = .ok (.invokevirtual 137, 3) := by decide +kernel
theorem d_L_law_1324 : decode c_L_law 1324 = .ok (.goto 14, 3) := by decide +kernel
theorem d_L_law_1327 : decode c_L_law 1327 = .ok (.aload_n 1, 1) := by decide +kernel
theorem d_L_law_1328 : decode c_L_law 1328 = .ok (.invokevirtual 138, 3) := by decide +kernel
theorem d_L_law_1331 : decode c_L_law 1331 = .ok (.aload_n 2, 1) := by decide +kernel
theorem d_L_law_1332 : decode c_L_law 1332 = .ok (.invokevirtual 141, 3) := by decide +kernel
theorem d_L_law_1335 : decode c_L_law 1335 = .ok (.goto 3, 3) := by decide +kernel
theorem d_L_law_1338 : decode c_L_law 1338 = .ok (.iinc 4 10, 3) := by decide +kernel
theorem d_L_law_1341 : decode c_L_law 1341 = .ok (.goto (-1308), 3) := by decide +kernel
theorem d_L_law_1344 : decode c_L_law 1344 = .ok (.iconst 1, 1) := by decide +kernel
theorem d_L_law_1345 : decode c_L_law 1345 = .ok (.ireturn, 1) := by decide +kernel
