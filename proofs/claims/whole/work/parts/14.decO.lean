theorem d_O_init_0 : decode c_O_init 0 = .ok (.aload_n 0, 1) := by decide +kernel
theorem d_O_init_1 : decode c_O_init 1 = .ok (.invokespecial 3, 3) := by decide +kernel
theorem d_O_init_4 : decode c_O_init 4 = .ok (.aload_n 0, 1) := by decide +kernel
theorem d_O_init_5 : decode c_O_init 5 = .ok (.iconst 4, 1) := by decide +kernel
theorem d_O_init_6 : decode c_O_init 6 = .ok (.iconst 5, 1) := by decide +kernel
theorem d_O_init_7 : decode c_O_init 7 = .ok (.multianewarray 9 2, 4) := by decide +kernel
theorem d_O_init_11 : decode c_O_init 11 = .ok (.putfield 11, 3) := by decide +kernel
theorem d_O_init_14 : decode c_O_init 14 = .ok (.aload_n 0, 1) := by decide +kernel
theorem d_O_init_15 : decode c_O_init 15 = .ok (.iconst 4, 1) := by decide +kernel
theorem d_O_init_16 : decode c_O_init 16 = .ok (.iconst 5, 1) := by decide +kernel
theorem d_O_init_17 : decode c_O_init 17 = .ok (.multianewarray 9 2, 4) := by decide +kernel
theorem d_O_init_21 : decode c_O_init 21 = .ok (.putfield 14, 3) := by decide +kernel
theorem d_O_init_24 : decode c_O_init 24 = .ok (.aload_n 0, 1) := by decide +kernel
theorem d_O_init_25 : decode c_O_init 25 = .ok (.bipush 13, 2) := by decide +kernel
theorem d_O_init_27 : decode c_O_init 27 = .ok (.newarray .long, 2) := by decide +kernel
theorem d_O_init_29 : decode c_O_init 29 = .ok (.putfield 17, 3) := by decide +kernel
theorem d_O_init_32 : decode c_O_init 32 = .ok (.aload_n 0, 1) := by decide +kernel
theorem d_O_init_33 : decode c_O_init 33 = .ok (.bipush 31, 2) := by decide +kernel
theorem d_O_init_35 : decode c_O_init 35 = .ok (.newarray .long, 2) := by decide +kernel
theorem d_O_init_37 : decode c_O_init 37 = .ok (.putfield 21, 3) := by decide +kernel
theorem d_O_init_40 : decode c_O_init 40 = .ok (.aload_n 0, 1) := by decide +kernel
theorem d_O_init_41 : decode c_O_init 41 = .ok (.iconst 5, 1) := by decide +kernel
theorem d_O_init_42 : decode c_O_init 42 = .ok (.newarray .long, 2) := by decide +kernel
theorem d_O_init_44 : decode c_O_init 44 = .ok (.putfield 24, 3) := by decide +kernel
theorem d_O_init_47 : decode c_O_init 47 = .ok (.aload_n 0, 1) := by decide +kernel
theorem d_O_init_48 : decode c_O_init 48 = .ok (.new 27, 3) := by decide +kernel
theorem d_O_init_51 : decode c_O_init 51 = .ok (.dup, 1) := by decide +kernel
theorem d_O_init_52 : decode c_O_init 52 = .ok (.invokespecial 29, 3) := by decide +kernel
theorem d_O_init_55 : decode c_O_init 55 = .ok (.putfield 30, 3) := by decide +kernel
theorem d_O_init_58 : decode c_O_init 58 = .ok (.aload_n 0, 1) := by decide +kernel
theorem d_O_init_59 : decode c_O_init 59 = .ok (.new 34, 3) := by decide +kernel
theorem d_O_init_62 : decode c_O_init 62 = .ok (.dup, 1) := by decide +kernel
theorem d_O_init_63 : decode c_O_init 63 = .ok (.invokespecial 36, 3) := by decide +kernel
theorem d_O_init_66 : decode c_O_init 66 = .ok (.putfield 37, 3) := by decide +kernel
theorem d_O_init_69 : decode c_O_init 69 = .ok (.aload_n 0, 1) := by decide +kernel
theorem d_O_init_70 : decode c_O_init 70 = .ok (.iconst 0, 1) := by decide +kernel
theorem d_O_init_71 : decode c_O_init 71 = .ok (.putfield 41, 3) := by decide +kernel
theorem d_O_init_74 : decode c_O_init 74 = .ok (.aload_n 0, 1) := by decide +kernel
theorem d_O_init_75 : decode c_O_init 75 = .ok (.iconst 1, 1) := by decide +kernel
theorem d_O_init_76 : decode c_O_init 76 = .ok (.iconst 3, 1) := by decide +kernel
theorem d_O_init_77 : decode c_O_init 77 = .ok (.iload_n 1, 1) := by decide +kernel
theorem d_O_init_78 : decode c_O_init 78 = .ok (.invokestatic 45, 3) := by decide +kernel
theorem d_O_init_81 : decode c_O_init 81 = .ok (.invokestatic 51, 3) := by decide +kernel
theorem d_O_init_84 : decode c_O_init 84 = .ok (.putfield 54, 3) := by decide +kernel
theorem d_O_init_87 : decode c_O_init 87 = .ok (.return_, 1) := by decide +kernel
theorem d_O_put_0 : decode c_O_put 0 = .ok (.aload_n 0, 1) := by decide +kernel
theorem d_O_put_1 : decode c_O_put 1 = .ok (.iload_n 1, 1) := by decide +kernel
theorem d_O_put_2 : decode c_O_put 2 = .ok (.iload_n 2, 1) := by decide +kernel
theorem d_O_put_3 : decode c_O_put 3 = .ok (.invokevirtual 58, 3) := by decide +kernel
theorem d_O_put_6 : decode c_O_put 6 = .ok (.lload_n 3, 1) := by decide +kernel
theorem d_O_put_7 : decode c_O_put 7 = .ok (.invokestatic 62, 3) := by decide +kernel
theorem d_O_put_10 : decode c_O_put 10 = .ok (.lstore 5, 2) := by decide +kernel
theorem d_O_put_12 : decode c_O_put 12 = .ok (.aload_n 0, 1) := by decide +kernel
theorem d_O_put_13 : decode c_O_put 13 = .ok (.getfield 11, 3) := by decide +kernel
theorem d_O_put_16 : decode c_O_put 16 = .ok (.iload_n 1, 1) := by decide +kernel
theorem d_O_put_17 : decode c_O_put 17 = .ok (.aaload, 1) := by decide +kernel
theorem d_O_put_18 : decode c_O_put 18 = .ok (.iload_n 2, 1) := by decide +kernel
theorem d_O_put_19 : decode c_O_put 19 = .ok (.laload, 1) := by decide +kernel
theorem d_O_put_20 : decode c_O_put 20 = .ok (.lload 5, 2) := by decide +kernel
theorem d_O_put_22 : decode c_O_put 22 = .ok (.lcmp, 1) := by decide +kernel
theorem d_O_put_23 : decode c_O_put 23 = .ok (.ifCond .ne 5, 3) := by decide +kernel
theorem d_O_put_26 : decode c_O_put 26 = .ok (.iconst 0, 1) := by decide +kernel
theorem d_O_put_27 : decode c_O_put 27 = .ok (.ireturn, 1) := by decide +kernel
theorem d_O_put_28 : decode c_O_put 28 = .ok (.aload_n 0, 1) := by decide +kernel
theorem d_O_put_29 : decode c_O_put 29 = .ok (.getfield 11, 3) := by decide +kernel
theorem d_O_put_32 : decode c_O_put 32 = .ok (.iload_n 1, 1) := by decide +kernel
theorem d_O_put_33 : decode c_O_put 33 = .ok (.aaload, 1) := by decide +kernel
theorem d_O_put_34 : decode c_O_put 34 = .ok (.iload_n 2, 1) := by decide +kernel
theorem d_O_put_35 : decode c_O_put 35 = .ok (.lload 5, 2) := by decide +kernel
theorem d_O_put_37 : decode c_O_put 37 = .ok (.lastore, 1) := by decide +kernel
theorem d_O_put_38 : decode c_O_put 38 = .ok (.aload_n 0, 1) := by decide +kernel
theorem d_O_put_39 : decode c_O_put 39 = .ok (.iconst 0, 1) := by decide +kernel
theorem d_O_put_40 : decode c_O_put 40 = .ok (.putfield 41, 3) := by decide +kernel
theorem d_O_put_43 : decode c_O_put 43 = .ok (.iconst 1, 1) := by decide +kernel
theorem d_O_put_44 : decode c_O_put 44 = .ok (.ireturn, 1) := by decide +kernel
theorem d_O_at_0 : decode c_O_at 0 = .ok (.aload_n 0, 1) := by decide +kernel
theorem d_O_at_1 : decode c_O_at 1 = .ok (.iload_n 1, 1) := by decide +kernel
theorem d_O_at_2 : decode c_O_at 2 = .ok (.iload_n 2, 1) := by decide +kernel
theorem d_O_at_3 : decode c_O_at 3 = .ok (.invokevirtual 58, 3) := by decide +kernel
theorem d_O_at_6 : decode c_O_at 6 = .ok (.aload_n 0, 1) := by decide +kernel
theorem d_O_at_7 : decode c_O_at 7 = .ok (.getfield 11, 3) := by decide +kernel
theorem d_O_at_10 : decode c_O_at 10 = .ok (.iload_n 1, 1) := by decide +kernel
theorem d_O_at_11 : decode c_O_at 11 = .ok (.aaload, 1) := by decide +kernel
theorem d_O_at_12 : decode c_O_at 12 = .ok (.iload_n 2, 1) := by decide +kernel
theorem d_O_at_13 : decode c_O_at 13 = .ok (.laload, 1) := by decide +kernel
theorem d_O_at_14 : decode c_O_at 14 = .ok (.l2i, 1) := by decide +kernel
theorem d_O_at_15 : decode c_O_at 15 = .ok (.ireturn, 1) := by decide +kernel
theorem d_O_hand_0 : decode c_O_hand 0 = .ok (.aload_n 0, 1) := by decide +kernel
theorem d_O_hand_1 : decode c_O_hand 1 = .ok (.iload_n 1, 1) := by decide +kernel
theorem d_O_hand_2 : decode c_O_hand 2 = .ok (.invokevirtual 66, 3) := by decide +kernel
theorem d_O_hand_5 : decode c_O_hand 5 = .ok (.aload_n 0, 1) := by decide +kernel
theorem d_O_hand_6 : decode c_O_hand 6 = .ok (.getfield 17, 3) := by decide +kernel
theorem d_O_hand_9 : decode c_O_hand 9 = .ok (.iload_n 1, 1) := by decide +kernel
theorem d_O_hand_10 : decode c_O_hand 10 = .ok (.lload_n 2, 1) := by decide +kernel
theorem d_O_hand_11 : decode c_O_hand 11 = .ok (.invokestatic 62, 3) := by decide +kernel
theorem d_O_hand_14 : decode c_O_hand 14 = .ok (.lastore, 1) := by decide +kernel
theorem d_O_hand_15 : decode c_O_hand 15 = .ok (.return_, 1) := by decide +kernel
theorem d_O_made_0 : decode c_O_made 0 = .ok (.iload_n 1, 1) := by decide +kernel
theorem d_O_made_1 : decode c_O_made 1 = .ok (.ifCond .lt 9, 3) := by decide +kernel
theorem d_O_made_4 : decode c_O_made 4 = .ok (.iload_n 1, 1) := by decide +kernel
theorem d_O_made_5 : decode c_O_made 5 = .ok (.bipush 17, 2) := by decide +kernel
theorem d_O_made_7 : decode c_O_made 7 = .ok (.if_icmp .lt 5, 3) := by decide +kernel
theorem d_O_made_10 : decode c_O_made 10 = .ok (.iconst 0, 1) := by decide +kernel
theorem d_O_made_11 : decode c_O_made 11 = .ok (.ireturn, 1) := by decide +kernel
theorem d_O_made_12 : decode c_O_made 12 = .ok (.aload_n 0, 1) := by decide +kernel
theorem d_O_made_13 : decode c_O_made 13 = .ok (.iload_n 1, 1) := by decide +kernel
theorem d_O_made_14 : decode c_O_made 14 = .ok (.invokevirtual 70, 3) := by decide +kernel
theorem d_O_made_17 : decode c_O_made 17 = .ok (.l2i, 1) := by decide +kernel
theorem d_O_made_18 : decode c_O_made 18 = .ok (.ireturn, 1) := by decide +kernel
theorem d_O_places_0 : decode c_O_places 0 = .ok (.aload_n 0, 1) := by decide +kernel
theorem d_O_places_1 : decode c_O_places 1 = .ok (.invokevirtual 74, 3) := by decide +kernel
theorem d_O_places_4 : decode c_O_places 4 = .ok (.aload_n 0, 1) := by decide +kernel
theorem d_O_places_5 : decode c_O_places 5 = .ok (.getfield 30, 3) := by decide +kernel
theorem d_O_places_8 : decode c_O_places 8 = .ok (.invokevirtual 77, 3) := by decide +kernel
theorem d_O_places_11 : decode c_O_places 11 = .ok (.ireturn, 1) := by decide +kernel
theorem d_O_place_0 : decode c_O_place 0 = .ok (.aload_n 0, 1) := by decide +kernel
theorem d_O_place_1 : decode c_O_place 1 = .ok (.invokevirtual 74, 3) := by decide +kernel
theorem d_O_place_4 : decode c_O_place 4 = .ok (.iload_n 1, 1) := by decide +kernel
theorem d_O_place_5 : decode c_O_place 5 = .ok (.ifCond .lt 14, 3) := by decide +kernel
theorem d_O_place_8 : decode c_O_place 8 = .ok (.iload_n 1, 1) := by decide +kernel
theorem d_O_place_9 : decode c_O_place 9 = .ok (.aload_n 0, 1) := by decide +kernel
theorem d_O_place_10 : decode c_O_place 10 = .ok (.getfield 30, 3) := by decide +kernel
theorem d_O_place_13 : decode c_O_place 13 = .ok (.invokevirtual 77, 3) := by decide +kernel
theorem d_O_place_16 : decode c_O_place 16 = .ok (.if_icmp .lt 13, 3) := by decide +kernel
theorem d_O_place_19 : decode c_O_place 19 = .ok (.new 81, 3) := by decide +kernel
theorem d_O_place_22 : decode c_O_place 22 = .ok (.dup, 1) := by decide +kernel
theorem d_O_place_23 : decode c_O_place 23 = .ok (.ldc 83, 2) := by decide +kernel
theorem d_O_place_25 : decode c_O_place 25 = .ok (.invokespecial 85, 3) := by decide +kernel
theorem d_O_place_28 : decode c_O_place 28 = .ok (.athrow, 1) := by decide +kernel
theorem d_O_place_29 : decode c_O_place 29 = .ok (.aload_n 0, 1) := by decide +kernel
theorem d_O_place_30 : decode c_O_place 30 = .ok (.getfield 30, 3) := by decide +kernel
theorem d_O_place_33 : decode c_O_place 33 = .ok (.iload_n 1, 1) := by decide +kernel
theorem d_O_place_34 : decode c_O_place 34 = .ok (.invokevirtual 88, 3) := by decide +kernel
theorem d_O_place_37 : decode c_O_place 37 = .ok (.ireturn, 1) := by decide +kernel
theorem d_O_level_0 : decode c_O_level 0 = .ok (.aload_n 0, 1) := by decide +kernel
theorem d_O_level_1 : decode c_O_level 1 = .ok (.iload_n 1, 1) := by decide +kernel
theorem d_O_level_2 : decode c_O_level 2 = .ok (.lload_n 2, 1) := by decide +kernel
theorem d_O_level_3 : decode c_O_level 3 = .ok (.invokevirtual 92, 3) := by decide +kernel
theorem d_O_level_6 : decode c_O_level 6 = .ok (.ireturn, 1) := by decide +kernel
theorem d_O_regular_0 : decode c_O_regular 0 = .ok (.aload_n 0, 1) := by decide +kernel
theorem d_O_regular_1 : decode c_O_regular 1 = .ok (.iload_n 1, 1) := by decide +kernel
theorem d_O_regular_2 : decode c_O_regular 2 = .ok (.lload_n 2, 1) := by decide +kernel
theorem d_O_regular_3 : decode c_O_regular 3 = .ok (.invokevirtual 92, 3) := by decide +kernel
theorem d_O_regular_6 : decode c_O_regular 6 = .ok (.istore 4, 2) := by decide +kernel
theorem d_O_regular_8 : decode c_O_regular 8 = .ok (.aload_n 0, 1) := by decide +kernel
theorem d_O_regular_9 : decode c_O_regular 9 = .ok (.aload_n 0, 1) := by decide +kernel
theorem d_O_regular_10 : decode c_O_regular 10 = .ok (.getfield 54, 3) := by decide +kernel
theorem d_O_regular_13 : decode c_O_regular 13 = .ok (.iload 4, 2) := by decide +kernel
theorem d_O_regular_15 : decode c_O_regular 15 = .ok (.aload_n 0, 1) := by decide +kernel
theorem d_O_regular_16 : decode c_O_regular 16 = .ok (.getfield 54, 3) := by decide +kernel
theorem d_O_regular_19 : decode c_O_regular 19 = .ok (.iadd, 1) := by decide +kernel
theorem d_O_regular_20 : decode c_O_regular 20 = .ok (.invokevirtual 96, 3) := by decide +kernel
theorem d_O_regular_23 : decode c_O_regular 23 = .ok (.lconst 0, 1) := by decide +kernel
theorem d_O_regular_24 : decode c_O_regular 24 = .ok (.lcmp, 1) := by decide +kernel
theorem d_O_regular_25 : decode c_O_regular 25 = .ok (.ifCond .eq 7, 3) := by decide +kernel
theorem d_O_regular_28 : decode c_O_regular 28 = .ok (.iconst 1, 1) := by decide +kernel
theorem d_O_regular_29 : decode c_O_regular 29 = .ok (.goto 4, 3) := by decide +kernel
theorem d_O_regular_32 : decode c_O_regular 32 = .ok (.iconst 0, 1) := by decide +kernel
theorem d_O_regular_33 : decode c_O_regular 33 = .ok (.ireturn, 1) := by decide +kernel
theorem d_O_exponent_0 : decode c_O_exponent 0 = .ok (.aload_n 0, 1) := by decide +kernel
theorem d_O_exponent_1 : decode c_O_exponent 1 = .ok (.aload_n 0, 1) := by decide +kernel
theorem d_O_exponent_2 : decode c_O_exponent 2 = .ok (.iload_n 1, 1) := by decide +kernel
theorem d_O_exponent_3 : decode c_O_exponent 3 = .ok (.lload_n 2, 1) := by decide +kernel
theorem d_O_exponent_4 : decode c_O_exponent 4 = .ok (.invokevirtual 92, 3) := by decide +kernel
theorem d_O_exponent_7 : decode c_O_exponent 7 = .ok (.invokevirtual 100, 3) := by decide +kernel
theorem d_O_exponent_10 : decode c_O_exponent 10 = .ok (.aload_n 0, 1) := by decide +kernel
theorem d_O_exponent_11 : decode c_O_exponent 11 = .ok (.getfield 30, 3) := by decide +kernel
theorem d_O_exponent_14 : decode c_O_exponent 14 = .ok (.aload_n 0, 1) := by decide +kernel
theorem d_O_exponent_15 : decode c_O_exponent 15 = .ok (.getfield 24, 3) := by decide +kernel
theorem d_O_exponent_18 : decode c_O_exponent 18 = .ok (.invokevirtual 103, 3) := by decide +kernel
theorem d_O_exponent_21 : decode c_O_exponent 21 = .ok (.aload_n 0, 1) := by decide +kernel
theorem d_O_exponent_22 : decode c_O_exponent 22 = .ok (.getfield 30, 3) := by decide +kernel
theorem d_O_exponent_25 : decode c_O_exponent 25 = .ok (.iload 4, 2) := by decide +kernel
theorem d_O_exponent_27 : decode c_O_exponent 27 = .ok (.invokevirtual 88, 3) := by decide +kernel
theorem d_O_exponent_30 : decode c_O_exponent 30 = .ok (.ireturn, 1) := by decide +kernel
theorem d_O_answers_0 : decode c_O_answers 0 = .ok (.aload_n 0, 1) := by decide +kernel
theorem d_O_answers_1 : decode c_O_answers 1 = .ok (.invokevirtual 107, 3) := by decide +kernel
theorem d_O_answers_4 : decode c_O_answers 4 = .ok (.aload_n 0, 1) := by decide +kernel
theorem d_O_answers_5 : decode c_O_answers 5 = .ok (.getfield 37, 3) := by decide +kernel
theorem d_O_answers_8 : decode c_O_answers 8 = .ok (.invokevirtual 110, 3) := by decide +kernel
theorem d_O_answers_11 : decode c_O_answers 11 = .ok (.ireturn, 1) := by decide +kernel
theorem d_O_answer_0 : decode c_O_answer 0 = .ok (.aload_n 0, 1) := by decide +kernel
theorem d_O_answer_1 : decode c_O_answer 1 = .ok (.iload_n 2, 1) := by decide +kernel
theorem d_O_answer_2 : decode c_O_answer 2 = .ok (.invokevirtual 66, 3) := by decide +kernel
theorem d_O_answer_5 : decode c_O_answer 5 = .ok (.aload_n 0, 1) := by decide +kernel
theorem d_O_answer_6 : decode c_O_answer 6 = .ok (.iload_n 1, 1) := by decide +kernel
theorem d_O_answer_7 : decode c_O_answer 7 = .ok (.invokevirtual 113, 3) := by decide +kernel
theorem d_O_answer_10 : decode c_O_answer 10 = .ok (.aload_n 0, 1) := by decide +kernel
theorem d_O_answer_11 : decode c_O_answer 11 = .ok (.getfield 37, 3) := by decide +kernel
theorem d_O_answer_14 : decode c_O_answer 14 = .ok (.iload_n 1, 1) := by decide +kernel
theorem d_O_answer_15 : decode c_O_answer 15 = .ok (.invokevirtual 116, 3) := by decide +kernel
theorem d_O_answer_18 : decode c_O_answer 18 = .ok (.iload_n 2, 1) := by decide +kernel
theorem d_O_answer_19 : decode c_O_answer 19 = .ok (.laload, 1) := by decide +kernel
theorem d_O_answer_20 : decode c_O_answer 20 = .ok (.l2i, 1) := by decide +kernel
theorem d_O_answer_21 : decode c_O_answer 21 = .ok (.ireturn, 1) := by decide +kernel
theorem d_O_solves_0 : decode c_O_solves 0 = .ok (.iconst 0, 1) := by decide +kernel
theorem d_O_solves_1 : decode c_O_solves 1 = .ok (.istore_n 1, 1) := by decide +kernel
theorem d_O_solves_2 : decode c_O_solves 2 = .ok (.iload_n 1, 1) := by decide +kernel
theorem d_O_solves_3 : decode c_O_solves 3 = .ok (.bipush 17, 2) := by decide +kernel
theorem d_O_solves_5 : decode c_O_solves 5 = .ok (.if_icmp .ge 21, 3) := by decide +kernel
theorem d_O_solves_8 : decode c_O_solves 8 = .ok (.aload_n 0, 1) := by decide +kernel
theorem d_O_solves_9 : decode c_O_solves 9 = .ok (.iload_n 1, 1) := by decide +kernel
theorem d_O_solves_10 : decode c_O_solves 10 = .ok (.invokevirtual 70, 3) := by decide +kernel
theorem d_O_solves_13 : decode c_O_solves 13 = .ok (.lconst 0, 1) := by decide +kernel
theorem d_O_solves_14 : decode c_O_solves 14 = .ok (.lcmp, 1) := by decide +kernel
theorem d_O_solves_15 : decode c_O_solves 15 = .ok (.ifCond .eq 5, 3) := by decide +kernel
theorem d_O_solves_18 : decode c_O_solves 18 = .ok (.iconst 0, 1) := by decide +kernel
theorem d_O_solves_19 : decode c_O_solves 19 = .ok (.ireturn, 1) := by decide +kernel
theorem d_O_solves_20 : decode c_O_solves 20 = .ok (.iinc 1 1, 3) := by decide +kernel
theorem d_O_solves_23 : decode c_O_solves 23 = .ok (.goto (-21), 3) := by decide +kernel
theorem d_O_solves_26 : decode c_O_solves 26 = .ok (.iconst 1, 1) := by decide +kernel
theorem d_O_solves_27 : decode c_O_solves 27 = .ok (.ireturn, 1) := by decide +kernel
theorem d_O_take_0 : decode c_O_take 0 = .ok (.aload_n 0, 1) := by decide +kernel
theorem d_O_take_1 : decode c_O_take 1 = .ok (.iload_n 1, 1) := by decide +kernel
theorem d_O_take_2 : decode c_O_take 2 = .ok (.invokevirtual 113, 3) := by decide +kernel
theorem d_O_take_5 : decode c_O_take 5 = .ok (.aload_n 0, 1) := by decide +kernel
theorem d_O_take_6 : decode c_O_take 6 = .ok (.getfield 37, 3) := by decide +kernel
theorem d_O_take_9 : decode c_O_take 9 = .ok (.iload_n 1, 1) := by decide +kernel
theorem d_O_take_10 : decode c_O_take 10 = .ok (.invokevirtual 116, 3) := by decide +kernel
theorem d_O_take_13 : decode c_O_take 13 = .ok (.iconst 0, 1) := by decide +kernel
theorem d_O_take_14 : decode c_O_take 14 = .ok (.aload_n 0, 1) := by decide +kernel
theorem d_O_take_15 : decode c_O_take 15 = .ok (.getfield 17, 3) := by decide +kernel
theorem d_O_take_18 : decode c_O_take 18 = .ok (.iconst 0, 1) := by decide +kernel
theorem d_O_take_19 : decode c_O_take 19 = .ok (.bipush 13, 2) := by decide +kernel
theorem d_O_take_21 : decode c_O_take 21 = .ok (.invokestatic 120, 3) := by decide +kernel
theorem d_O_take_24 : decode c_O_take 24 = .ok (.return_, 1) := by decide +kernel
theorem d_O_series_0 : decode c_O_series 0 = .ok (.iload 9, 2) := by decide +kernel
theorem d_O_series_2 : decode c_O_series 2 = .ok (.ifCond .lt 10, 3) := by decide +kernel
theorem d_O_series_5 : decode c_O_series 5 = .ok (.iload 9, 2) := by decide +kernel
theorem d_O_series_7 : decode c_O_series 7 = .ok (.bipush 31, 2) := by decide +kernel
theorem d_O_series_9 : decode c_O_series 9 = .ok (.if_icmp .lt 13, 3) := by decide +kernel
theorem d_O_series_12 : decode c_O_series 12 = .ok (.new 81, 3) := by decide +kernel
theorem d_O_series_15 : decode c_O_series 15 = .ok (.dup, 1) := by decide +kernel
theorem d_O_series_16 : decode c_O_series 16 = .ok (.ldc 126, 2) := by decide +kernel
theorem d_O_series_18 : decode c_O_series 18 = .ok (.invokespecial 85, 3) := by decide +kernel
theorem d_O_series_21 : decode c_O_series 21 = .ok (.athrow, 1) := by decide +kernel
theorem d_O_series_22 : decode c_O_series 22 = .ok (.aload_n 0, 1) := by decide +kernel
theorem d_O_series_23 : decode c_O_series 23 = .ok (.lload_n 1, 1) := by decide +kernel
theorem d_O_series_24 : decode c_O_series 24 = .ok (.invokestatic 62, 3) := by decide +kernel
theorem d_O_series_27 : decode c_O_series 27 = .ok (.invokevirtual 128, 3) := by decide +kernel
theorem d_O_series_30 : decode c_O_series 30 = .ok (.aload_n 0, 1) := by decide +kernel
theorem d_O_series_31 : decode c_O_series 31 = .ok (.getfield 14, 3) := by decide +kernel
theorem d_O_series_34 : decode c_O_series 34 = .ok (.aload_n 0, 1) := by decide +kernel
theorem d_O_series_35 : decode c_O_series 35 = .ok (.getfield 54, 3) := by decide +kernel
theorem d_O_series_38 : decode c_O_series 38 = .ok (.aaload, 1) := by decide +kernel
theorem d_O_series_39 : decode c_O_series 39 = .ok (.iconst 0, 1) := by decide +kernel
theorem d_O_series_40 : decode c_O_series 40 = .ok (.laload, 1) := by decide +kernel
theorem d_O_series_41 : decode c_O_series 41 = .ok (.lconst 0, 1) := by decide +kernel
theorem d_O_series_42 : decode c_O_series 42 = .ok (.lcmp, 1) := by decide +kernel
theorem d_O_series_43 : decode c_O_series 43 = .ok (.ifCond .ne 13, 3) := by decide +kernel
theorem d_O_series_46 : decode c_O_series 46 = .ok (.new 132, 3) := by decide +kernel
theorem d_O_series_49 : decode c_O_series 49 = .ok (.dup, 1) := by decide +kernel
theorem d_O_series_50 : decode c_O_series 50 = .ok (.ldc 134, 2) := by decide +kernel
theorem d_O_series_52 : decode c_O_series 52 = .ok (.invokespecial 136, 3) := by decide +kernel
theorem d_O_series_55 : decode c_O_series 55 = .ok (.athrow, 1) := by decide +kernel
theorem d_O_series_56 : decode c_O_series 56 = .ok (.aload_n 0, 1) := by decide +kernel
theorem d_O_series_57 : decode c_O_series 57 = .ok (.getfield 21, 3) := by decide +kernel
theorem d_O_series_60 : decode c_O_series 60 = .ok (.iconst 0, 1) := by decide +kernel
theorem d_O_series_61 : decode c_O_series 61 = .ok (.lload_n 3, 1) := by decide +kernel
theorem d_O_series_62 : decode c_O_series 62 = .ok (.invokestatic 62, 3) := by decide +kernel
theorem d_O_series_65 : decode c_O_series 65 = .ok (.lastore, 1) := by decide +kernel
theorem d_O_series_66 : decode c_O_series 66 = .ok (.aload_n 0, 1) := by decide +kernel
theorem d_O_series_67 : decode c_O_series 67 = .ok (.getfield 21, 3) := by decide +kernel
theorem d_O_series_70 : decode c_O_series 70 = .ok (.iconst 1, 1) := by decide +kernel
theorem d_O_series_71 : decode c_O_series 71 = .ok (.lload 5, 2) := by decide +kernel
theorem d_O_series_73 : decode c_O_series 73 = .ok (.invokestatic 62, 3) := by decide +kernel
theorem d_O_series_76 : decode c_O_series 76 = .ok (.lastore, 1) := by decide +kernel
theorem d_O_series_77 : decode c_O_series 77 = .ok (.aload_n 0, 1) := by decide +kernel
theorem d_O_series_78 : decode c_O_series 78 = .ok (.getfield 21, 3) := by decide +kernel
theorem d_O_series_81 : decode c_O_series 81 = .ok (.iconst 2, 1) := by decide +kernel
theorem d_O_series_82 : decode c_O_series 82 = .ok (.lload 7, 2) := by decide +kernel
theorem d_O_series_84 : decode c_O_series 84 = .ok (.invokestatic 62, 3) := by decide +kernel
theorem d_O_series_87 : decode c_O_series 87 = .ok (.lastore, 1) := by decide +kernel
theorem d_O_series_88 : decode c_O_series 88 = .ok (.aload_n 0, 1) := by decide +kernel
theorem d_O_series_89 : decode c_O_series 89 = .ok (.getfield 54, 3) := by decide +kernel
theorem d_O_series_92 : decode c_O_series 92 = .ok (.istore 10, 2) := by decide +kernel
theorem d_O_series_94 : decode c_O_series 94 = .ok (.iload 10, 2) := by decide +kernel
theorem d_O_series_96 : decode c_O_series 96 = .ok (.iload 9, 2) := by decide +kernel
theorem d_O_series_98 : decode c_O_series 98 = .ok (.if_icmp .gt 22, 3) := by decide +kernel
theorem d_O_series_101 : decode c_O_series 101 = .ok (.aload_n 0, 1) := by decide +kernel
theorem d_O_series_102 : decode c_O_series 102 = .ok (.getfield 21, 3) := by decide +kernel
theorem d_O_series_105 : decode c_O_series 105 = .ok (.iload 10, 2) := by decide +kernel
theorem d_O_series_107 : decode c_O_series 107 = .ok (.aload_n 0, 1) := by decide +kernel
theorem d_O_series_108 : decode c_O_series 108 = .ok (.iload 10, 2) := by decide +kernel
theorem d_O_series_110 : decode c_O_series 110 = .ok (.invokevirtual 137, 3) := by decide +kernel
theorem d_O_series_113 : decode c_O_series 113 = .ok (.lastore, 1) := by decide +kernel
theorem d_O_series_114 : decode c_O_series 114 = .ok (.iinc 10 1, 3) := by decide +kernel
theorem d_O_series_117 : decode c_O_series 117 = .ok (.goto (-23), 3) := by decide +kernel
theorem d_O_series_120 : decode c_O_series 120 = .ok (.aload_n 0, 1) := by decide +kernel
theorem d_O_series_121 : decode c_O_series 121 = .ok (.getfield 21, 3) := by decide +kernel
theorem d_O_series_124 : decode c_O_series 124 = .ok (.iload 9, 2) := by decide +kernel
theorem d_O_series_126 : decode c_O_series 126 = .ok (.laload, 1) := by decide +kernel
theorem d_O_series_127 : decode c_O_series 127 = .ok (.l2i, 1) := by decide +kernel
theorem d_O_series_128 : decode c_O_series 128 = .ok (.ireturn, 1) := by decide +kernel
theorem d_O_turn_0 : decode c_O_turn 0 = .ok (.iconst 0, 1) := by decide +kernel
theorem d_O_turn_1 : decode c_O_turn 1 = .ok (.istore_n 1, 1) := by decide +kernel
theorem d_O_turn_2 : decode c_O_turn 2 = .ok (.iload_n 1, 1) := by decide +kernel
theorem d_O_turn_3 : decode c_O_turn 3 = .ok (.aload_n 0, 1) := by decide +kernel
theorem d_O_turn_4 : decode c_O_turn 4 = .ok (.getfield 54, 3) := by decide +kernel
theorem d_O_turn_7 : decode c_O_turn 7 = .ok (.if_icmp .gt 36, 3) := by decide +kernel
theorem d_O_turn_10 : decode c_O_turn 10 = .ok (.iconst 0, 1) := by decide +kernel
theorem d_O_turn_11 : decode c_O_turn 11 = .ok (.istore_n 2, 1) := by decide +kernel
theorem d_O_turn_12 : decode c_O_turn 12 = .ok (.iload_n 2, 1) := by decide +kernel
theorem d_O_turn_13 : decode c_O_turn 13 = .ok (.iconst 5, 1) := by decide +kernel
theorem d_O_turn_14 : decode c_O_turn 14 = .ok (.if_icmp .ge 23, 3) := by decide +kernel
theorem d_O_turn_17 : decode c_O_turn 17 = .ok (.aload_n 0, 1) := by decide +kernel
theorem d_O_turn_18 : decode c_O_turn 18 = .ok (.getfield 14, 3) := by decide +kernel
theorem d_O_turn_21 : decode c_O_turn 21 = .ok (.iload_n 1, 1) := by decide +kernel
theorem d_O_turn_22 : decode c_O_turn 22 = .ok (.aaload, 1) := by decide +kernel
theorem d_O_turn_23 : decode c_O_turn 23 = .ok (.iload_n 2, 1) := by decide +kernel
theorem d_O_turn_24 : decode c_O_turn 24 = .ok (.aload_n 0, 1) := by decide +kernel
theorem d_O_turn_25 : decode c_O_turn 25 = .ok (.iload_n 1, 1) := by decide +kernel
theorem d_O_turn_26 : decode c_O_turn 26 = .ok (.iload_n 2, 1) := by decide +kernel
theorem d_O_turn_27 : decode c_O_turn 27 = .ok (.invokevirtual 140, 3) := by decide +kernel
theorem d_O_turn_30 : decode c_O_turn 30 = .ok (.lastore, 1) := by decide +kernel
theorem d_O_turn_31 : decode c_O_turn 31 = .ok (.iinc 2 1, 3) := by decide +kernel
theorem d_O_turn_34 : decode c_O_turn 34 = .ok (.goto (-22), 3) := by decide +kernel
theorem d_O_turn_37 : decode c_O_turn 37 = .ok (.iinc 1 1, 3) := by decide +kernel
theorem d_O_turn_40 : decode c_O_turn 40 = .ok (.goto (-38), 3) := by decide +kernel
theorem d_O_turn_43 : decode c_O_turn 43 = .ok (.iconst 0, 1) := by decide +kernel
theorem d_O_turn_44 : decode c_O_turn 44 = .ok (.istore_n 1, 1) := by decide +kernel
theorem d_O_turn_45 : decode c_O_turn 45 = .ok (.iload_n 1, 1) := by decide +kernel
theorem d_O_turn_46 : decode c_O_turn 46 = .ok (.aload_n 0, 1) := by decide +kernel
theorem d_O_turn_47 : decode c_O_turn 47 = .ok (.getfield 54, 3) := by decide +kernel
theorem d_O_turn_50 : decode c_O_turn 50 = .ok (.if_icmp .gt 27, 3) := by decide +kernel
theorem d_O_turn_53 : decode c_O_turn 53 = .ok (.aload_n 0, 1) := by decide +kernel
theorem d_O_turn_54 : decode c_O_turn 54 = .ok (.getfield 14, 3) := by decide +kernel
theorem d_O_turn_57 : decode c_O_turn 57 = .ok (.iload_n 1, 1) := by decide +kernel
theorem d_O_turn_58 : decode c_O_turn 58 = .ok (.aaload, 1) := by decide +kernel
theorem d_O_turn_59 : decode c_O_turn 59 = .ok (.iconst 0, 1) := by decide +kernel
theorem d_O_turn_60 : decode c_O_turn 60 = .ok (.aload_n 0, 1) := by decide +kernel
theorem d_O_turn_61 : decode c_O_turn 61 = .ok (.getfield 11, 3) := by decide +kernel
theorem d_O_turn_64 : decode c_O_turn 64 = .ok (.iload_n 1, 1) := by decide +kernel
theorem d_O_turn_65 : decode c_O_turn 65 = .ok (.aaload, 1) := by decide +kernel
theorem d_O_turn_66 : decode c_O_turn 66 = .ok (.iconst 0, 1) := by decide +kernel
theorem d_O_turn_67 : decode c_O_turn 67 = .ok (.iconst 5, 1) := by decide +kernel
theorem d_O_turn_68 : decode c_O_turn 68 = .ok (.invokestatic 120, 3) := by decide +kernel
theorem d_O_turn_71 : decode c_O_turn 71 = .ok (.iinc 1 1, 3) := by decide +kernel
theorem d_O_turn_74 : decode c_O_turn 74 = .ok (.goto (-29), 3) := by decide +kernel
theorem d_O_turn_77 : decode c_O_turn 77 = .ok (.aload_n 0, 1) := by decide +kernel
theorem d_O_turn_78 : decode c_O_turn 78 = .ok (.iconst 0, 1) := by decide +kernel
theorem d_O_turn_79 : decode c_O_turn 79 = .ok (.putfield 41, 3) := by decide +kernel
theorem d_O_turn_82 : decode c_O_turn 82 = .ok (.return_, 1) := by decide +kernel
theorem d_O_move_0 : decode c_O_move 0 = .ok (.lload_n 1, 1) := by decide +kernel
theorem d_O_move_1 : decode c_O_move 1 = .ok (.invokestatic 62, 3) := by decide +kernel
theorem d_O_move_4 : decode c_O_move 4 = .ok (.lstore_n 3, 1) := by decide +kernel
theorem d_O_move_5 : decode c_O_move 5 = .ok (.iconst 0, 1) := by decide +kernel
theorem d_O_move_6 : decode c_O_move 6 = .ok (.istore 5, 2) := by decide +kernel
theorem d_O_move_8 : decode c_O_move 8 = .ok (.iload 5, 2) := by decide +kernel
theorem d_O_move_10 : decode c_O_move 10 = .ok (.aload_n 0, 1) := by decide +kernel
theorem d_O_move_11 : decode c_O_move 11 = .ok (.getfield 54, 3) := by decide +kernel
theorem d_O_move_14 : decode c_O_move 14 = .ok (.if_icmp .gt 20, 3) := by decide +kernel
theorem d_O_move_17 : decode c_O_move 17 = .ok (.aload_n 0, 1) := by decide +kernel
theorem d_O_move_18 : decode c_O_move 18 = .ok (.getfield 11, 3) := by decide +kernel
theorem d_O_move_21 : decode c_O_move 21 = .ok (.iload 5, 2) := by decide +kernel
theorem d_O_move_23 : decode c_O_move 23 = .ok (.aaload, 1) := by decide +kernel
theorem d_O_move_24 : decode c_O_move 24 = .ok (.lload_n 3, 1) := by decide +kernel
theorem d_O_move_25 : decode c_O_move 25 = .ok (.invokestatic 143, 3) := by decide +kernel
theorem d_O_move_28 : decode c_O_move 28 = .ok (.iinc 5 1, 3) := by decide +kernel
theorem d_O_move_31 : decode c_O_move 31 = .ok (.goto (-23), 3) := by decide +kernel
theorem d_O_move_34 : decode c_O_move 34 = .ok (.aload_n 0, 1) := by decide +kernel
theorem d_O_move_35 : decode c_O_move 35 = .ok (.iconst 0, 1) := by decide +kernel
theorem d_O_move_36 : decode c_O_move 36 = .ok (.putfield 41, 3) := by decide +kernel
theorem d_O_move_39 : decode c_O_move 39 = .ok (.return_, 1) := by decide +kernel
theorem d_O_clear_0 : decode c_O_clear 0 = .ok (.iconst 0, 1) := by decide +kernel
theorem d_O_clear_1 : decode c_O_clear 1 = .ok (.istore_n 1, 1) := by decide +kernel
theorem d_O_clear_2 : decode c_O_clear 2 = .ok (.iload_n 1, 1) := by decide +kernel
theorem d_O_clear_3 : decode c_O_clear 3 = .ok (.aload_n 0, 1) := by decide +kernel
theorem d_O_clear_4 : decode c_O_clear 4 = .ok (.getfield 54, 3) := by decide +kernel
theorem d_O_clear_7 : decode c_O_clear 7 = .ok (.if_icmp .gt 19, 3) := by decide +kernel
theorem d_O_clear_10 : decode c_O_clear 10 = .ok (.aload_n 0, 1) := by decide +kernel
theorem d_O_clear_11 : decode c_O_clear 11 = .ok (.getfield 11, 3) := by decide +kernel
theorem d_O_clear_14 : decode c_O_clear 14 = .ok (.iload_n 1, 1) := by decide +kernel
theorem d_O_clear_15 : decode c_O_clear 15 = .ok (.aaload, 1) := by decide +kernel
theorem d_O_clear_16 : decode c_O_clear 16 = .ok (.lconst 0, 1) := by decide +kernel
theorem d_O_clear_17 : decode c_O_clear 17 = .ok (.invokestatic 147, 3) := by decide +kernel
theorem d_O_clear_20 : decode c_O_clear 20 = .ok (.iinc 1 1, 3) := by decide +kernel
theorem d_O_clear_23 : decode c_O_clear 23 = .ok (.goto (-21), 3) := by decide +kernel
theorem d_O_clear_26 : decode c_O_clear 26 = .ok (.aload_n 0, 1) := by decide +kernel
theorem d_O_clear_27 : decode c_O_clear 27 = .ok (.getfield 17, 3) := by decide +kernel
theorem d_O_clear_30 : decode c_O_clear 30 = .ok (.lconst 0, 1) := by decide +kernel
theorem d_O_clear_31 : decode c_O_clear 31 = .ok (.invokestatic 147, 3) := by decide +kernel
theorem d_O_clear_34 : decode c_O_clear 34 = .ok (.aload_n 0, 1) := by decide +kernel
theorem d_O_clear_35 : decode c_O_clear 35 = .ok (.iconst 0, 1) := by decide +kernel
theorem d_O_clear_36 : decode c_O_clear 36 = .ok (.putfield 41, 3) := by decide +kernel
theorem d_O_clear_39 : decode c_O_clear 39 = .ok (.return_, 1) := by decide +kernel
theorem d_O_needFactorPower_0 : decode c_O_needFactorPower 0 = .ok (.iload_n 1, 1) := by decide +kernel
theorem d_O_needFactorPower_1 : decode c_O_needFactorPower 1 = .ok (.ifCond .lt 20, 3) := by decide +kernel
theorem d_O_needFactorPower_4 : decode c_O_needFactorPower 4 = .ok (.iload_n 1, 1) := by decide +kernel
theorem d_O_needFactorPower_5 : decode c_O_needFactorPower 5 = .ok (.aload_n 0, 1) := by decide +kernel
theorem d_O_needFactorPower_6 : decode c_O_needFactorPower 6 = .ok (.getfield 54, 3) := by decide +kernel
theorem d_O_needFactorPower_9 : decode c_O_needFactorPower 9 = .ok (.if_icmp .gt 12, 3) := by decide +kernel
theorem d_O_needFactorPower_12 : decode c_O_needFactorPower 12 = .ok (.iload_n 2, 1) := by decide +kernel
theorem d_O_needFactorPower_13 : decode c_O_needFactorPower 13 = .ok (.ifCond .lt 8, 3) := by decide +kernel
theorem d_O_needFactorPower_16 : decode c_O_needFactorPower 16 = .ok (.iload_n 2, 1) := by decide +kernel
theorem d_O_needFactorPower_17 : decode c_O_needFactorPower 17 = .ok (.iconst 5, 1) := by decide +kernel
theorem d_O_needFactorPower_18 : decode c_O_needFactorPower 18 = .ok (.if_icmp .lt 13, 3) := by decide +kernel
theorem d_O_needFactorPower_21 : decode c_O_needFactorPower 21 = .ok (.new 81, 3) := by decide +kernel
theorem d_O_needFactorPower_24 : decode c_O_needFactorPower 24 = .ok (.dup, 1) := by decide +kernel
theorem d_O_needFactorPower_25 : decode c_O_needFactorPower 25 = .ok (.ldc 152, 2) := by decide +kernel
theorem d_O_needFactorPower_27 : decode c_O_needFactorPower 27 = .ok (.invokespecial 85, 3) := by decide +kernel
theorem d_O_needFactorPower_30 : decode c_O_needFactorPower 30 = .ok (.athrow, 1) := by decide +kernel
theorem d_O_needFactorPower_31 : decode c_O_needFactorPower 31 = .ok (.return_, 1) := by decide +kernel
theorem d_O_needHandPower_0 : decode c_O_needHandPower 0 = .ok (.iload_n 1, 1) := by decide +kernel
theorem d_O_needHandPower_1 : decode c_O_needHandPower 1 = .ok (.ifCond .lt 9, 3) := by decide +kernel
theorem d_O_needHandPower_4 : decode c_O_needHandPower 4 = .ok (.iload_n 1, 1) := by decide +kernel
theorem d_O_needHandPower_5 : decode c_O_needHandPower 5 = .ok (.bipush 13, 2) := by decide +kernel
theorem d_O_needHandPower_7 : decode c_O_needHandPower 7 = .ok (.if_icmp .lt 13, 3) := by decide +kernel
theorem d_O_needHandPower_10 : decode c_O_needHandPower 10 = .ok (.new 81, 3) := by decide +kernel
theorem d_O_needHandPower_13 : decode c_O_needHandPower 13 = .ok (.dup, 1) := by decide +kernel
theorem d_O_needHandPower_14 : decode c_O_needHandPower 14 = .ok (.ldc 154, 2) := by decide +kernel
theorem d_O_needHandPower_16 : decode c_O_needHandPower 16 = .ok (.invokespecial 85, 3) := by decide +kernel
theorem d_O_needHandPower_19 : decode c_O_needHandPower 19 = .ok (.athrow, 1) := by decide +kernel
theorem d_O_needHandPower_20 : decode c_O_needHandPower 20 = .ok (.return_, 1) := by decide +kernel
theorem d_O_needMember_0 : decode c_O_needMember 0 = .ok (.aload_n 0, 1) := by decide +kernel
theorem d_O_needMember_1 : decode c_O_needMember 1 = .ok (.invokevirtual 107, 3) := by decide +kernel
theorem d_O_needMember_4 : decode c_O_needMember 4 = .ok (.iload_n 1, 1) := by decide +kernel
theorem d_O_needMember_5 : decode c_O_needMember 5 = .ok (.ifCond .lt 14, 3) := by decide +kernel
theorem d_O_needMember_8 : decode c_O_needMember 8 = .ok (.iload_n 1, 1) := by decide +kernel
theorem d_O_needMember_9 : decode c_O_needMember 9 = .ok (.aload_n 0, 1) := by decide +kernel
theorem d_O_needMember_10 : decode c_O_needMember 10 = .ok (.getfield 37, 3) := by decide +kernel
theorem d_O_needMember_13 : decode c_O_needMember 13 = .ok (.invokevirtual 110, 3) := by decide +kernel
theorem d_O_needMember_16 : decode c_O_needMember 16 = .ok (.if_icmp .lt 13, 3) := by decide +kernel
theorem d_O_needMember_19 : decode c_O_needMember 19 = .ok (.new 81, 3) := by decide +kernel
theorem d_O_needMember_22 : decode c_O_needMember 22 = .ok (.dup, 1) := by decide +kernel
theorem d_O_needMember_23 : decode c_O_needMember 23 = .ok (.ldc 156, 2) := by decide +kernel
theorem d_O_needMember_25 : decode c_O_needMember 25 = .ok (.invokespecial 85, 3) := by decide +kernel
theorem d_O_needMember_28 : decode c_O_needMember 28 = .ok (.athrow, 1) := by decide +kernel
theorem d_O_needMember_29 : decode c_O_needMember 29 = .ok (.return_, 1) := by decide +kernel
theorem d_O_findPlaces_0 : decode c_O_findPlaces 0 = .ok (.aload_n 0, 1) := by decide +kernel
theorem d_O_findPlaces_1 : decode c_O_findPlaces 1 = .ok (.getfield 11, 3) := by decide +kernel
theorem d_O_findPlaces_4 : decode c_O_findPlaces 4 = .ok (.aload_n 0, 1) := by decide +kernel
theorem d_O_findPlaces_5 : decode c_O_findPlaces 5 = .ok (.getfield 54, 3) := by decide +kernel
theorem d_O_findPlaces_8 : decode c_O_findPlaces 8 = .ok (.aaload, 1) := by decide +kernel
theorem d_O_findPlaces_9 : decode c_O_findPlaces 9 = .ok (.invokestatic 158, 3) := by decide +kernel
theorem d_O_findPlaces_12 : decode c_O_findPlaces 12 = .ok (.ifCond .eq 13, 3) := by decide +kernel
theorem d_O_findPlaces_15 : decode c_O_findPlaces 15 = .ok (.new 162, 3) := by decide +kernel
theorem d_O_findPlaces_18 : decode c_O_findPlaces 18 = .ok (.dup, 1) := by decide +kernel
theorem d_O_findPlaces_19 : decode c_O_findPlaces 19 = .ok (.ldc 164, 2) := by decide +kernel
theorem d_O_findPlaces_21 : decode c_O_findPlaces 21 = .ok (.invokespecial 166, 3) := by decide +kernel
theorem d_O_findPlaces_24 : decode c_O_findPlaces 24 = .ok (.athrow, 1) := by decide +kernel
theorem d_O_findPlaces_25 : decode c_O_findPlaces 25 = .ok (.aload_n 0, 1) := by decide +kernel
theorem d_O_findPlaces_26 : decode c_O_findPlaces 26 = .ok (.getfield 30, 3) := by decide +kernel
theorem d_O_findPlaces_29 : decode c_O_findPlaces 29 = .ok (.aload_n 0, 1) := by decide +kernel
theorem d_O_findPlaces_30 : decode c_O_findPlaces 30 = .ok (.getfield 11, 3) := by decide +kernel
theorem d_O_findPlaces_33 : decode c_O_findPlaces 33 = .ok (.aload_n 0, 1) := by decide +kernel
theorem d_O_findPlaces_34 : decode c_O_findPlaces 34 = .ok (.getfield 54, 3) := by decide +kernel
theorem d_O_findPlaces_37 : decode c_O_findPlaces 37 = .ok (.aaload, 1) := by decide +kernel
theorem d_O_findPlaces_38 : decode c_O_findPlaces 38 = .ok (.invokevirtual 103, 3) := by decide +kernel
theorem d_O_findPlaces_41 : decode c_O_findPlaces 41 = .ok (.return_, 1) := by decide +kernel
theorem d_O_goTo_0 : decode c_O_goTo 0 = .ok (.aload_n 0, 1) := by decide +kernel
theorem d_O_goTo_1 : decode c_O_goTo 1 = .ok (.invokevirtual 167, 3) := by decide +kernel
theorem d_O_goTo_4 : decode c_O_goTo 4 = .ok (.ifCond .eq 13, 3) := by decide +kernel
theorem d_O_goTo_7 : decode c_O_goTo 7 = .ok (.new 162, 3) := by decide +kernel
theorem d_O_goTo_10 : decode c_O_goTo 10 = .ok (.dup, 1) := by decide +kernel
theorem d_O_goTo_11 : decode c_O_goTo 11 = .ok (.ldc 171, 2) := by decide +kernel
theorem d_O_goTo_13 : decode c_O_goTo 13 = .ok (.invokespecial 166, 3) := by decide +kernel
theorem d_O_goTo_16 : decode c_O_goTo 16 = .ok (.athrow, 1) := by decide +kernel
theorem d_O_goTo_17 : decode c_O_goTo 17 = .ok (.aload_n 0, 1) := by decide +kernel
theorem d_O_goTo_18 : decode c_O_goTo 18 = .ok (.iload_n 1, 1) := by decide +kernel
theorem d_O_goTo_19 : decode c_O_goTo 19 = .ok (.ifCond .eq 7, 3) := by decide +kernel
theorem d_O_goTo_22 : decode c_O_goTo 22 = .ok (.lconst 0, 1) := by decide +kernel
theorem d_O_goTo_23 : decode c_O_goTo 23 = .ok (.goto 7, 3) := by decide +kernel
theorem d_O_goTo_26 : decode c_O_goTo 26 = .ok (.lload_n 2, 1) := by decide +kernel
theorem d_O_goTo_27 : decode c_O_goTo 27 = .ok (.invokestatic 62, 3) := by decide +kernel
theorem d_O_goTo_30 : decode c_O_goTo 30 = .ok (.invokevirtual 128, 3) := by decide +kernel
theorem d_O_goTo_33 : decode c_O_goTo 33 = .ok (.iload_n 1, 1) := by decide +kernel
theorem d_O_goTo_34 : decode c_O_goTo 34 = .ok (.ifCond .eq 10, 3) := by decide +kernel
theorem d_O_goTo_37 : decode c_O_goTo 37 = .ok (.aload_n 0, 1) := by decide +kernel
theorem d_O_goTo_38 : decode c_O_goTo 38 = .ok (.invokevirtual 173, 3) := by decide +kernel
theorem d_O_goTo_41 : decode c_O_goTo 41 = .ok (.goto 7, 3) := by decide +kernel
theorem d_O_goTo_44 : decode c_O_goTo 44 = .ok (.aload_n 0, 1) := by decide +kernel
theorem d_O_goTo_45 : decode c_O_goTo 45 = .ok (.invokevirtual 176, 3) := by decide +kernel
theorem d_O_goTo_48 : decode c_O_goTo 48 = .ok (.ireturn, 1) := by decide +kernel
theorem d_O_allZero_0 : decode c_O_allZero 0 = .ok (.iconst 0, 1) := by decide +kernel
theorem d_O_allZero_1 : decode c_O_allZero 1 = .ok (.istore_n 1, 1) := by decide +kernel
theorem d_O_allZero_2 : decode c_O_allZero 2 = .ok (.iload_n 1, 1) := by decide +kernel
theorem d_O_allZero_3 : decode c_O_allZero 3 = .ok (.aload_n 0, 1) := by decide +kernel
theorem d_O_allZero_4 : decode c_O_allZero 4 = .ok (.getfield 54, 3) := by decide +kernel
theorem d_O_allZero_7 : decode c_O_allZero 7 = .ok (.if_icmp .gt 23, 3) := by decide +kernel
theorem d_O_allZero_10 : decode c_O_allZero 10 = .ok (.aload_n 0, 1) := by decide +kernel
theorem d_O_allZero_11 : decode c_O_allZero 11 = .ok (.getfield 11, 3) := by decide +kernel
theorem d_O_allZero_14 : decode c_O_allZero 14 = .ok (.iload_n 1, 1) := by decide +kernel
theorem d_O_allZero_15 : decode c_O_allZero 15 = .ok (.aaload, 1) := by decide +kernel
theorem d_O_allZero_16 : decode c_O_allZero 16 = .ok (.invokestatic 158, 3) := by decide +kernel
theorem d_O_allZero_19 : decode c_O_allZero 19 = .ok (.ifCond .ne 5, 3) := by decide +kernel
theorem d_O_allZero_22 : decode c_O_allZero 22 = .ok (.iconst 0, 1) := by decide +kernel
theorem d_O_allZero_23 : decode c_O_allZero 23 = .ok (.ireturn, 1) := by decide +kernel
theorem d_O_allZero_24 : decode c_O_allZero 24 = .ok (.iinc 1 1, 3) := by decide +kernel
theorem d_O_allZero_27 : decode c_O_allZero 27 = .ok (.goto (-25), 3) := by decide +kernel
theorem d_O_allZero_30 : decode c_O_allZero 30 = .ok (.iconst 1, 1) := by decide +kernel
theorem d_O_allZero_31 : decode c_O_allZero 31 = .ok (.ireturn, 1) := by decide +kernel
theorem d_O_leastGap_0 : decode c_O_leastGap 0 = .ok (.aload_n 0, 1) := by decide +kernel
theorem d_O_leastGap_1 : decode c_O_leastGap 1 = .ok (.getfield 54, 3) := by decide +kernel
theorem d_O_leastGap_4 : decode c_O_leastGap 4 = .ok (.ineg, 1) := by decide +kernel
theorem d_O_leastGap_5 : decode c_O_leastGap 5 = .ok (.istore_n 1, 1) := by decide +kernel
theorem d_O_leastGap_6 : decode c_O_leastGap 6 = .ok (.iload_n 1, 1) := by decide +kernel
theorem d_O_leastGap_7 : decode c_O_leastGap 7 = .ok (.iconst 4, 1) := by decide +kernel
theorem d_O_leastGap_8 : decode c_O_leastGap 8 = .ok (.if_icmp .ge 17, 3) := by decide +kernel
theorem d_O_leastGap_11 : decode c_O_leastGap 11 = .ok (.aload_n 0, 1) := by decide +kernel
theorem d_O_leastGap_12 : decode c_O_leastGap 12 = .ok (.iload_n 1, 1) := by decide +kernel
theorem d_O_leastGap_13 : decode c_O_leastGap 13 = .ok (.invokevirtual 179, 3) := by decide +kernel
theorem d_O_leastGap_16 : decode c_O_leastGap 16 = .ok (.ifCond .ne 9, 3) := by decide +kernel
theorem d_O_leastGap_19 : decode c_O_leastGap 19 = .ok (.iinc 1 1, 3) := by decide +kernel
theorem d_O_leastGap_22 : decode c_O_leastGap 22 = .ok (.goto (-16), 3) := by decide +kernel
theorem d_O_leastGap_25 : decode c_O_leastGap 25 = .ok (.iload_n 1, 1) := by decide +kernel
theorem d_O_leastGap_26 : decode c_O_leastGap 26 = .ok (.ireturn, 1) := by decide +kernel
theorem d_O_greatestGap_0 : decode c_O_greatestGap 0 = .ok (.iconst 4, 1) := by decide +kernel
theorem d_O_greatestGap_1 : decode c_O_greatestGap 1 = .ok (.istore_n 1, 1) := by decide +kernel
theorem d_O_greatestGap_2 : decode c_O_greatestGap 2 = .ok (.iload_n 1, 1) := by decide +kernel
theorem d_O_greatestGap_3 : decode c_O_greatestGap 3 = .ok (.aload_n 0, 1) := by decide +kernel
theorem d_O_greatestGap_4 : decode c_O_greatestGap 4 = .ok (.getfield 54, 3) := by decide +kernel
theorem d_O_greatestGap_7 : decode c_O_greatestGap 7 = .ok (.ineg, 1) := by decide +kernel
theorem d_O_greatestGap_8 : decode c_O_greatestGap 8 = .ok (.if_icmp .le 17, 3) := by decide +kernel
theorem d_O_greatestGap_11 : decode c_O_greatestGap 11 = .ok (.aload_n 0, 1) := by decide +kernel
theorem d_O_greatestGap_12 : decode c_O_greatestGap 12 = .ok (.iload_n 1, 1) := by decide +kernel
theorem d_O_greatestGap_13 : decode c_O_greatestGap 13 = .ok (.invokevirtual 179, 3) := by decide +kernel
theorem d_O_greatestGap_16 : decode c_O_greatestGap 16 = .ok (.ifCond .ne 9, 3) := by decide +kernel
theorem d_O_greatestGap_19 : decode c_O_greatestGap 19 = .ok (.iinc 1 (-1), 3) := by decide +kernel
theorem d_O_greatestGap_22 : decode c_O_greatestGap 22 = .ok (.goto (-20), 3) := by decide +kernel
theorem d_O_greatestGap_25 : decode c_O_greatestGap 25 = .ok (.iload_n 1, 1) := by decide +kernel
theorem d_O_greatestGap_26 : decode c_O_greatestGap 26 = .ok (.ireturn, 1) := by decide +kernel
theorem d_O_isGap_0 : decode c_O_isGap 0 = .ok (.iconst 0, 1) := by decide +kernel
theorem d_O_isGap_1 : decode c_O_isGap 1 = .ok (.istore_n 2, 1) := by decide +kernel
theorem d_O_isGap_2 : decode c_O_isGap 2 = .ok (.iload_n 2, 1) := by decide +kernel
theorem d_O_isGap_3 : decode c_O_isGap 3 = .ok (.aload_n 0, 1) := by decide +kernel
theorem d_O_isGap_4 : decode c_O_isGap 4 = .ok (.getfield 54, 3) := by decide +kernel
theorem d_O_isGap_7 : decode c_O_isGap 7 = .ok (.if_icmp .gt 24, 3) := by decide +kernel
theorem d_O_isGap_10 : decode c_O_isGap 10 = .ok (.aload_n 0, 1) := by decide +kernel
theorem d_O_isGap_11 : decode c_O_isGap 11 = .ok (.iload_n 2, 1) := by decide +kernel
theorem d_O_isGap_12 : decode c_O_isGap 12 = .ok (.iload_n 1, 1) := by decide +kernel
theorem d_O_isGap_13 : decode c_O_isGap 13 = .ok (.iload_n 2, 1) := by decide +kernel
theorem d_O_isGap_14 : decode c_O_isGap 14 = .ok (.iadd, 1) := by decide +kernel
theorem d_O_isGap_15 : decode c_O_isGap 15 = .ok (.invokevirtual 96, 3) := by decide +kernel
theorem d_O_isGap_18 : decode c_O_isGap 18 = .ok (.lconst 0, 1) := by decide +kernel
theorem d_O_isGap_19 : decode c_O_isGap 19 = .ok (.lcmp, 1) := by decide +kernel
theorem d_O_isGap_20 : decode c_O_isGap 20 = .ok (.ifCond .eq 5, 3) := by decide +kernel
theorem d_O_isGap_23 : decode c_O_isGap 23 = .ok (.iconst 1, 1) := by decide +kernel
theorem d_O_isGap_24 : decode c_O_isGap 24 = .ok (.ireturn, 1) := by decide +kernel
theorem d_O_isGap_25 : decode c_O_isGap 25 = .ok (.iinc 2 1, 3) := by decide +kernel
theorem d_O_isGap_28 : decode c_O_isGap 28 = .ok (.goto (-26), 3) := by decide +kernel
theorem d_O_isGap_31 : decode c_O_isGap 31 = .ok (.iconst 0, 1) := by decide +kernel
theorem d_O_isGap_32 : decode c_O_isGap 32 = .ok (.ireturn, 1) := by decide +kernel
theorem d_O_otherAt_0 : decode c_O_otherAt 0 = .ok (.iload_n 2, 1) := by decide +kernel
theorem d_O_otherAt_1 : decode c_O_otherAt 1 = .ok (.ifCond .lt 8, 3) := by decide +kernel
theorem d_O_otherAt_4 : decode c_O_otherAt 4 = .ok (.iload_n 2, 1) := by decide +kernel
theorem d_O_otherAt_5 : decode c_O_otherAt 5 = .ok (.iconst 5, 1) := by decide +kernel
theorem d_O_otherAt_6 : decode c_O_otherAt 6 = .ok (.if_icmp .lt 7, 3) := by decide +kernel
theorem d_O_otherAt_9 : decode c_O_otherAt 9 = .ok (.lconst 0, 1) := by decide +kernel
theorem d_O_otherAt_10 : decode c_O_otherAt 10 = .ok (.goto 11, 3) := by decide +kernel
theorem d_O_otherAt_13 : decode c_O_otherAt 13 = .ok (.aload_n 0, 1) := by decide +kernel
theorem d_O_otherAt_14 : decode c_O_otherAt 14 = .ok (.getfield 14, 3) := by decide +kernel
theorem d_O_otherAt_17 : decode c_O_otherAt 17 = .ok (.iload_n 1, 1) := by decide +kernel
theorem d_O_otherAt_18 : decode c_O_otherAt 18 = .ok (.aaload, 1) := by decide +kernel
theorem d_O_otherAt_19 : decode c_O_otherAt 19 = .ok (.iload_n 2, 1) := by decide +kernel
theorem d_O_otherAt_20 : decode c_O_otherAt 20 = .ok (.laload, 1) := by decide +kernel
theorem d_O_otherAt_21 : decode c_O_otherAt 21 = .ok (.lreturn, 1) := by decide +kernel
theorem d_O_fillIndicial_0 : decode c_O_fillIndicial 0 = .ok (.aload_n 0, 1) := by decide +kernel
theorem d_O_fillIndicial_1 : decode c_O_fillIndicial 1 = .ok (.iconst 1, 1) := by decide +kernel
theorem d_O_fillIndicial_2 : decode c_O_fillIndicial 2 = .ok (.iload_n 1, 1) := by decide +kernel
theorem d_O_fillIndicial_3 : decode c_O_fillIndicial 3 = .ok (.iconst 1, 1) := by decide +kernel
theorem d_O_fillIndicial_4 : decode c_O_fillIndicial 4 = .ok (.iadd, 1) := by decide +kernel
theorem d_O_fillIndicial_5 : decode c_O_fillIndicial 5 = .ok (.invokevirtual 96, 3) := by decide +kernel
theorem d_O_fillIndicial_8 : decode c_O_fillIndicial 8 = .ok (.lstore_n 2, 1) := by decide +kernel
theorem d_O_fillIndicial_9 : decode c_O_fillIndicial 9 = .ok (.aload_n 0, 1) := by decide +kernel
theorem d_O_fillIndicial_10 : decode c_O_fillIndicial 10 = .ok (.iconst 2, 1) := by decide +kernel
theorem d_O_fillIndicial_11 : decode c_O_fillIndicial 11 = .ok (.iload_n 1, 1) := by decide +kernel
theorem d_O_fillIndicial_12 : decode c_O_fillIndicial 12 = .ok (.iconst 2, 1) := by decide +kernel
theorem d_O_fillIndicial_13 : decode c_O_fillIndicial 13 = .ok (.iadd, 1) := by decide +kernel
theorem d_O_fillIndicial_14 : decode c_O_fillIndicial 14 = .ok (.invokevirtual 96, 3) := by decide +kernel
theorem d_O_fillIndicial_17 : decode c_O_fillIndicial 17 = .ok (.lstore 4, 2) := by decide +kernel
theorem d_O_fillIndicial_19 : decode c_O_fillIndicial 19 = .ok (.aload_n 0, 1) := by decide +kernel
theorem d_O_fillIndicial_20 : decode c_O_fillIndicial 20 = .ok (.iconst 3, 1) := by decide +kernel
theorem d_O_fillIndicial_21 : decode c_O_fillIndicial 21 = .ok (.iload_n 1, 1) := by decide +kernel
theorem d_O_fillIndicial_22 : decode c_O_fillIndicial 22 = .ok (.iconst 3, 1) := by decide +kernel
theorem d_O_fillIndicial_23 : decode c_O_fillIndicial 23 = .ok (.iadd, 1) := by decide +kernel
theorem d_O_fillIndicial_24 : decode c_O_fillIndicial 24 = .ok (.invokevirtual 96, 3) := by decide +kernel
theorem d_O_fillIndicial_27 : decode c_O_fillIndicial 27 = .ok (.lstore 6, 2) := by decide +kernel
theorem d_O_fillIndicial_29 : decode c_O_fillIndicial 29 = .ok (.aload_n 0, 1) := by decide +kernel
theorem d_O_fillIndicial_30 : decode c_O_fillIndicial 30 = .ok (.getfield 24, 3) := by decide +kernel
theorem d_O_fillIndicial_33 : decode c_O_fillIndicial 33 = .ok (.iconst 0, 1) := by decide +kernel
theorem d_O_fillIndicial_34 : decode c_O_fillIndicial 34 = .ok (.aload_n 0, 1) := by decide +kernel
theorem d_O_fillIndicial_35 : decode c_O_fillIndicial 35 = .ok (.iconst 0, 1) := by decide +kernel
theorem d_O_fillIndicial_36 : decode c_O_fillIndicial 36 = .ok (.iload_n 1, 1) := by decide +kernel
theorem d_O_fillIndicial_37 : decode c_O_fillIndicial 37 = .ok (.invokevirtual 96, 3) := by decide +kernel
theorem d_O_fillIndicial_40 : decode c_O_fillIndicial 40 = .ok (.lastore, 1) := by decide +kernel
theorem d_O_fillIndicial_41 : decode c_O_fillIndicial 41 = .ok (.aload_n 0, 1) := by decide +kernel
theorem d_O_fillIndicial_42 : decode c_O_fillIndicial 42 = .ok (.getfield 24, 3) := by decide +kernel
theorem d_O_fillIndicial_45 : decode c_O_fillIndicial 45 = .ok (.iconst 1, 1) := by decide +kernel
theorem d_O_fillIndicial_46 : decode c_O_fillIndicial 46 = .ok (.lload_n 2, 1) := by decide +kernel
theorem d_O_fillIndicial_47 : decode c_O_fillIndicial 47 = .ok (.lload 4, 2) := by decide +kernel
theorem d_O_fillIndicial_49 : decode c_O_fillIndicial 49 = .ok (.lsub, 1) := by decide +kernel
theorem d_O_fillIndicial_50 : decode c_O_fillIndicial 50 = .ok (.ldc2_w 183, 3) := by decide +kernel
theorem d_O_fillIndicial_53 : decode c_O_fillIndicial 53 = .ok (.lload 6, 2) := by decide +kernel
theorem d_O_fillIndicial_55 : decode c_O_fillIndicial 55 = .ok (.lmul, 1) := by decide +kernel
theorem d_O_fillIndicial_56 : decode c_O_fillIndicial 56 = .ok (.ladd, 1) := by decide +kernel
theorem d_O_fillIndicial_57 : decode c_O_fillIndicial 57 = .ok (.invokestatic 62, 3) := by decide +kernel
theorem d_O_fillIndicial_60 : decode c_O_fillIndicial 60 = .ok (.lastore, 1) := by decide +kernel
theorem d_O_fillIndicial_61 : decode c_O_fillIndicial 61 = .ok (.aload_n 0, 1) := by decide +kernel
theorem d_O_fillIndicial_62 : decode c_O_fillIndicial 62 = .ok (.getfield 24, 3) := by decide +kernel
theorem d_O_fillIndicial_65 : decode c_O_fillIndicial 65 = .ok (.iconst 2, 1) := by decide +kernel
theorem d_O_fillIndicial_66 : decode c_O_fillIndicial 66 = .ok (.lload 4, 2) := by decide +kernel
theorem d_O_fillIndicial_68 : decode c_O_fillIndicial 68 = .ok (.ldc2_w 185, 3) := by decide +kernel
theorem d_O_fillIndicial_71 : decode c_O_fillIndicial 71 = .ok (.lload 6, 2) := by decide +kernel
theorem d_O_fillIndicial_73 : decode c_O_fillIndicial 73 = .ok (.lmul, 1) := by decide +kernel
theorem d_O_fillIndicial_74 : decode c_O_fillIndicial 74 = .ok (.lsub, 1) := by decide +kernel
theorem d_O_fillIndicial_75 : decode c_O_fillIndicial 75 = .ok (.invokestatic 62, 3) := by decide +kernel
theorem d_O_fillIndicial_78 : decode c_O_fillIndicial 78 = .ok (.lastore, 1) := by decide +kernel
theorem d_O_fillIndicial_79 : decode c_O_fillIndicial 79 = .ok (.aload_n 0, 1) := by decide +kernel
theorem d_O_fillIndicial_80 : decode c_O_fillIndicial 80 = .ok (.getfield 24, 3) := by decide +kernel
theorem d_O_fillIndicial_83 : decode c_O_fillIndicial 83 = .ok (.iconst 3, 1) := by decide +kernel
theorem d_O_fillIndicial_84 : decode c_O_fillIndicial 84 = .ok (.lload 6, 2) := by decide +kernel
theorem d_O_fillIndicial_86 : decode c_O_fillIndicial 86 = .ok (.lastore, 1) := by decide +kernel
theorem d_O_fillIndicial_87 : decode c_O_fillIndicial 87 = .ok (.return_, 1) := by decide +kernel
theorem d_O_shiftToOther_0 : decode c_O_shiftToOther 0 = .ok (.iconst 0, 1) := by decide +kernel
theorem d_O_shiftToOther_1 : decode c_O_shiftToOther 1 = .ok (.istore_n 3, 1) := by decide +kernel
theorem d_O_shiftToOther_2 : decode c_O_shiftToOther 2 = .ok (.iload_n 3, 1) := by decide +kernel
theorem d_O_shiftToOther_3 : decode c_O_shiftToOther 3 = .ok (.aload_n 0, 1) := by decide +kernel
theorem d_O_shiftToOther_4 : decode c_O_shiftToOther 4 = .ok (.getfield 54, 3) := by decide +kernel
theorem d_O_shiftToOther_7 : decode c_O_shiftToOther 7 = .ok (.if_icmp .gt 37, 3) := by decide +kernel
theorem d_O_shiftToOther_10 : decode c_O_shiftToOther 10 = .ok (.aload_n 0, 1) := by decide +kernel
theorem d_O_shiftToOther_11 : decode c_O_shiftToOther 11 = .ok (.getfield 11, 3) := by decide +kernel
theorem d_O_shiftToOther_14 : decode c_O_shiftToOther 14 = .ok (.iload_n 3, 1) := by decide +kernel
theorem d_O_shiftToOther_15 : decode c_O_shiftToOther 15 = .ok (.aaload, 1) := by decide +kernel
theorem d_O_shiftToOther_16 : decode c_O_shiftToOther 16 = .ok (.iconst 0, 1) := by decide +kernel
theorem d_O_shiftToOther_17 : decode c_O_shiftToOther 17 = .ok (.aload_n 0, 1) := by decide +kernel
theorem d_O_shiftToOther_18 : decode c_O_shiftToOther 18 = .ok (.getfield 14, 3) := by decide +kernel
theorem d_O_shiftToOther_21 : decode c_O_shiftToOther 21 = .ok (.iload_n 3, 1) := by decide +kernel
theorem d_O_shiftToOther_22 : decode c_O_shiftToOther 22 = .ok (.aaload, 1) := by decide +kernel
theorem d_O_shiftToOther_23 : decode c_O_shiftToOther 23 = .ok (.iconst 0, 1) := by decide +kernel
theorem d_O_shiftToOther_24 : decode c_O_shiftToOther 24 = .ok (.iconst 5, 1) := by decide +kernel
theorem d_O_shiftToOther_25 : decode c_O_shiftToOther 25 = .ok (.invokestatic 120, 3) := by decide +kernel
theorem d_O_shiftToOther_28 : decode c_O_shiftToOther 28 = .ok (.aload_n 0, 1) := by decide +kernel
theorem d_O_shiftToOther_29 : decode c_O_shiftToOther 29 = .ok (.getfield 14, 3) := by decide +kernel
theorem d_O_shiftToOther_32 : decode c_O_shiftToOther 32 = .ok (.iload_n 3, 1) := by decide +kernel
theorem d_O_shiftToOther_33 : decode c_O_shiftToOther 33 = .ok (.aaload, 1) := by decide +kernel
theorem d_O_shiftToOther_34 : decode c_O_shiftToOther 34 = .ok (.lload_n 1, 1) := by decide +kernel
theorem d_O_shiftToOther_35 : decode c_O_shiftToOther 35 = .ok (.invokestatic 143, 3) := by decide +kernel
theorem d_O_shiftToOther_38 : decode c_O_shiftToOther 38 = .ok (.iinc 3 1, 3) := by decide +kernel
theorem d_O_shiftToOther_41 : decode c_O_shiftToOther 41 = .ok (.goto (-39), 3) := by decide +kernel
theorem d_O_shiftToOther_44 : decode c_O_shiftToOther 44 = .ok (.return_, 1) := by decide +kernel
theorem d_O_share_0 : decode c_O_share 0 = .ok (.lconst 0, 1) := by decide +kernel
theorem d_O_share_1 : decode c_O_share 1 = .ok (.lstore 4, 2) := by decide +kernel
theorem d_O_share_3 : decode c_O_share 3 = .ok (.lconst 1, 1) := by decide +kernel
theorem d_O_share_4 : decode c_O_share 4 = .ok (.lstore 6, 2) := by decide +kernel
theorem d_O_share_6 : decode c_O_share 6 = .ok (.iconst 0, 1) := by decide +kernel
theorem d_O_share_7 : decode c_O_share 7 = .ok (.istore 8, 2) := by decide +kernel
theorem d_O_share_9 : decode c_O_share 9 = .ok (.iload 8, 2) := by decide +kernel
theorem d_O_share_11 : decode c_O_share 11 = .ok (.aload_n 0, 1) := by decide +kernel
theorem d_O_share_12 : decode c_O_share 12 = .ok (.getfield 54, 3) := by decide +kernel
theorem d_O_share_15 : decode c_O_share 15 = .ok (.if_icmp .gt 51, 3) := by decide +kernel
theorem d_O_share_18 : decode c_O_share 18 = .ok (.iload_n 3, 1) := by decide +kernel
theorem d_O_share_19 : decode c_O_share 19 = .ok (.iload 8, 2) := by decide +kernel
theorem d_O_share_21 : decode c_O_share 21 = .ok (.iadd, 1) := by decide +kernel
theorem d_O_share_22 : decode c_O_share 22 = .ok (.istore 9, 2) := by decide +kernel
theorem d_O_share_24 : decode c_O_share 24 = .ok (.iload 9, 2) := by decide +kernel
theorem d_O_share_26 : decode c_O_share 26 = .ok (.ifCond .lt 24, 3) := by decide +kernel
theorem d_O_share_29 : decode c_O_share 29 = .ok (.iload 9, 2) := by decide +kernel
theorem d_O_share_31 : decode c_O_share 31 = .ok (.iconst 5, 1) := by decide +kernel
theorem d_O_share_32 : decode c_O_share 32 = .ok (.if_icmp .ge 18, 3) := by decide +kernel
theorem d_O_share_35 : decode c_O_share 35 = .ok (.lload 4, 2) := by decide +kernel
theorem d_O_share_37 : decode c_O_share 37 = .ok (.aload_n 1, 1) := by decide +kernel
theorem d_O_share_38 : decode c_O_share 38 = .ok (.iload 8, 2) := by decide +kernel
theorem d_O_share_40 : decode c_O_share 40 = .ok (.aaload, 1) := by decide +kernel
theorem d_O_share_41 : decode c_O_share 41 = .ok (.iload 9, 2) := by decide +kernel
theorem d_O_share_43 : decode c_O_share 43 = .ok (.laload, 1) := by decide +kernel
theorem d_O_share_44 : decode c_O_share 44 = .ok (.lload 6, 2) := by decide +kernel
theorem d_O_share_46 : decode c_O_share 46 = .ok (.lmul, 1) := by decide +kernel
theorem d_O_share_47 : decode c_O_share 47 = .ok (.ladd, 1) := by decide +kernel
theorem d_O_share_48 : decode c_O_share 48 = .ok (.lstore 4, 2) := by decide +kernel
theorem d_O_share_50 : decode c_O_share 50 = .ok (.lload 6, 2) := by decide +kernel
theorem d_O_share_52 : decode c_O_share 52 = .ok (.iload_n 2, 1) := by decide +kernel
theorem d_O_share_53 : decode c_O_share 53 = .ok (.iload 8, 2) := by decide +kernel
theorem d_O_share_55 : decode c_O_share 55 = .ok (.isub, 1) := by decide +kernel
theorem d_O_share_56 : decode c_O_share 56 = .ok (.i2l, 1) := by decide +kernel
theorem d_O_share_57 : decode c_O_share 57 = .ok (.lmul, 1) := by decide +kernel
theorem d_O_share_58 : decode c_O_share 58 = .ok (.lstore 6, 2) := by decide +kernel
theorem d_O_share_60 : decode c_O_share 60 = .ok (.iinc 8 1, 3) := by decide +kernel
theorem d_O_share_63 : decode c_O_share 63 = .ok (.goto (-54), 3) := by decide +kernel
theorem d_O_share_66 : decode c_O_share 66 = .ok (.lload 4, 2) := by decide +kernel
theorem d_O_share_68 : decode c_O_share 68 = .ok (.invokestatic 62, 3) := by decide +kernel
theorem d_O_share_71 : decode c_O_share 71 = .ok (.lreturn, 1) := by decide +kernel
theorem d_O_madeAt_0 : decode c_O_madeAt 0 = .ok (.lconst 0, 1) := by decide +kernel
theorem d_O_madeAt_1 : decode c_O_madeAt 1 = .ok (.lstore_n 2, 1) := by decide +kernel
theorem d_O_madeAt_2 : decode c_O_madeAt 2 = .ok (.iconst 0, 1) := by decide +kernel
theorem d_O_madeAt_3 : decode c_O_madeAt 3 = .ok (.istore 4, 2) := by decide +kernel
theorem d_O_madeAt_5 : decode c_O_madeAt 5 = .ok (.iload 4, 2) := by decide +kernel
theorem d_O_madeAt_7 : decode c_O_madeAt 7 = .ok (.bipush 13, 2) := by decide +kernel
theorem d_O_madeAt_9 : decode c_O_madeAt 9 = .ok (.if_icmp .ge 46, 3) := by decide +kernel
theorem d_O_madeAt_12 : decode c_O_madeAt 12 = .ok (.aload_n 0, 1) := by decide +kernel
theorem d_O_madeAt_13 : decode c_O_madeAt 13 = .ok (.getfield 17, 3) := by decide +kernel
theorem d_O_madeAt_16 : decode c_O_madeAt 16 = .ok (.iload 4, 2) := by decide +kernel
theorem d_O_madeAt_18 : decode c_O_madeAt 18 = .ok (.laload, 1) := by decide +kernel
theorem d_O_madeAt_19 : decode c_O_madeAt 19 = .ok (.lconst 0, 1) := by decide +kernel
theorem d_O_madeAt_20 : decode c_O_madeAt 20 = .ok (.lcmp, 1) := by decide +kernel
theorem d_O_madeAt_21 : decode c_O_madeAt 21 = .ok (.ifCond .eq 28, 3) := by decide +kernel
theorem d_O_madeAt_24 : decode c_O_madeAt 24 = .ok (.lload_n 2, 1) := by decide +kernel
theorem d_O_madeAt_25 : decode c_O_madeAt 25 = .ok (.aload_n 0, 1) := by decide +kernel
theorem d_O_madeAt_26 : decode c_O_madeAt 26 = .ok (.getfield 17, 3) := by decide +kernel
theorem d_O_madeAt_29 : decode c_O_madeAt 29 = .ok (.iload 4, 2) := by decide +kernel
theorem d_O_madeAt_31 : decode c_O_madeAt 31 = .ok (.laload, 1) := by decide +kernel
theorem d_O_madeAt_32 : decode c_O_madeAt 32 = .ok (.aload_n 0, 1) := by decide +kernel
theorem d_O_madeAt_33 : decode c_O_madeAt 33 = .ok (.aload_n 0, 1) := by decide +kernel
theorem d_O_madeAt_34 : decode c_O_madeAt 34 = .ok (.getfield 11, 3) := by decide +kernel
theorem d_O_madeAt_37 : decode c_O_madeAt 37 = .ok (.iload 4, 2) := by decide +kernel
theorem d_O_madeAt_39 : decode c_O_madeAt 39 = .ok (.iload_n 1, 1) := by decide +kernel
theorem d_O_madeAt_40 : decode c_O_madeAt 40 = .ok (.iload 4, 2) := by decide +kernel
theorem d_O_madeAt_42 : decode c_O_madeAt 42 = .ok (.isub, 1) := by decide +kernel
theorem d_O_madeAt_43 : decode c_O_madeAt 43 = .ok (.invokevirtual 187, 3) := by decide +kernel
theorem d_O_madeAt_46 : decode c_O_madeAt 46 = .ok (.lmul, 1) := by decide +kernel
theorem d_O_madeAt_47 : decode c_O_madeAt 47 = .ok (.ladd, 1) := by decide +kernel
theorem d_O_madeAt_48 : decode c_O_madeAt 48 = .ok (.lstore_n 2, 1) := by decide +kernel
theorem d_O_madeAt_49 : decode c_O_madeAt 49 = .ok (.iinc 4 1, 3) := by decide +kernel
theorem d_O_madeAt_52 : decode c_O_madeAt 52 = .ok (.goto (-47), 3) := by decide +kernel
theorem d_O_madeAt_55 : decode c_O_madeAt 55 = .ok (.lload_n 2, 1) := by decide +kernel
theorem d_O_madeAt_56 : decode c_O_madeAt 56 = .ok (.invokestatic 62, 3) := by decide +kernel
theorem d_O_madeAt_59 : decode c_O_madeAt 59 = .ok (.lreturn, 1) := by decide +kernel
theorem d_O_nextTerm_0 : decode c_O_nextTerm 0 = .ok (.iload_n 1, 1) := by decide +kernel
theorem d_O_nextTerm_1 : decode c_O_nextTerm 1 = .ok (.aload_n 0, 1) := by decide +kernel
theorem d_O_nextTerm_2 : decode c_O_nextTerm 2 = .ok (.getfield 54, 3) := by decide +kernel
theorem d_O_nextTerm_5 : decode c_O_nextTerm 5 = .ok (.isub, 1) := by decide +kernel
theorem d_O_nextTerm_6 : decode c_O_nextTerm 6 = .ok (.istore_n 2, 1) := by decide +kernel
theorem d_O_nextTerm_7 : decode c_O_nextTerm 7 = .ok (.lconst 0, 1) := by decide +kernel
theorem d_O_nextTerm_8 : decode c_O_nextTerm 8 = .ok (.lstore_n 3, 1) := by decide +kernel
theorem d_O_nextTerm_9 : decode c_O_nextTerm 9 = .ok (.iconst 0, 1) := by decide +kernel
theorem d_O_nextTerm_10 : decode c_O_nextTerm 10 = .ok (.iload_n 2, 1) := by decide +kernel
theorem d_O_nextTerm_11 : decode c_O_nextTerm 11 = .ok (.iconst 5, 1) := by decide +kernel
theorem d_O_nextTerm_12 : decode c_O_nextTerm 12 = .ok (.isub, 1) := by decide +kernel
theorem d_O_nextTerm_13 : decode c_O_nextTerm 13 = .ok (.iconst 1, 1) := by decide +kernel
theorem d_O_nextTerm_14 : decode c_O_nextTerm 14 = .ok (.iadd, 1) := by decide +kernel
theorem d_O_nextTerm_15 : decode c_O_nextTerm 15 = .ok (.invokestatic 51, 3) := by decide +kernel
theorem d_O_nextTerm_18 : decode c_O_nextTerm 18 = .ok (.istore 5, 2) := by decide +kernel
theorem d_O_nextTerm_20 : decode c_O_nextTerm 20 = .ok (.iload 5, 2) := by decide +kernel
theorem d_O_nextTerm_22 : decode c_O_nextTerm 22 = .ok (.iload_n 1, 1) := by decide +kernel
theorem d_O_nextTerm_23 : decode c_O_nextTerm 23 = .ok (.if_icmp .ge 34, 3) := by decide +kernel
theorem d_O_nextTerm_26 : decode c_O_nextTerm 26 = .ok (.lload_n 3, 1) := by decide +kernel
theorem d_O_nextTerm_27 : decode c_O_nextTerm 27 = .ok (.aload_n 0, 1) := by decide +kernel
theorem d_O_nextTerm_28 : decode c_O_nextTerm 28 = .ok (.getfield 21, 3) := by decide +kernel
theorem d_O_nextTerm_31 : decode c_O_nextTerm 31 = .ok (.iload 5, 2) := by decide +kernel
theorem d_O_nextTerm_33 : decode c_O_nextTerm 33 = .ok (.laload, 1) := by decide +kernel
theorem d_O_nextTerm_34 : decode c_O_nextTerm 34 = .ok (.aload_n 0, 1) := by decide +kernel
theorem d_O_nextTerm_35 : decode c_O_nextTerm 35 = .ok (.aload_n 0, 1) := by decide +kernel
theorem d_O_nextTerm_36 : decode c_O_nextTerm 36 = .ok (.getfield 14, 3) := by decide +kernel
theorem d_O_nextTerm_39 : decode c_O_nextTerm 39 = .ok (.iload 5, 2) := by decide +kernel
theorem d_O_nextTerm_41 : decode c_O_nextTerm 41 = .ok (.iload_n 2, 1) := by decide +kernel
theorem d_O_nextTerm_42 : decode c_O_nextTerm 42 = .ok (.iload 5, 2) := by decide +kernel
theorem d_O_nextTerm_44 : decode c_O_nextTerm 44 = .ok (.isub, 1) := by decide +kernel
theorem d_O_nextTerm_45 : decode c_O_nextTerm 45 = .ok (.invokevirtual 187, 3) := by decide +kernel
theorem d_O_nextTerm_48 : decode c_O_nextTerm 48 = .ok (.lmul, 1) := by decide +kernel
theorem d_O_nextTerm_49 : decode c_O_nextTerm 49 = .ok (.ladd, 1) := by decide +kernel
theorem d_O_nextTerm_50 : decode c_O_nextTerm 50 = .ok (.lstore_n 3, 1) := by decide +kernel
theorem d_O_nextTerm_51 : decode c_O_nextTerm 51 = .ok (.iinc 5 1, 3) := by decide +kernel
theorem d_O_nextTerm_54 : decode c_O_nextTerm 54 = .ok (.goto (-34), 3) := by decide +kernel
theorem d_O_nextTerm_57 : decode c_O_nextTerm 57 = .ok (.lload_n 3, 1) := by decide +kernel
theorem d_O_nextTerm_58 : decode c_O_nextTerm 58 = .ok (.invokestatic 62, 3) := by decide +kernel
theorem d_O_nextTerm_61 : decode c_O_nextTerm 61 = .ok (.lneg, 1) := by decide +kernel
theorem d_O_nextTerm_62 : decode c_O_nextTerm 62 = .ok (.aload_n 0, 1) := by decide +kernel
theorem d_O_nextTerm_63 : decode c_O_nextTerm 63 = .ok (.aload_n 0, 1) := by decide +kernel
theorem d_O_nextTerm_64 : decode c_O_nextTerm 64 = .ok (.getfield 14, 3) := by decide +kernel
theorem d_O_nextTerm_67 : decode c_O_nextTerm 67 = .ok (.iload_n 1, 1) := by decide +kernel
theorem d_O_nextTerm_68 : decode c_O_nextTerm 68 = .ok (.aload_n 0, 1) := by decide +kernel
theorem d_O_nextTerm_69 : decode c_O_nextTerm 69 = .ok (.getfield 54, 3) := by decide +kernel
theorem d_O_nextTerm_72 : decode c_O_nextTerm 72 = .ok (.ineg, 1) := by decide +kernel
theorem d_O_nextTerm_73 : decode c_O_nextTerm 73 = .ok (.invokevirtual 187, 3) := by decide +kernel
theorem d_O_nextTerm_76 : decode c_O_nextTerm 76 = .ok (.invokestatic 191, 3) := by decide +kernel
theorem d_O_nextTerm_79 : decode c_O_nextTerm 79 = .ok (.lmul, 1) := by decide +kernel
theorem d_O_nextTerm_80 : decode c_O_nextTerm 80 = .ok (.invokestatic 62, 3) := by decide +kernel
theorem d_O_nextTerm_83 : decode c_O_nextTerm 83 = .ok (.lreturn, 1) := by decide +kernel
theorem d_O_adjointAt_0 : decode c_O_adjointAt 0 = .ok (.lconst 0, 1) := by decide +kernel
theorem d_O_adjointAt_1 : decode c_O_adjointAt 1 = .ok (.lstore_n 3, 1) := by decide +kernel
theorem d_O_adjointAt_2 : decode c_O_adjointAt 2 = .ok (.iload_n 1, 1) := by decide +kernel
theorem d_O_adjointAt_3 : decode c_O_adjointAt 3 = .ok (.istore 5, 2) := by decide +kernel
theorem d_O_adjointAt_5 : decode c_O_adjointAt 5 = .ok (.iload 5, 2) := by decide +kernel
theorem d_O_adjointAt_7 : decode c_O_adjointAt 7 = .ok (.aload_n 0, 1) := by decide +kernel
theorem d_O_adjointAt_8 : decode c_O_adjointAt 8 = .ok (.getfield 54, 3) := by decide +kernel
theorem d_O_adjointAt_11 : decode c_O_adjointAt 11 = .ok (.if_icmp .gt 56, 3) := by decide +kernel
theorem d_O_adjointAt_14 : decode c_O_adjointAt 14 = .ok (.getstatic 194, 3) := by decide +kernel
theorem d_O_adjointAt_17 : decode c_O_adjointAt 17 = .ok (.iconst 4, 1) := by decide +kernel
theorem d_O_adjointAt_18 : decode c_O_adjointAt 18 = .ok (.iload 5, 2) := by decide +kernel
theorem d_O_adjointAt_20 : decode c_O_adjointAt 20 = .ok (.imul, 1) := by decide +kernel
theorem d_O_adjointAt_21 : decode c_O_adjointAt 21 = .ok (.iload_n 1, 1) := by decide +kernel
theorem d_O_adjointAt_22 : decode c_O_adjointAt 22 = .ok (.iadd, 1) := by decide +kernel
theorem d_O_adjointAt_23 : decode c_O_adjointAt 23 = .ok (.iaload, 1) := by decide +kernel
theorem d_O_adjointAt_24 : decode c_O_adjointAt 24 = .ok (.i2l, 1) := by decide +kernel
theorem d_O_adjointAt_25 : decode c_O_adjointAt 25 = .ok (.aload_n 0, 1) := by decide +kernel
theorem d_O_adjointAt_26 : decode c_O_adjointAt 26 = .ok (.getfield 11, 3) := by decide +kernel
theorem d_O_adjointAt_29 : decode c_O_adjointAt 29 = .ok (.iload 5, 2) := by decide +kernel
theorem d_O_adjointAt_31 : decode c_O_adjointAt 31 = .ok (.aaload, 1) := by decide +kernel
theorem d_O_adjointAt_32 : decode c_O_adjointAt 32 = .ok (.iload 5, 2) := by decide +kernel
theorem d_O_adjointAt_34 : decode c_O_adjointAt 34 = .ok (.iload_n 1, 1) := by decide +kernel
theorem d_O_adjointAt_35 : decode c_O_adjointAt 35 = .ok (.isub, 1) := by decide +kernel
theorem d_O_adjointAt_36 : decode c_O_adjointAt 36 = .ok (.iload_n 2, 1) := by decide +kernel
theorem d_O_adjointAt_37 : decode c_O_adjointAt 37 = .ok (.invokestatic 198, 3) := by decide +kernel
theorem d_O_adjointAt_40 : decode c_O_adjointAt 40 = .ok (.lmul, 1) := by decide +kernel
theorem d_O_adjointAt_41 : decode c_O_adjointAt 41 = .ok (.lstore 6, 2) := by decide +kernel
theorem d_O_adjointAt_43 : decode c_O_adjointAt 43 = .ok (.lload_n 3, 1) := by decide +kernel
theorem d_O_adjointAt_44 : decode c_O_adjointAt 44 = .ok (.iload 5, 2) := by decide +kernel
theorem d_O_adjointAt_46 : decode c_O_adjointAt 46 = .ok (.iconst 2, 1) := by decide +kernel
theorem d_O_adjointAt_47 : decode c_O_adjointAt 47 = .ok (.irem, 1) := by decide +kernel
theorem d_O_adjointAt_48 : decode c_O_adjointAt 48 = .ok (.ifCond .ne 8, 3) := by decide +kernel
theorem d_O_adjointAt_51 : decode c_O_adjointAt 51 = .ok (.lload 6, 2) := by decide +kernel
theorem d_O_adjointAt_53 : decode c_O_adjointAt 53 = .ok (.goto 6, 3) := by decide +kernel
theorem d_O_adjointAt_56 : decode c_O_adjointAt 56 = .ok (.lload 6, 2) := by decide +kernel
theorem d_O_adjointAt_58 : decode c_O_adjointAt 58 = .ok (.lneg, 1) := by decide +kernel
theorem d_O_adjointAt_59 : decode c_O_adjointAt 59 = .ok (.ladd, 1) := by decide +kernel
theorem d_O_adjointAt_60 : decode c_O_adjointAt 60 = .ok (.lstore_n 3, 1) := by decide +kernel
theorem d_O_adjointAt_61 : decode c_O_adjointAt 61 = .ok (.iinc 5 1, 3) := by decide +kernel
theorem d_O_adjointAt_64 : decode c_O_adjointAt 64 = .ok (.goto (-59), 3) := by decide +kernel
theorem d_O_adjointAt_67 : decode c_O_adjointAt 67 = .ok (.lload_n 3, 1) := by decide +kernel
theorem d_O_adjointAt_68 : decode c_O_adjointAt 68 = .ok (.invokestatic 62, 3) := by decide +kernel
theorem d_O_adjointAt_71 : decode c_O_adjointAt 71 = .ok (.lreturn, 1) := by decide +kernel
theorem d_O_slopeAt_0 : decode c_O_slopeAt 0 = .ok (.iload_n 2, 1) := by decide +kernel
theorem d_O_slopeAt_1 : decode c_O_slopeAt 1 = .ok (.iload_n 1, 1) := by decide +kernel
theorem d_O_slopeAt_2 : decode c_O_slopeAt 2 = .ok (.iadd, 1) := by decide +kernel
theorem d_O_slopeAt_3 : decode c_O_slopeAt 3 = .ok (.iconst 5, 1) := by decide +kernel
theorem d_O_slopeAt_4 : decode c_O_slopeAt 4 = .ok (.if_icmp .lt 5, 3) := by decide +kernel
theorem d_O_slopeAt_7 : decode c_O_slopeAt 7 = .ok (.lconst 0, 1) := by decide +kernel
theorem d_O_slopeAt_8 : decode c_O_slopeAt 8 = .ok (.lreturn, 1) := by decide +kernel
theorem d_O_slopeAt_9 : decode c_O_slopeAt 9 = .ok (.aload_n 0, 1) := by decide +kernel
theorem d_O_slopeAt_10 : decode c_O_slopeAt 10 = .ok (.iload_n 2, 1) := by decide +kernel
theorem d_O_slopeAt_11 : decode c_O_slopeAt 11 = .ok (.iload_n 1, 1) := by decide +kernel
theorem d_O_slopeAt_12 : decode c_O_slopeAt 12 = .ok (.iadd, 1) := by decide +kernel
theorem d_O_slopeAt_13 : decode c_O_slopeAt 13 = .ok (.laload, 1) := by decide +kernel
theorem d_O_slopeAt_14 : decode c_O_slopeAt 14 = .ok (.lstore_n 3, 1) := by decide +kernel
theorem d_O_slopeAt_15 : decode c_O_slopeAt 15 = .ok (.iconst 1, 1) := by decide +kernel
theorem d_O_slopeAt_16 : decode c_O_slopeAt 16 = .ok (.istore 5, 2) := by decide +kernel
theorem d_O_slopeAt_18 : decode c_O_slopeAt 18 = .ok (.iload 5, 2) := by decide +kernel
theorem d_O_slopeAt_20 : decode c_O_slopeAt 20 = .ok (.iload_n 1, 1) := by decide +kernel
theorem d_O_slopeAt_21 : decode c_O_slopeAt 21 = .ok (.if_icmp .gt 17, 3) := by decide +kernel
theorem d_O_slopeAt_24 : decode c_O_slopeAt 24 = .ok (.lload_n 3, 1) := by decide +kernel
theorem d_O_slopeAt_25 : decode c_O_slopeAt 25 = .ok (.iload_n 2, 1) := by decide +kernel
theorem d_O_slopeAt_26 : decode c_O_slopeAt 26 = .ok (.iload 5, 2) := by decide +kernel
theorem d_O_slopeAt_28 : decode c_O_slopeAt 28 = .ok (.iadd, 1) := by decide +kernel
theorem d_O_slopeAt_29 : decode c_O_slopeAt 29 = .ok (.i2l, 1) := by decide +kernel
theorem d_O_slopeAt_30 : decode c_O_slopeAt 30 = .ok (.lmul, 1) := by decide +kernel
theorem d_O_slopeAt_31 : decode c_O_slopeAt 31 = .ok (.lstore_n 3, 1) := by decide +kernel
theorem d_O_slopeAt_32 : decode c_O_slopeAt 32 = .ok (.iinc 5 1, 3) := by decide +kernel
theorem d_O_slopeAt_35 : decode c_O_slopeAt 35 = .ok (.goto (-17), 3) := by decide +kernel
theorem d_O_slopeAt_38 : decode c_O_slopeAt 38 = .ok (.lload_n 3, 1) := by decide +kernel
theorem d_O_slopeAt_39 : decode c_O_slopeAt 39 = .ok (.lreturn, 1) := by decide +kernel
theorem d_O_knowBase_0 : decode c_O_knowBase 0 = .ok (.aload_n 0, 1) := by decide +kernel
theorem d_O_knowBase_1 : decode c_O_knowBase 1 = .ok (.getfield 41, 3) := by decide +kernel
theorem d_O_knowBase_4 : decode c_O_knowBase 4 = .ok (.ifCond .eq 4, 3) := by decide +kernel
theorem d_O_knowBase_7 : decode c_O_knowBase 7 = .ok (.return_, 1) := by decide +kernel
theorem d_O_knowBase_8 : decode c_O_knowBase 8 = .ok (.iconst 0, 1) := by decide +kernel
theorem d_O_knowBase_9 : decode c_O_knowBase 9 = .ok (.istore_n 1, 1) := by decide +kernel
theorem d_O_knowBase_10 : decode c_O_knowBase 10 = .ok (.iload_n 1, 1) := by decide +kernel
theorem d_O_knowBase_11 : decode c_O_knowBase 11 = .ok (.bipush 17, 2) := by decide +kernel
theorem d_O_knowBase_13 : decode c_O_knowBase 13 = .ok (.if_icmp .ge 44, 3) := by decide +kernel
theorem d_O_knowBase_16 : decode c_O_knowBase 16 = .ok (.iconst 0, 1) := by decide +kernel
theorem d_O_knowBase_17 : decode c_O_knowBase 17 = .ok (.istore_n 2, 1) := by decide +kernel
theorem d_O_knowBase_18 : decode c_O_knowBase 18 = .ok (.iload_n 2, 1) := by decide +kernel
theorem d_O_knowBase_19 : decode c_O_knowBase 19 = .ok (.bipush 13, 2) := by decide +kernel
theorem d_O_knowBase_21 : decode c_O_knowBase 21 = .ok (.if_icmp .ge 30, 3) := by decide +kernel
theorem d_O_knowBase_24 : decode c_O_knowBase 24 = .ok (.aload_n 0, 1) := by decide +kernel
theorem d_O_knowBase_25 : decode c_O_knowBase 25 = .ok (.getfield 37, 3) := by decide +kernel
theorem d_O_knowBase_28 : decode c_O_knowBase 28 = .ok (.iload_n 1, 1) := by decide +kernel
theorem d_O_knowBase_29 : decode c_O_knowBase 29 = .ok (.iload_n 2, 1) := by decide +kernel
theorem d_O_knowBase_30 : decode c_O_knowBase 30 = .ok (.aload_n 0, 1) := by decide +kernel
theorem d_O_knowBase_31 : decode c_O_knowBase 31 = .ok (.aload_n 0, 1) := by decide +kernel
theorem d_O_knowBase_32 : decode c_O_knowBase 32 = .ok (.getfield 11, 3) := by decide +kernel
theorem d_O_knowBase_35 : decode c_O_knowBase 35 = .ok (.iload_n 2, 1) := by decide +kernel
theorem d_O_knowBase_36 : decode c_O_knowBase 36 = .ok (.iload_n 1, 1) := by decide +kernel
theorem d_O_knowBase_37 : decode c_O_knowBase 37 = .ok (.iload_n 2, 1) := by decide +kernel
theorem d_O_knowBase_38 : decode c_O_knowBase 38 = .ok (.isub, 1) := by decide +kernel
theorem d_O_knowBase_39 : decode c_O_knowBase 39 = .ok (.invokevirtual 187, 3) := by decide +kernel
theorem d_O_knowBase_42 : decode c_O_knowBase 42 = .ok (.invokevirtual 202, 3) := by decide +kernel
theorem d_O_knowBase_45 : decode c_O_knowBase 45 = .ok (.iinc 2 1, 3) := by decide +kernel
theorem d_O_knowBase_48 : decode c_O_knowBase 48 = .ok (.goto (-30), 3) := by decide +kernel
theorem d_O_knowBase_51 : decode c_O_knowBase 51 = .ok (.iinc 1 1, 3) := by decide +kernel
theorem d_O_knowBase_54 : decode c_O_knowBase 54 = .ok (.goto (-44), 3) := by decide +kernel
theorem d_O_knowBase_57 : decode c_O_knowBase 57 = .ok (.aload_n 0, 1) := by decide +kernel
theorem d_O_knowBase_58 : decode c_O_knowBase 58 = .ok (.getfield 37, 3) := by decide +kernel
theorem d_O_knowBase_61 : decode c_O_knowBase 61 = .ok (.invokevirtual 206, 3) := by decide +kernel
theorem d_O_knowBase_64 : decode c_O_knowBase 64 = .ok (.aload_n 0, 1) := by decide +kernel
theorem d_O_knowBase_65 : decode c_O_knowBase 65 = .ok (.iconst 1, 1) := by decide +kernel
theorem d_O_knowBase_66 : decode c_O_knowBase 66 = .ok (.putfield 41, 3) := by decide +kernel
theorem d_O_knowBase_69 : decode c_O_knowBase 69 = .ok (.return_, 1) := by decide +kernel
theorem d_O_number_0 : decode c_O_number 0 = .ok (.lload_n 0, 1) := by decide +kernel
theorem d_O_number_1 : decode c_O_number 1 = .ok (.ldc2_w 209, 3) := by decide +kernel
theorem d_O_number_4 : decode c_O_number 4 = .ok (.lrem, 1) := by decide +kernel
theorem d_O_number_5 : decode c_O_number 5 = .ok (.lstore_n 2, 1) := by decide +kernel
theorem d_O_number_6 : decode c_O_number 6 = .ok (.lload_n 2, 1) := by decide +kernel
theorem d_O_number_7 : decode c_O_number 7 = .ok (.lconst 0, 1) := by decide +kernel
theorem d_O_number_8 : decode c_O_number 8 = .ok (.lcmp, 1) := by decide +kernel
theorem d_O_number_9 : decode c_O_number 9 = .ok (.ifCond .ge 11, 3) := by decide +kernel
theorem d_O_number_12 : decode c_O_number 12 = .ok (.lload_n 2, 1) := by decide +kernel
theorem d_O_number_13 : decode c_O_number 13 = .ok (.ldc2_w 209, 3) := by decide +kernel
theorem d_O_number_16 : decode c_O_number 16 = .ok (.ladd, 1) := by decide +kernel
theorem d_O_number_17 : decode c_O_number 17 = .ok (.goto 4, 3) := by decide +kernel
theorem d_O_number_20 : decode c_O_number 20 = .ok (.lload_n 2, 1) := by decide +kernel
theorem d_O_number_21 : decode c_O_number 21 = .ok (.lreturn, 1) := by decide +kernel
theorem d_O_inverse_0 : decode c_O_inverse 0 = .ok (.lconst 1, 1) := by decide +kernel
theorem d_O_inverse_1 : decode c_O_inverse 1 = .ok (.lstore_n 2, 1) := by decide +kernel
theorem d_O_inverse_2 : decode c_O_inverse 2 = .ok (.bipush 14, 2) := by decide +kernel
theorem d_O_inverse_4 : decode c_O_inverse 4 = .ok (.istore 4, 2) := by decide +kernel
theorem d_O_inverse_6 : decode c_O_inverse 6 = .ok (.iload 4, 2) := by decide +kernel
theorem d_O_inverse_8 : decode c_O_inverse 8 = .ok (.ifCond .lt 37, 3) := by decide +kernel
theorem d_O_inverse_11 : decode c_O_inverse 11 = .ok (.lload_n 2, 1) := by decide +kernel
theorem d_O_inverse_12 : decode c_O_inverse 12 = .ok (.lload_n 2, 1) := by decide +kernel
theorem d_O_inverse_13 : decode c_O_inverse 13 = .ok (.lmul, 1) := by decide +kernel
theorem d_O_inverse_14 : decode c_O_inverse 14 = .ok (.ldc2_w 209, 3) := by decide +kernel
theorem d_O_inverse_17 : decode c_O_inverse 17 = .ok (.lrem, 1) := by decide +kernel
theorem d_O_inverse_18 : decode c_O_inverse 18 = .ok (.lstore_n 2, 1) := by decide +kernel
theorem d_O_inverse_19 : decode c_O_inverse 19 = .ok (.sipush 32001, 3) := by decide +kernel
theorem d_O_inverse_22 : decode c_O_inverse 22 = .ok (.iload 4, 2) := by decide +kernel
theorem d_O_inverse_24 : decode c_O_inverse 24 = .ok (.ishr, 1) := by decide +kernel
theorem d_O_inverse_25 : decode c_O_inverse 25 = .ok (.iconst 1, 1) := by decide +kernel
theorem d_O_inverse_26 : decode c_O_inverse 26 = .ok (.iand, 1) := by decide +kernel
theorem d_O_inverse_27 : decode c_O_inverse 27 = .ok (.iconst 1, 1) := by decide +kernel
theorem d_O_inverse_28 : decode c_O_inverse 28 = .ok (.if_icmp .ne 11, 3) := by decide +kernel
theorem d_O_inverse_31 : decode c_O_inverse 31 = .ok (.lload_n 2, 1) := by decide +kernel
theorem d_O_inverse_32 : decode c_O_inverse 32 = .ok (.lload_n 0, 1) := by decide +kernel
theorem d_O_inverse_33 : decode c_O_inverse 33 = .ok (.lmul, 1) := by decide +kernel
theorem d_O_inverse_34 : decode c_O_inverse 34 = .ok (.ldc2_w 209, 3) := by decide +kernel
theorem d_O_inverse_37 : decode c_O_inverse 37 = .ok (.lrem, 1) := by decide +kernel
theorem d_O_inverse_38 : decode c_O_inverse 38 = .ok (.lstore_n 2, 1) := by decide +kernel
theorem d_O_inverse_39 : decode c_O_inverse 39 = .ok (.iinc 4 (-1), 3) := by decide +kernel
theorem d_O_inverse_42 : decode c_O_inverse 42 = .ok (.goto (-36), 3) := by decide +kernel
theorem d_O_inverse_45 : decode c_O_inverse 45 = .ok (.lload_n 2, 1) := by decide +kernel
theorem d_O_inverse_46 : decode c_O_inverse 46 = .ok (.lreturn, 1) := by decide +kernel
theorem d_O_isZero_0 : decode c_O_isZero 0 = .ok (.aload_n 0, 1) := by decide +kernel
theorem d_O_isZero_1 : decode c_O_isZero 1 = .ok (.invokestatic 211, 3) := by decide +kernel
theorem d_O_isZero_4 : decode c_O_isZero 4 = .ok (.ifCond .ge 7, 3) := by decide +kernel
theorem d_O_isZero_7 : decode c_O_isZero 7 = .ok (.iconst 1, 1) := by decide +kernel
theorem d_O_isZero_8 : decode c_O_isZero 8 = .ok (.goto 4, 3) := by decide +kernel
theorem d_O_isZero_11 : decode c_O_isZero 11 = .ok (.iconst 0, 1) := by decide +kernel
theorem d_O_isZero_12 : decode c_O_isZero 12 = .ok (.ireturn, 1) := by decide +kernel
theorem d_O_degree_0 : decode c_O_degree 0 = .ok (.aload_n 0, 1) := by decide +kernel
theorem d_O_degree_1 : decode c_O_degree 1 = .ok (.arraylength, 1) := by decide +kernel
theorem d_O_degree_2 : decode c_O_degree 2 = .ok (.iconst 1, 1) := by decide +kernel
theorem d_O_degree_3 : decode c_O_degree 3 = .ok (.isub, 1) := by decide +kernel
theorem d_O_degree_4 : decode c_O_degree 4 = .ok (.istore_n 1, 1) := by decide +kernel
theorem d_O_degree_5 : decode c_O_degree 5 = .ok (.iload_n 1, 1) := by decide +kernel
theorem d_O_degree_6 : decode c_O_degree 6 = .ok (.ifCond .lt 17, 3) := by decide +kernel
theorem d_O_degree_9 : decode c_O_degree 9 = .ok (.aload_n 0, 1) := by decide +kernel
theorem d_O_degree_10 : decode c_O_degree 10 = .ok (.iload_n 1, 1) := by decide +kernel
theorem d_O_degree_11 : decode c_O_degree 11 = .ok (.laload, 1) := by decide +kernel
theorem d_O_degree_12 : decode c_O_degree 12 = .ok (.lconst 0, 1) := by decide +kernel
theorem d_O_degree_13 : decode c_O_degree 13 = .ok (.lcmp, 1) := by decide +kernel
theorem d_O_degree_14 : decode c_O_degree 14 = .ok (.ifCond .ne 9, 3) := by decide +kernel
theorem d_O_degree_17 : decode c_O_degree 17 = .ok (.iinc 1 (-1), 3) := by decide +kernel
theorem d_O_degree_20 : decode c_O_degree 20 = .ok (.goto (-15), 3) := by decide +kernel
theorem d_O_degree_23 : decode c_O_degree 23 = .ok (.iload_n 1, 1) := by decide +kernel
theorem d_O_degree_24 : decode c_O_degree 24 = .ok (.ireturn, 1) := by decide +kernel
theorem d_O_shift_0 : decode c_O_shift 0 = .ok (.iconst 0, 1) := by decide +kernel
theorem d_O_shift_1 : decode c_O_shift 1 = .ok (.istore_n 3, 1) := by decide +kernel
theorem d_O_shift_2 : decode c_O_shift 2 = .ok (.iload_n 3, 1) := by decide +kernel
theorem d_O_shift_3 : decode c_O_shift 3 = .ok (.iconst 4, 1) := by decide +kernel
theorem d_O_shift_4 : decode c_O_shift 4 = .ok (.if_icmp .ge 45, 3) := by decide +kernel
theorem d_O_shift_7 : decode c_O_shift 7 = .ok (.iconst 3, 1) := by decide +kernel
theorem d_O_shift_8 : decode c_O_shift 8 = .ok (.istore 4, 2) := by decide +kernel
theorem d_O_shift_10 : decode c_O_shift 10 = .ok (.iload 4, 2) := by decide +kernel
theorem d_O_shift_12 : decode c_O_shift 12 = .ok (.iload_n 3, 1) := by decide +kernel
theorem d_O_shift_13 : decode c_O_shift 13 = .ok (.if_icmp .lt 30, 3) := by decide +kernel
theorem d_O_shift_16 : decode c_O_shift 16 = .ok (.aload_n 0, 1) := by decide +kernel
theorem d_O_shift_17 : decode c_O_shift 17 = .ok (.iload 4, 2) := by decide +kernel
theorem d_O_shift_19 : decode c_O_shift 19 = .ok (.aload_n 0, 1) := by decide +kernel
theorem d_O_shift_20 : decode c_O_shift 20 = .ok (.iload 4, 2) := by decide +kernel
theorem d_O_shift_22 : decode c_O_shift 22 = .ok (.laload, 1) := by decide +kernel
theorem d_O_shift_23 : decode c_O_shift 23 = .ok (.lload_n 1, 1) := by decide +kernel
theorem d_O_shift_24 : decode c_O_shift 24 = .ok (.aload_n 0, 1) := by decide +kernel
theorem d_O_shift_25 : decode c_O_shift 25 = .ok (.iload 4, 2) := by decide +kernel
theorem d_O_shift_27 : decode c_O_shift 27 = .ok (.iconst 1, 1) := by decide +kernel
theorem d_O_shift_28 : decode c_O_shift 28 = .ok (.iadd, 1) := by decide +kernel
theorem d_O_shift_29 : decode c_O_shift 29 = .ok (.laload, 1) := by decide +kernel
theorem d_O_shift_30 : decode c_O_shift 30 = .ok (.lmul, 1) := by decide +kernel
theorem d_O_shift_31 : decode c_O_shift 31 = .ok (.ladd, 1) := by decide +kernel
theorem d_O_shift_32 : decode c_O_shift 32 = .ok (.ldc2_w 209, 3) := by decide +kernel
theorem d_O_shift_35 : decode c_O_shift 35 = .ok (.lrem, 1) := by decide +kernel
theorem d_O_shift_36 : decode c_O_shift 36 = .ok (.lastore, 1) := by decide +kernel
theorem d_O_shift_37 : decode c_O_shift 37 = .ok (.iinc 4 (-1), 3) := by decide +kernel
theorem d_O_shift_40 : decode c_O_shift 40 = .ok (.goto (-30), 3) := by decide +kernel
theorem d_O_shift_43 : decode c_O_shift 43 = .ok (.iinc 3 1, 3) := by decide +kernel
theorem d_O_shift_46 : decode c_O_shift 46 = .ok (.goto (-44), 3) := by decide +kernel
theorem d_O_shift_49 : decode c_O_shift 49 = .ok (.return_, 1) := by decide +kernel
