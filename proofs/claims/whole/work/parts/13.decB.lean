theorem d_B_init_0 : decode c_B_init 0 = .ok (.aload_n 0, 1) := by decide +kernel
theorem d_B_init_1 : decode c_B_init 1 = .ok (.invokespecial 3, 3) := by decide +kernel
theorem d_B_init_4 : decode c_B_init 4 = .ok (.aload_n 0, 1) := by decide +kernel
theorem d_B_init_5 : decode c_B_init 5 = .ok (.bipush 17, 2) := by decide +kernel
theorem d_B_init_7 : decode c_B_init 7 = .ok (.bipush 13, 2) := by decide +kernel
theorem d_B_init_9 : decode c_B_init 9 = .ok (.multianewarray 9 2, 4) := by decide +kernel
theorem d_B_init_13 : decode c_B_init 13 = .ok (.putfield 11, 3) := by decide +kernel
theorem d_B_init_16 : decode c_B_init 16 = .ok (.aload_n 0, 1) := by decide +kernel
theorem d_B_init_17 : decode c_B_init 17 = .ok (.bipush 13, 2) := by decide +kernel
theorem d_B_init_19 : decode c_B_init 19 = .ok (.newarray .int, 2) := by decide +kernel
theorem d_B_init_21 : decode c_B_init 21 = .ok (.putfield 16, 3) := by decide +kernel
theorem d_B_init_24 : decode c_B_init 24 = .ok (.aload_n 0, 1) := by decide +kernel
theorem d_B_init_25 : decode c_B_init 25 = .ok (.bipush 13, 2) := by decide +kernel
theorem d_B_init_27 : decode c_B_init 27 = .ok (.bipush 13, 2) := by decide +kernel
theorem d_B_init_29 : decode c_B_init 29 = .ok (.multianewarray 9 2, 4) := by decide +kernel
theorem d_B_init_33 : decode c_B_init 33 = .ok (.putfield 20, 3) := by decide +kernel
theorem d_B_init_36 : decode c_B_init 36 = .ok (.aload_n 0, 1) := by decide +kernel
theorem d_B_init_37 : decode c_B_init 37 = .ok (.iconst 0, 1) := by decide +kernel
theorem d_B_init_38 : decode c_B_init 38 = .ok (.putfield 23, 3) := by decide +kernel
theorem d_B_init_41 : decode c_B_init 41 = .ok (.return_, 1) := by decide +kernel
theorem d_B_size_0 : decode c_B_size 0 = .ok (.aload_n 0, 1) := by decide +kernel
theorem d_B_size_1 : decode c_B_size 1 = .ok (.getfield 23, 3) := by decide +kernel
theorem d_B_size_4 : decode c_B_size 4 = .ok (.ireturn, 1) := by decide +kernel
theorem d_B_member_0 : decode c_B_member 0 = .ok (.aload_n 0, 1) := by decide +kernel
theorem d_B_member_1 : decode c_B_member 1 = .ok (.getfield 20, 3) := by decide +kernel
theorem d_B_member_4 : decode c_B_member 4 = .ok (.iload_n 1, 1) := by decide +kernel
theorem d_B_member_5 : decode c_B_member 5 = .ok (.aaload, 1) := by decide +kernel
theorem d_B_member_6 : decode c_B_member 6 = .ok (.areturn, 1) := by decide +kernel
theorem d_B_enter_0 : decode c_B_enter 0 = .ok (.aload_n 0, 1) := by decide +kernel
theorem d_B_enter_1 : decode c_B_enter 1 = .ok (.getfield 11, 3) := by decide +kernel
theorem d_B_enter_4 : decode c_B_enter 4 = .ok (.iload_n 1, 1) := by decide +kernel
theorem d_B_enter_5 : decode c_B_enter 5 = .ok (.aaload, 1) := by decide +kernel
theorem d_B_enter_6 : decode c_B_enter 6 = .ok (.iload_n 2, 1) := by decide +kernel
theorem d_B_enter_7 : decode c_B_enter 7 = .ok (.lload_n 3, 1) := by decide +kernel
theorem d_B_enter_8 : decode c_B_enter 8 = .ok (.lastore, 1) := by decide +kernel
theorem d_B_enter_9 : decode c_B_enter 9 = .ok (.return_, 1) := by decide +kernel
theorem d_B_solve_0 : decode c_B_solve 0 = .ok (.aload_n 0, 1) := by decide +kernel
theorem d_B_solve_1 : decode c_B_solve 1 = .ok (.invokevirtual 27, 3) := by decide +kernel
theorem d_B_solve_4 : decode c_B_solve 4 = .ok (.aload_n 0, 1) := by decide +kernel
theorem d_B_solve_5 : decode c_B_solve 5 = .ok (.iconst 0, 1) := by decide +kernel
theorem d_B_solve_6 : decode c_B_solve 6 = .ok (.putfield 23, 3) := by decide +kernel
theorem d_B_solve_9 : decode c_B_solve 9 = .ok (.bipush 12, 2) := by decide +kernel
theorem d_B_solve_11 : decode c_B_solve 11 = .ok (.istore_n 1, 1) := by decide +kernel
theorem d_B_solve_12 : decode c_B_solve 12 = .ok (.iload_n 1, 1) := by decide +kernel
theorem d_B_solve_13 : decode c_B_solve 13 = .ok (.ifCond .lt 43, 3) := by decide +kernel
theorem d_B_solve_16 : decode c_B_solve 16 = .ok (.aload_n 0, 1) := by decide +kernel
theorem d_B_solve_17 : decode c_B_solve 17 = .ok (.getfield 16, 3) := by decide +kernel
theorem d_B_solve_20 : decode c_B_solve 20 = .ok (.iload_n 1, 1) := by decide +kernel
theorem d_B_solve_21 : decode c_B_solve 21 = .ok (.iaload, 1) := by decide +kernel
theorem d_B_solve_22 : decode c_B_solve 22 = .ok (.iconst (-1), 1) := by decide +kernel
theorem d_B_solve_23 : decode c_B_solve 23 = .ok (.if_icmp .ne 27, 3) := by decide +kernel
theorem d_B_solve_26 : decode c_B_solve 26 = .ok (.aload_n 0, 1) := by decide +kernel
theorem d_B_solve_27 : decode c_B_solve 27 = .ok (.aload_n 0, 1) := by decide +kernel
theorem d_B_solve_28 : decode c_B_solve 28 = .ok (.getfield 20, 3) := by decide +kernel
theorem d_B_solve_31 : decode c_B_solve 31 = .ok (.aload_n 0, 1) := by decide +kernel
theorem d_B_solve_32 : decode c_B_solve 32 = .ok (.getfield 23, 3) := by decide +kernel
theorem d_B_solve_35 : decode c_B_solve 35 = .ok (.aaload, 1) := by decide +kernel
theorem d_B_solve_36 : decode c_B_solve 36 = .ok (.iload_n 1, 1) := by decide +kernel
theorem d_B_solve_37 : decode c_B_solve 37 = .ok (.invokevirtual 30, 3) := by decide +kernel
theorem d_B_solve_40 : decode c_B_solve 40 = .ok (.aload_n 0, 1) := by decide +kernel
theorem d_B_solve_41 : decode c_B_solve 41 = .ok (.dup, 1) := by decide +kernel
theorem d_B_solve_42 : decode c_B_solve 42 = .ok (.getfield 23, 3) := by decide +kernel
theorem d_B_solve_45 : decode c_B_solve 45 = .ok (.iconst 1, 1) := by decide +kernel
theorem d_B_solve_46 : decode c_B_solve 46 = .ok (.iadd, 1) := by decide +kernel
theorem d_B_solve_47 : decode c_B_solve 47 = .ok (.putfield 23, 3) := by decide +kernel
theorem d_B_solve_50 : decode c_B_solve 50 = .ok (.iinc 1 (-1), 3) := by decide +kernel
theorem d_B_solve_53 : decode c_B_solve 53 = .ok (.goto (-41), 3) := by decide +kernel
theorem d_B_solve_56 : decode c_B_solve 56 = .ok (.return_, 1) := by decide +kernel
theorem d_B_reduceRows_0 : decode c_B_reduceRows 0 = .ok (.iconst 0, 1) := by decide +kernel
theorem d_B_reduceRows_1 : decode c_B_reduceRows 1 = .ok (.istore_n 1, 1) := by decide +kernel
theorem d_B_reduceRows_2 : decode c_B_reduceRows 2 = .ok (.iconst 0, 1) := by decide +kernel
theorem d_B_reduceRows_3 : decode c_B_reduceRows 3 = .ok (.istore_n 2, 1) := by decide +kernel
theorem d_B_reduceRows_4 : decode c_B_reduceRows 4 = .ok (.iload_n 2, 1) := by decide +kernel
theorem d_B_reduceRows_5 : decode c_B_reduceRows 5 = .ok (.bipush 13, 2) := by decide +kernel
theorem d_B_reduceRows_7 : decode c_B_reduceRows 7 = .ok (.if_icmp .ge 59, 3) := by decide +kernel
theorem d_B_reduceRows_10 : decode c_B_reduceRows 10 = .ok (.aload_n 0, 1) := by decide +kernel
theorem d_B_reduceRows_11 : decode c_B_reduceRows 11 = .ok (.iload_n 2, 1) := by decide +kernel
theorem d_B_reduceRows_12 : decode c_B_reduceRows 12 = .ok (.iload_n 1, 1) := by decide +kernel
theorem d_B_reduceRows_13 : decode c_B_reduceRows 13 = .ok (.invokevirtual 34, 3) := by decide +kernel
theorem d_B_reduceRows_16 : decode c_B_reduceRows 16 = .ok (.istore_n 3, 1) := by decide +kernel
theorem d_B_reduceRows_17 : decode c_B_reduceRows 17 = .ok (.iload_n 3, 1) := by decide +kernel
theorem d_B_reduceRows_18 : decode c_B_reduceRows 18 = .ok (.iconst (-1), 1) := by decide +kernel
theorem d_B_reduceRows_19 : decode c_B_reduceRows 19 = .ok (.if_icmp .ne 13, 3) := by decide +kernel
theorem d_B_reduceRows_22 : decode c_B_reduceRows 22 = .ok (.aload_n 0, 1) := by decide +kernel
theorem d_B_reduceRows_23 : decode c_B_reduceRows 23 = .ok (.getfield 16, 3) := by decide +kernel
theorem d_B_reduceRows_26 : decode c_B_reduceRows 26 = .ok (.iload_n 2, 1) := by decide +kernel
theorem d_B_reduceRows_27 : decode c_B_reduceRows 27 = .ok (.iconst (-1), 1) := by decide +kernel
theorem d_B_reduceRows_28 : decode c_B_reduceRows 28 = .ok (.iastore, 1) := by decide +kernel
theorem d_B_reduceRows_29 : decode c_B_reduceRows 29 = .ok (.goto 31, 3) := by decide +kernel
theorem d_B_reduceRows_32 : decode c_B_reduceRows 32 = .ok (.aload_n 0, 1) := by decide +kernel
theorem d_B_reduceRows_33 : decode c_B_reduceRows 33 = .ok (.iload_n 3, 1) := by decide +kernel
theorem d_B_reduceRows_34 : decode c_B_reduceRows 34 = .ok (.iload_n 1, 1) := by decide +kernel
theorem d_B_reduceRows_35 : decode c_B_reduceRows 35 = .ok (.invokevirtual 38, 3) := by decide +kernel
theorem d_B_reduceRows_38 : decode c_B_reduceRows 38 = .ok (.aload_n 0, 1) := by decide +kernel
theorem d_B_reduceRows_39 : decode c_B_reduceRows 39 = .ok (.iload_n 1, 1) := by decide +kernel
theorem d_B_reduceRows_40 : decode c_B_reduceRows 40 = .ok (.iload_n 2, 1) := by decide +kernel
theorem d_B_reduceRows_41 : decode c_B_reduceRows 41 = .ok (.invokevirtual 42, 3) := by decide +kernel
theorem d_B_reduceRows_44 : decode c_B_reduceRows 44 = .ok (.aload_n 0, 1) := by decide +kernel
theorem d_B_reduceRows_45 : decode c_B_reduceRows 45 = .ok (.iload_n 1, 1) := by decide +kernel
theorem d_B_reduceRows_46 : decode c_B_reduceRows 46 = .ok (.iload_n 2, 1) := by decide +kernel
theorem d_B_reduceRows_47 : decode c_B_reduceRows 47 = .ok (.invokevirtual 45, 3) := by decide +kernel
theorem d_B_reduceRows_50 : decode c_B_reduceRows 50 = .ok (.aload_n 0, 1) := by decide +kernel
theorem d_B_reduceRows_51 : decode c_B_reduceRows 51 = .ok (.getfield 16, 3) := by decide +kernel
theorem d_B_reduceRows_54 : decode c_B_reduceRows 54 = .ok (.iload_n 2, 1) := by decide +kernel
theorem d_B_reduceRows_55 : decode c_B_reduceRows 55 = .ok (.iload_n 1, 1) := by decide +kernel
theorem d_B_reduceRows_56 : decode c_B_reduceRows 56 = .ok (.iastore, 1) := by decide +kernel
theorem d_B_reduceRows_57 : decode c_B_reduceRows 57 = .ok (.iinc 1 1, 3) := by decide +kernel
theorem d_B_reduceRows_60 : decode c_B_reduceRows 60 = .ok (.iinc 2 1, 3) := by decide +kernel
theorem d_B_reduceRows_63 : decode c_B_reduceRows 63 = .ok (.goto (-59), 3) := by decide +kernel
theorem d_B_reduceRows_66 : decode c_B_reduceRows 66 = .ok (.return_, 1) := by decide +kernel
theorem d_B_rowWith_0 : decode c_B_rowWith 0 = .ok (.iload_n 2, 1) := by decide +kernel
theorem d_B_rowWith_1 : decode c_B_rowWith 1 = .ok (.istore_n 3, 1) := by decide +kernel
theorem d_B_rowWith_2 : decode c_B_rowWith 2 = .ok (.iload_n 3, 1) := by decide +kernel
theorem d_B_rowWith_3 : decode c_B_rowWith 3 = .ok (.bipush 17, 2) := by decide +kernel
theorem d_B_rowWith_5 : decode c_B_rowWith 5 = .ok (.if_icmp .ge 24, 3) := by decide +kernel
theorem d_B_rowWith_8 : decode c_B_rowWith 8 = .ok (.aload_n 0, 1) := by decide +kernel
theorem d_B_rowWith_9 : decode c_B_rowWith 9 = .ok (.getfield 11, 3) := by decide +kernel
theorem d_B_rowWith_12 : decode c_B_rowWith 12 = .ok (.iload_n 3, 1) := by decide +kernel
theorem d_B_rowWith_13 : decode c_B_rowWith 13 = .ok (.aaload, 1) := by decide +kernel
theorem d_B_rowWith_14 : decode c_B_rowWith 14 = .ok (.iload_n 1, 1) := by decide +kernel
theorem d_B_rowWith_15 : decode c_B_rowWith 15 = .ok (.laload, 1) := by decide +kernel
theorem d_B_rowWith_16 : decode c_B_rowWith 16 = .ok (.lconst 0, 1) := by decide +kernel
theorem d_B_rowWith_17 : decode c_B_rowWith 17 = .ok (.lcmp, 1) := by decide +kernel
theorem d_B_rowWith_18 : decode c_B_rowWith 18 = .ok (.ifCond .eq 5, 3) := by decide +kernel
theorem d_B_rowWith_21 : decode c_B_rowWith 21 = .ok (.iload_n 3, 1) := by decide +kernel
theorem d_B_rowWith_22 : decode c_B_rowWith 22 = .ok (.ireturn, 1) := by decide +kernel
theorem d_B_rowWith_23 : decode c_B_rowWith 23 = .ok (.iinc 3 1, 3) := by decide +kernel
theorem d_B_rowWith_26 : decode c_B_rowWith 26 = .ok (.goto (-24), 3) := by decide +kernel
theorem d_B_rowWith_29 : decode c_B_rowWith 29 = .ok (.iconst (-1), 1) := by decide +kernel
theorem d_B_rowWith_30 : decode c_B_rowWith 30 = .ok (.ireturn, 1) := by decide +kernel
theorem d_B_swap_0 : decode c_B_swap 0 = .ok (.iconst 0, 1) := by decide +kernel
theorem d_B_swap_1 : decode c_B_swap 1 = .ok (.istore_n 3, 1) := by decide +kernel
theorem d_B_swap_2 : decode c_B_swap 2 = .ok (.iload_n 3, 1) := by decide +kernel
theorem d_B_swap_3 : decode c_B_swap 3 = .ok (.bipush 13, 2) := by decide +kernel
theorem d_B_swap_5 : decode c_B_swap 5 = .ok (.if_icmp .ge 45, 3) := by decide +kernel
theorem d_B_swap_8 : decode c_B_swap 8 = .ok (.aload_n 0, 1) := by decide +kernel
theorem d_B_swap_9 : decode c_B_swap 9 = .ok (.getfield 11, 3) := by decide +kernel
theorem d_B_swap_12 : decode c_B_swap 12 = .ok (.iload_n 1, 1) := by decide +kernel
theorem d_B_swap_13 : decode c_B_swap 13 = .ok (.aaload, 1) := by decide +kernel
theorem d_B_swap_14 : decode c_B_swap 14 = .ok (.iload_n 3, 1) := by decide +kernel
theorem d_B_swap_15 : decode c_B_swap 15 = .ok (.laload, 1) := by decide +kernel
theorem d_B_swap_16 : decode c_B_swap 16 = .ok (.lstore 4, 2) := by decide +kernel
theorem d_B_swap_18 : decode c_B_swap 18 = .ok (.aload_n 0, 1) := by decide +kernel
theorem d_B_swap_19 : decode c_B_swap 19 = .ok (.getfield 11, 3) := by decide +kernel
theorem d_B_swap_22 : decode c_B_swap 22 = .ok (.iload_n 1, 1) := by decide +kernel
theorem d_B_swap_23 : decode c_B_swap 23 = .ok (.aaload, 1) := by decide +kernel
theorem d_B_swap_24 : decode c_B_swap 24 = .ok (.iload_n 3, 1) := by decide +kernel
theorem d_B_swap_25 : decode c_B_swap 25 = .ok (.aload_n 0, 1) := by decide +kernel
theorem d_B_swap_26 : decode c_B_swap 26 = .ok (.getfield 11, 3) := by decide +kernel
theorem d_B_swap_29 : decode c_B_swap 29 = .ok (.iload_n 2, 1) := by decide +kernel
theorem d_B_swap_30 : decode c_B_swap 30 = .ok (.aaload, 1) := by decide +kernel
theorem d_B_swap_31 : decode c_B_swap 31 = .ok (.iload_n 3, 1) := by decide +kernel
theorem d_B_swap_32 : decode c_B_swap 32 = .ok (.laload, 1) := by decide +kernel
theorem d_B_swap_33 : decode c_B_swap 33 = .ok (.lastore, 1) := by decide +kernel
theorem d_B_swap_34 : decode c_B_swap 34 = .ok (.aload_n 0, 1) := by decide +kernel
theorem d_B_swap_35 : decode c_B_swap 35 = .ok (.getfield 11, 3) := by decide +kernel
theorem d_B_swap_38 : decode c_B_swap 38 = .ok (.iload_n 2, 1) := by decide +kernel
theorem d_B_swap_39 : decode c_B_swap 39 = .ok (.aaload, 1) := by decide +kernel
theorem d_B_swap_40 : decode c_B_swap 40 = .ok (.iload_n 3, 1) := by decide +kernel
theorem d_B_swap_41 : decode c_B_swap 41 = .ok (.lload 4, 2) := by decide +kernel
theorem d_B_swap_43 : decode c_B_swap 43 = .ok (.lastore, 1) := by decide +kernel
theorem d_B_swap_44 : decode c_B_swap 44 = .ok (.iinc 3 1, 3) := by decide +kernel
theorem d_B_swap_47 : decode c_B_swap 47 = .ok (.goto (-45), 3) := by decide +kernel
theorem d_B_swap_50 : decode c_B_swap 50 = .ok (.return_, 1) := by decide +kernel
theorem d_B_scaleRow_0 : decode c_B_scaleRow 0 = .ok (.aload_n 0, 1) := by decide +kernel
theorem d_B_scaleRow_1 : decode c_B_scaleRow 1 = .ok (.getfield 11, 3) := by decide +kernel
theorem d_B_scaleRow_4 : decode c_B_scaleRow 4 = .ok (.iload_n 1, 1) := by decide +kernel
theorem d_B_scaleRow_5 : decode c_B_scaleRow 5 = .ok (.aaload, 1) := by decide +kernel
theorem d_B_scaleRow_6 : decode c_B_scaleRow 6 = .ok (.iload_n 2, 1) := by decide +kernel
theorem d_B_scaleRow_7 : decode c_B_scaleRow 7 = .ok (.laload, 1) := by decide +kernel
theorem d_B_scaleRow_8 : decode c_B_scaleRow 8 = .ok (.invokestatic 48, 3) := by decide +kernel
theorem d_B_scaleRow_11 : decode c_B_scaleRow 11 = .ok (.lstore_n 3, 1) := by decide +kernel
theorem d_B_scaleRow_12 : decode c_B_scaleRow 12 = .ok (.iconst 0, 1) := by decide +kernel
theorem d_B_scaleRow_13 : decode c_B_scaleRow 13 = .ok (.istore 5, 2) := by decide +kernel
theorem d_B_scaleRow_15 : decode c_B_scaleRow 15 = .ok (.iload 5, 2) := by decide +kernel
theorem d_B_scaleRow_17 : decode c_B_scaleRow 17 = .ok (.bipush 13, 2) := by decide +kernel
theorem d_B_scaleRow_19 : decode c_B_scaleRow 19 = .ok (.if_icmp .ge 33, 3) := by decide +kernel
theorem d_B_scaleRow_22 : decode c_B_scaleRow 22 = .ok (.aload_n 0, 1) := by decide +kernel
theorem d_B_scaleRow_23 : decode c_B_scaleRow 23 = .ok (.getfield 11, 3) := by decide +kernel
theorem d_B_scaleRow_26 : decode c_B_scaleRow 26 = .ok (.iload_n 1, 1) := by decide +kernel
theorem d_B_scaleRow_27 : decode c_B_scaleRow 27 = .ok (.aaload, 1) := by decide +kernel
theorem d_B_scaleRow_28 : decode c_B_scaleRow 28 = .ok (.iload 5, 2) := by decide +kernel
theorem d_B_scaleRow_30 : decode c_B_scaleRow 30 = .ok (.aload_n 0, 1) := by decide +kernel
theorem d_B_scaleRow_31 : decode c_B_scaleRow 31 = .ok (.getfield 11, 3) := by decide +kernel
theorem d_B_scaleRow_34 : decode c_B_scaleRow 34 = .ok (.iload_n 1, 1) := by decide +kernel
theorem d_B_scaleRow_35 : decode c_B_scaleRow 35 = .ok (.aaload, 1) := by decide +kernel
theorem d_B_scaleRow_36 : decode c_B_scaleRow 36 = .ok (.iload 5, 2) := by decide +kernel
theorem d_B_scaleRow_38 : decode c_B_scaleRow 38 = .ok (.laload, 1) := by decide +kernel
theorem d_B_scaleRow_39 : decode c_B_scaleRow 39 = .ok (.lload_n 3, 1) := by decide +kernel
theorem d_B_scaleRow_40 : decode c_B_scaleRow 40 = .ok (.lmul, 1) := by decide +kernel
theorem d_B_scaleRow_41 : decode c_B_scaleRow 41 = .ok (.ldc2_w 52, 3) := by decide +kernel
theorem d_B_scaleRow_44 : decode c_B_scaleRow 44 = .ok (.lrem, 1) := by decide +kernel
theorem d_B_scaleRow_45 : decode c_B_scaleRow 45 = .ok (.lastore, 1) := by decide +kernel
theorem d_B_scaleRow_46 : decode c_B_scaleRow 46 = .ok (.iinc 5 1, 3) := by decide +kernel
theorem d_B_scaleRow_49 : decode c_B_scaleRow 49 = .ok (.goto (-34), 3) := by decide +kernel
theorem d_B_scaleRow_52 : decode c_B_scaleRow 52 = .ok (.return_, 1) := by decide +kernel
theorem d_B_clearColumn_0 : decode c_B_clearColumn 0 = .ok (.iconst 0, 1) := by decide +kernel
theorem d_B_clearColumn_1 : decode c_B_clearColumn 1 = .ok (.istore_n 3, 1) := by decide +kernel
theorem d_B_clearColumn_2 : decode c_B_clearColumn 2 = .ok (.iload_n 3, 1) := by decide +kernel
theorem d_B_clearColumn_3 : decode c_B_clearColumn 3 = .ok (.bipush 17, 2) := by decide +kernel
theorem d_B_clearColumn_5 : decode c_B_clearColumn 5 = .ok (.if_icmp .ge 81, 3) := by decide +kernel
theorem d_B_clearColumn_8 : decode c_B_clearColumn 8 = .ok (.aload_n 0, 1) := by decide +kernel
theorem d_B_clearColumn_9 : decode c_B_clearColumn 9 = .ok (.getfield 11, 3) := by decide +kernel
theorem d_B_clearColumn_12 : decode c_B_clearColumn 12 = .ok (.iload_n 3, 1) := by decide +kernel
theorem d_B_clearColumn_13 : decode c_B_clearColumn 13 = .ok (.aaload, 1) := by decide +kernel
theorem d_B_clearColumn_14 : decode c_B_clearColumn 14 = .ok (.iload_n 2, 1) := by decide +kernel
theorem d_B_clearColumn_15 : decode c_B_clearColumn 15 = .ok (.laload, 1) := by decide +kernel
theorem d_B_clearColumn_16 : decode c_B_clearColumn 16 = .ok (.lstore 4, 2) := by decide +kernel
theorem d_B_clearColumn_18 : decode c_B_clearColumn 18 = .ok (.iload_n 3, 1) := by decide +kernel
theorem d_B_clearColumn_19 : decode c_B_clearColumn 19 = .ok (.iload_n 1, 1) := by decide +kernel
theorem d_B_clearColumn_20 : decode c_B_clearColumn 20 = .ok (.if_icmp .eq 60, 3) := by decide +kernel
theorem d_B_clearColumn_23 : decode c_B_clearColumn 23 = .ok (.lload 4, 2) := by decide +kernel
theorem d_B_clearColumn_25 : decode c_B_clearColumn 25 = .ok (.lconst 0, 1) := by decide +kernel
theorem d_B_clearColumn_26 : decode c_B_clearColumn 26 = .ok (.lcmp, 1) := by decide +kernel
theorem d_B_clearColumn_27 : decode c_B_clearColumn 27 = .ok (.ifCond .eq 53, 3) := by decide +kernel
theorem d_B_clearColumn_30 : decode c_B_clearColumn 30 = .ok (.iconst 0, 1) := by decide +kernel
theorem d_B_clearColumn_31 : decode c_B_clearColumn 31 = .ok (.istore 6, 2) := by decide +kernel
theorem d_B_clearColumn_33 : decode c_B_clearColumn 33 = .ok (.iload 6, 2) := by decide +kernel
theorem d_B_clearColumn_35 : decode c_B_clearColumn 35 = .ok (.bipush 13, 2) := by decide +kernel
theorem d_B_clearColumn_37 : decode c_B_clearColumn 37 = .ok (.if_icmp .ge 43, 3) := by decide +kernel
theorem d_B_clearColumn_40 : decode c_B_clearColumn 40 = .ok (.aload_n 0, 1) := by decide +kernel
theorem d_B_clearColumn_41 : decode c_B_clearColumn 41 = .ok (.getfield 11, 3) := by decide +kernel
theorem d_B_clearColumn_44 : decode c_B_clearColumn 44 = .ok (.iload_n 3, 1) := by decide +kernel
theorem d_B_clearColumn_45 : decode c_B_clearColumn 45 = .ok (.aaload, 1) := by decide +kernel
theorem d_B_clearColumn_46 : decode c_B_clearColumn 46 = .ok (.iload 6, 2) := by decide +kernel
theorem d_B_clearColumn_48 : decode c_B_clearColumn 48 = .ok (.aload_n 0, 1) := by decide +kernel
theorem d_B_clearColumn_49 : decode c_B_clearColumn 49 = .ok (.getfield 11, 3) := by decide +kernel
theorem d_B_clearColumn_52 : decode c_B_clearColumn 52 = .ok (.iload_n 3, 1) := by decide +kernel
theorem d_B_clearColumn_53 : decode c_B_clearColumn 53 = .ok (.aaload, 1) := by decide +kernel
theorem d_B_clearColumn_54 : decode c_B_clearColumn 54 = .ok (.iload 6, 2) := by decide +kernel
theorem d_B_clearColumn_56 : decode c_B_clearColumn 56 = .ok (.laload, 1) := by decide +kernel
theorem d_B_clearColumn_57 : decode c_B_clearColumn 57 = .ok (.lload 4, 2) := by decide +kernel
theorem d_B_clearColumn_59 : decode c_B_clearColumn 59 = .ok (.aload_n 0, 1) := by decide +kernel
theorem d_B_clearColumn_60 : decode c_B_clearColumn 60 = .ok (.getfield 11, 3) := by decide +kernel
theorem d_B_clearColumn_63 : decode c_B_clearColumn 63 = .ok (.iload_n 1, 1) := by decide +kernel
theorem d_B_clearColumn_64 : decode c_B_clearColumn 64 = .ok (.aaload, 1) := by decide +kernel
theorem d_B_clearColumn_65 : decode c_B_clearColumn 65 = .ok (.iload 6, 2) := by decide +kernel
theorem d_B_clearColumn_67 : decode c_B_clearColumn 67 = .ok (.laload, 1) := by decide +kernel
theorem d_B_clearColumn_68 : decode c_B_clearColumn 68 = .ok (.lmul, 1) := by decide +kernel
theorem d_B_clearColumn_69 : decode c_B_clearColumn 69 = .ok (.lsub, 1) := by decide +kernel
theorem d_B_clearColumn_70 : decode c_B_clearColumn 70 = .ok (.invokestatic 54, 3) := by decide +kernel
theorem d_B_clearColumn_73 : decode c_B_clearColumn 73 = .ok (.lastore, 1) := by decide +kernel
theorem d_B_clearColumn_74 : decode c_B_clearColumn 74 = .ok (.iinc 6 1, 3) := by decide +kernel
theorem d_B_clearColumn_77 : decode c_B_clearColumn 77 = .ok (.goto (-44), 3) := by decide +kernel
theorem d_B_clearColumn_80 : decode c_B_clearColumn 80 = .ok (.iinc 3 1, 3) := by decide +kernel
theorem d_B_clearColumn_83 : decode c_B_clearColumn 83 = .ok (.goto (-81), 3) := by decide +kernel
theorem d_B_clearColumn_86 : decode c_B_clearColumn 86 = .ok (.return_, 1) := by decide +kernel
theorem d_B_fillMember_0 : decode c_B_fillMember 0 = .ok (.aload_n 1, 1) := by decide +kernel
theorem d_B_fillMember_1 : decode c_B_fillMember 1 = .ok (.lconst 0, 1) := by decide +kernel
theorem d_B_fillMember_2 : decode c_B_fillMember 2 = .ok (.invokestatic 57, 3) := by decide +kernel
theorem d_B_fillMember_5 : decode c_B_fillMember 5 = .ok (.aload_n 1, 1) := by decide +kernel
theorem d_B_fillMember_6 : decode c_B_fillMember 6 = .ok (.iload_n 2, 1) := by decide +kernel
theorem d_B_fillMember_7 : decode c_B_fillMember 7 = .ok (.lconst 1, 1) := by decide +kernel
theorem d_B_fillMember_8 : decode c_B_fillMember 8 = .ok (.lastore, 1) := by decide +kernel
theorem d_B_fillMember_9 : decode c_B_fillMember 9 = .ok (.iconst 0, 1) := by decide +kernel
theorem d_B_fillMember_10 : decode c_B_fillMember 10 = .ok (.istore_n 3, 1) := by decide +kernel
theorem d_B_fillMember_11 : decode c_B_fillMember 11 = .ok (.iload_n 3, 1) := by decide +kernel
theorem d_B_fillMember_12 : decode c_B_fillMember 12 = .ok (.iload_n 2, 1) := by decide +kernel
theorem d_B_fillMember_13 : decode c_B_fillMember 13 = .ok (.if_icmp .ge 39, 3) := by decide +kernel
theorem d_B_fillMember_16 : decode c_B_fillMember 16 = .ok (.aload_n 0, 1) := by decide +kernel
theorem d_B_fillMember_17 : decode c_B_fillMember 17 = .ok (.getfield 16, 3) := by decide +kernel
theorem d_B_fillMember_20 : decode c_B_fillMember 20 = .ok (.iload_n 3, 1) := by decide +kernel
theorem d_B_fillMember_21 : decode c_B_fillMember 21 = .ok (.iaload, 1) := by decide +kernel
theorem d_B_fillMember_22 : decode c_B_fillMember 22 = .ok (.iconst (-1), 1) := by decide +kernel
theorem d_B_fillMember_23 : decode c_B_fillMember 23 = .ok (.if_icmp .eq 23, 3) := by decide +kernel
theorem d_B_fillMember_26 : decode c_B_fillMember 26 = .ok (.aload_n 1, 1) := by decide +kernel
theorem d_B_fillMember_27 : decode c_B_fillMember 27 = .ok (.iload_n 3, 1) := by decide +kernel
theorem d_B_fillMember_28 : decode c_B_fillMember 28 = .ok (.aload_n 0, 1) := by decide +kernel
theorem d_B_fillMember_29 : decode c_B_fillMember 29 = .ok (.getfield 11, 3) := by decide +kernel
theorem d_B_fillMember_32 : decode c_B_fillMember 32 = .ok (.aload_n 0, 1) := by decide +kernel
theorem d_B_fillMember_33 : decode c_B_fillMember 33 = .ok (.getfield 16, 3) := by decide +kernel
theorem d_B_fillMember_36 : decode c_B_fillMember 36 = .ok (.iload_n 3, 1) := by decide +kernel
theorem d_B_fillMember_37 : decode c_B_fillMember 37 = .ok (.iaload, 1) := by decide +kernel
theorem d_B_fillMember_38 : decode c_B_fillMember 38 = .ok (.aaload, 1) := by decide +kernel
theorem d_B_fillMember_39 : decode c_B_fillMember 39 = .ok (.iload_n 2, 1) := by decide +kernel
theorem d_B_fillMember_40 : decode c_B_fillMember 40 = .ok (.laload, 1) := by decide +kernel
theorem d_B_fillMember_41 : decode c_B_fillMember 41 = .ok (.lneg, 1) := by decide +kernel
theorem d_B_fillMember_42 : decode c_B_fillMember 42 = .ok (.invokestatic 54, 3) := by decide +kernel
theorem d_B_fillMember_45 : decode c_B_fillMember 45 = .ok (.lastore, 1) := by decide +kernel
theorem d_B_fillMember_46 : decode c_B_fillMember 46 = .ok (.iinc 3 1, 3) := by decide +kernel
theorem d_B_fillMember_49 : decode c_B_fillMember 49 = .ok (.goto (-38), 3) := by decide +kernel
theorem d_B_fillMember_52 : decode c_B_fillMember 52 = .ok (.return_, 1) := by decide +kernel
