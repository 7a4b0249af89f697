theorem d_M_init_0 : decode c_M_init 0 = .ok (.aload_n 0, 1) := by decide +kernel
theorem d_M_init_1 : decode c_M_init 1 = .ok (.invokespecial 1, 3) := by decide +kernel
theorem d_M_init_4 : decode c_M_init 4 = .ok (.aload_n 0, 1) := by decide +kernel
theorem d_M_init_5 : decode c_M_init 5 = .ok (.bipush 20, 2) := by decide +kernel
theorem d_M_init_7 : decode c_M_init 7 = .ok (.newarray .long, 2) := by decide +kernel
theorem d_M_init_9 : decode c_M_init 9 = .ok (.putfield 7, 3) := by decide +kernel
theorem d_M_init_12 : decode c_M_init 12 = .ok (.aload_n 0, 1) := by decide +kernel
theorem d_M_init_13 : decode c_M_init 13 = .ok (.bipush 13, 2) := by decide +kernel
theorem d_M_init_15 : decode c_M_init 15 = .ok (.newarray .long, 2) := by decide +kernel
theorem d_M_init_17 : decode c_M_init 17 = .ok (.putfield 13, 3) := by decide +kernel
theorem d_M_init_20 : decode c_M_init 20 = .ok (.aload_n 0, 1) := by decide +kernel
theorem d_M_init_21 : decode c_M_init 21 = .ok (.bipush 17, 2) := by decide +kernel
theorem d_M_init_23 : decode c_M_init 23 = .ok (.newarray .long, 2) := by decide +kernel
theorem d_M_init_25 : decode c_M_init 25 = .ok (.putfield 16, 3) := by decide +kernel
theorem d_M_init_28 : decode c_M_init 28 = .ok (.aload_n 0, 1) := by decide +kernel
theorem d_M_init_29 : decode c_M_init 29 = .ok (.bipush 20, 2) := by decide +kernel
theorem d_M_init_31 : decode c_M_init 31 = .ok (.newarray .long, 2) := by decide +kernel
theorem d_M_init_33 : decode c_M_init 33 = .ok (.putfield 19, 3) := by decide +kernel
theorem d_M_init_36 : decode c_M_init 36 = .ok (.aload_n 0, 1) := by decide +kernel
theorem d_M_init_37 : decode c_M_init 37 = .ok (.sipush 221, 3) := by decide +kernel
theorem d_M_init_40 : decode c_M_init 40 = .ok (.newarray .long, 2) := by decide +kernel
theorem d_M_init_42 : decode c_M_init 42 = .ok (.putfield 22, 3) := by decide +kernel
theorem d_M_init_45 : decode c_M_init 45 = .ok (.aload_n 0, 1) := by decide +kernel
theorem d_M_init_46 : decode c_M_init 46 = .ok (.bipush 13, 2) := by decide +kernel
theorem d_M_init_48 : decode c_M_init 48 = .ok (.newarray .int, 2) := by decide +kernel
theorem d_M_init_50 : decode c_M_init 50 = .ok (.putfield 25, 3) := by decide +kernel
theorem d_M_init_53 : decode c_M_init 53 = .ok (.aload_n 0, 1) := by decide +kernel
theorem d_M_init_54 : decode c_M_init 54 = .ok (.sipush 169, 3) := by decide +kernel
theorem d_M_init_57 : decode c_M_init 57 = .ok (.newarray .long, 2) := by decide +kernel
theorem d_M_init_59 : decode c_M_init 59 = .ok (.putfield 29, 3) := by decide +kernel
theorem d_M_init_62 : decode c_M_init 62 = .ok (.aload_n 0, 1) := by decide +kernel
theorem d_M_init_63 : decode c_M_init 63 = .ok (.bipush 31, 2) := by decide +kernel
theorem d_M_init_65 : decode c_M_init 65 = .ok (.newarray .long, 2) := by decide +kernel
theorem d_M_init_67 : decode c_M_init 67 = .ok (.putfield 32, 3) := by decide +kernel
theorem d_M_init_70 : decode c_M_init 70 = .ok (.aload_n 0, 1) := by decide +kernel
theorem d_M_init_71 : decode c_M_init 71 = .ok (.bipush 20, 2) := by decide +kernel
theorem d_M_init_73 : decode c_M_init 73 = .ok (.newarray .long, 2) := by decide +kernel
theorem d_M_init_75 : decode c_M_init 75 = .ok (.putfield 35, 3) := by decide +kernel
theorem d_M_init_78 : decode c_M_init 78 = .ok (.aload_n 0, 1) := by decide +kernel
theorem d_M_init_79 : decode c_M_init 79 = .ok (.iload_n 1, 1) := by decide +kernel
theorem d_M_init_80 : decode c_M_init 80 = .ok (.iconst 1, 1) := by decide +kernel
theorem d_M_init_81 : decode c_M_init 81 = .ok (.if_icmp .ge 7, 3) := by decide +kernel
theorem d_M_init_84 : decode c_M_init 84 = .ok (.iconst 1, 1) := by decide +kernel
theorem d_M_init_85 : decode c_M_init 85 = .ok (.goto 13, 3) := by decide +kernel
theorem d_M_init_88 : decode c_M_init 88 = .ok (.iload_n 1, 1) := by decide +kernel
theorem d_M_init_89 : decode c_M_init 89 = .ok (.iconst 3, 1) := by decide +kernel
theorem d_M_init_90 : decode c_M_init 90 = .ok (.if_icmp .le 7, 3) := by decide +kernel
theorem d_M_init_93 : decode c_M_init 93 = .ok (.iconst 3, 1) := by decide +kernel
theorem d_M_init_94 : decode c_M_init 94 = .ok (.goto 4, 3) := by decide +kernel
theorem d_M_init_97 : decode c_M_init 97 = .ok (.iload_n 1, 1) := by decide +kernel
theorem d_M_init_98 : decode c_M_init 98 = .ok (.putfield 38, 3) := by decide +kernel
theorem d_M_init_101 : decode c_M_init 101 = .ok (.return_, 1) := by decide +kernel
theorem d_M_thrown_0 : decode c_M_thrown 0 = .ok (.aload_n 0, 1) := by decide +kernel
theorem d_M_thrown_1 : decode c_M_thrown 1 = .ok (.getfield 42, 3) := by decide +kernel
theorem d_M_thrown_4 : decode c_M_thrown 4 = .ok (.ireturn, 1) := by decide +kernel
theorem d_M_raise_0 : decode c_M_raise 0 = .ok (.aload_n 0, 1) := by decide +kernel
theorem d_M_raise_1 : decode c_M_raise 1 = .ok (.iload_n 1, 1) := by decide +kernel
theorem d_M_raise_2 : decode c_M_raise 2 = .ok (.putfield 42, 3) := by decide +kernel
theorem d_M_raise_5 : decode c_M_raise 5 = .ok (.iconst 0, 1) := by decide +kernel
theorem d_M_raise_6 : decode c_M_raise 6 = .ok (.ireturn, 1) := by decide +kernel
theorem d_M_in_0 : decode c_M_in 0 = .ok (.lload_n 0, 1) := by decide +kernel
theorem d_M_in_1 : decode c_M_in 1 = .ok (.lload_n 2, 1) := by decide +kernel
theorem d_M_in_2 : decode c_M_in 2 = .ok (.lcmp, 1) := by decide +kernel
theorem d_M_in_3 : decode c_M_in 3 = .ok (.ifCond .lt 14, 3) := by decide +kernel
theorem d_M_in_6 : decode c_M_in 6 = .ok (.lload_n 0, 1) := by decide +kernel
theorem d_M_in_7 : decode c_M_in 7 = .ok (.lload 4, 2) := by decide +kernel
theorem d_M_in_9 : decode c_M_in 9 = .ok (.lcmp, 1) := by decide +kernel
theorem d_M_in_10 : decode c_M_in 10 = .ok (.ifCond .gt 7, 3) := by decide +kernel
theorem d_M_in_13 : decode c_M_in 13 = .ok (.iconst 1, 1) := by decide +kernel
theorem d_M_in_14 : decode c_M_in 14 = .ok (.goto 4, 3) := by decide +kernel
theorem d_M_in_17 : decode c_M_in 17 = .ok (.iconst 0, 1) := by decide +kernel
theorem d_M_in_18 : decode c_M_in 18 = .ok (.ireturn, 1) := by decide +kernel
theorem d_M_modulo_0 : decode c_M_modulo 0 = .ok (.lload_n 0, 1) := by decide +kernel
theorem d_M_modulo_1 : decode c_M_modulo 1 = .ok (.ldc2_w 45, 3) := by decide +kernel
theorem d_M_modulo_4 : decode c_M_modulo 4 = .ok (.lrem, 1) := by decide +kernel
theorem d_M_modulo_5 : decode c_M_modulo 5 = .ok (.lstore_n 2, 1) := by decide +kernel
theorem d_M_modulo_6 : decode c_M_modulo 6 = .ok (.lload_n 2, 1) := by decide +kernel
theorem d_M_modulo_7 : decode c_M_modulo 7 = .ok (.lconst 0, 1) := by decide +kernel
theorem d_M_modulo_8 : decode c_M_modulo 8 = .ok (.lcmp, 1) := by decide +kernel
theorem d_M_modulo_9 : decode c_M_modulo 9 = .ok (.ifCond .ge 11, 3) := by decide +kernel
theorem d_M_modulo_12 : decode c_M_modulo 12 = .ok (.lload_n 2, 1) := by decide +kernel
theorem d_M_modulo_13 : decode c_M_modulo 13 = .ok (.ldc2_w 45, 3) := by decide +kernel
theorem d_M_modulo_16 : decode c_M_modulo 16 = .ok (.ladd, 1) := by decide +kernel
theorem d_M_modulo_17 : decode c_M_modulo 17 = .ok (.goto 4, 3) := by decide +kernel
theorem d_M_modulo_20 : decode c_M_modulo 20 = .ok (.lload_n 2, 1) := by decide +kernel
theorem d_M_modulo_21 : decode c_M_modulo 21 = .ok (.lreturn, 1) := by decide +kernel
theorem d_M_inverse_0 : decode c_M_inverse 0 = .ok (.lconst 1, 1) := by decide +kernel
theorem d_M_inverse_1 : decode c_M_inverse 1 = .ok (.lstore_n 2, 1) := by decide +kernel
theorem d_M_inverse_2 : decode c_M_inverse 2 = .ok (.lload_n 0, 1) := by decide +kernel
theorem d_M_inverse_3 : decode c_M_inverse 3 = .ok (.lstore 4, 2) := by decide +kernel
theorem d_M_inverse_5 : decode c_M_inverse 5 = .ok (.sipush 32001, 3) := by decide +kernel
theorem d_M_inverse_8 : decode c_M_inverse 8 = .ok (.istore 6, 2) := by decide +kernel
theorem d_M_inverse_10 : decode c_M_inverse 10 = .ok (.iload 6, 2) := by decide +kernel
theorem d_M_inverse_12 : decode c_M_inverse 12 = .ok (.ifCond .le 44, 3) := by decide +kernel
theorem d_M_inverse_15 : decode c_M_inverse 15 = .ok (.iload 6, 2) := by decide +kernel
theorem d_M_inverse_17 : decode c_M_inverse 17 = .ok (.iconst 2, 1) := by decide +kernel
theorem d_M_inverse_18 : decode c_M_inverse 18 = .ok (.irem, 1) := by decide +kernel
theorem d_M_inverse_19 : decode c_M_inverse 19 = .ok (.iconst 1, 1) := by decide +kernel
theorem d_M_inverse_20 : decode c_M_inverse 20 = .ok (.if_icmp .ne 14, 3) := by decide +kernel
theorem d_M_inverse_23 : decode c_M_inverse 23 = .ok (.lload_n 2, 1) := by decide +kernel
theorem d_M_inverse_24 : decode c_M_inverse 24 = .ok (.lload 4, 2) := by decide +kernel
theorem d_M_inverse_26 : decode c_M_inverse 26 = .ok (.lmul, 1) := by decide +kernel
theorem d_M_inverse_27 : decode c_M_inverse 27 = .ok (.ldc2_w 45, 3) := by decide +kernel
theorem d_M_inverse_30 : decode c_M_inverse 30 = .ok (.lrem, 1) := by decide +kernel
theorem d_M_inverse_31 : decode c_M_inverse 31 = .ok (.goto 4, 3) := by decide +kernel
theorem d_M_inverse_34 : decode c_M_inverse 34 = .ok (.lload_n 2, 1) := by decide +kernel
theorem d_M_inverse_35 : decode c_M_inverse 35 = .ok (.lstore_n 2, 1) := by decide +kernel
theorem d_M_inverse_36 : decode c_M_inverse 36 = .ok (.lload 4, 2) := by decide +kernel
theorem d_M_inverse_38 : decode c_M_inverse 38 = .ok (.lload 4, 2) := by decide +kernel
theorem d_M_inverse_40 : decode c_M_inverse 40 = .ok (.lmul, 1) := by decide +kernel
theorem d_M_inverse_41 : decode c_M_inverse 41 = .ok (.ldc2_w 45, 3) := by decide +kernel
theorem d_M_inverse_44 : decode c_M_inverse 44 = .ok (.lrem, 1) := by decide +kernel
theorem d_M_inverse_45 : decode c_M_inverse 45 = .ok (.lstore 4, 2) := by decide +kernel
theorem d_M_inverse_47 : decode c_M_inverse 47 = .ok (.iload 6, 2) := by decide +kernel
theorem d_M_inverse_49 : decode c_M_inverse 49 = .ok (.iconst 2, 1) := by decide +kernel
theorem d_M_inverse_50 : decode c_M_inverse 50 = .ok (.idiv, 1) := by decide +kernel
theorem d_M_inverse_51 : decode c_M_inverse 51 = .ok (.istore 6, 2) := by decide +kernel
theorem d_M_inverse_53 : decode c_M_inverse 53 = .ok (.goto (-43), 3) := by decide +kernel
theorem d_M_inverse_56 : decode c_M_inverse 56 = .ok (.lload_n 2, 1) := by decide +kernel
theorem d_M_inverse_57 : decode c_M_inverse 57 = .ok (.lreturn, 1) := by decide +kernel
theorem d_M_falling_0 : decode c_M_falling 0 = .ok (.lconst 1, 1) := by decide +kernel
theorem d_M_falling_1 : decode c_M_falling 1 = .ok (.lstore_n 3, 1) := by decide +kernel
theorem d_M_falling_2 : decode c_M_falling 2 = .ok (.iconst 0, 1) := by decide +kernel
theorem d_M_falling_3 : decode c_M_falling 3 = .ok (.istore 5, 2) := by decide +kernel
theorem d_M_falling_5 : decode c_M_falling 5 = .ok (.iload 5, 2) := by decide +kernel
theorem d_M_falling_7 : decode c_M_falling 7 = .ok (.iload_n 2, 1) := by decide +kernel
theorem d_M_falling_8 : decode c_M_falling 8 = .ok (.if_icmp .ge 23, 3) := by decide +kernel
theorem d_M_falling_11 : decode c_M_falling 11 = .ok (.lload_n 3, 1) := by decide +kernel
theorem d_M_falling_12 : decode c_M_falling 12 = .ok (.lload_n 0, 1) := by decide +kernel
theorem d_M_falling_13 : decode c_M_falling 13 = .ok (.iload 5, 2) := by decide +kernel
theorem d_M_falling_15 : decode c_M_falling 15 = .ok (.i2l, 1) := by decide +kernel
theorem d_M_falling_16 : decode c_M_falling 16 = .ok (.lsub, 1) := by decide +kernel
theorem d_M_falling_17 : decode c_M_falling 17 = .ok (.invokestatic 47, 3) := by decide +kernel
theorem d_M_falling_20 : decode c_M_falling 20 = .ok (.lmul, 1) := by decide +kernel
theorem d_M_falling_21 : decode c_M_falling 21 = .ok (.invokestatic 47, 3) := by decide +kernel
theorem d_M_falling_24 : decode c_M_falling 24 = .ok (.lstore_n 3, 1) := by decide +kernel
theorem d_M_falling_25 : decode c_M_falling 25 = .ok (.iinc 5 1, 3) := by decide +kernel
theorem d_M_falling_28 : decode c_M_falling 28 = .ok (.goto (-23), 3) := by decide +kernel
theorem d_M_falling_31 : decode c_M_falling 31 = .ok (.lload_n 3, 1) := by decide +kernel
theorem d_M_falling_32 : decode c_M_falling 32 = .ok (.lreturn, 1) := by decide +kernel
theorem d_M_isThere_0 : decode c_M_isThere 0 = .ok (.aload_n 0, 1) := by decide +kernel
theorem d_M_isThere_1 : decode c_M_isThere 1 = .ok (.iload_n 1, 1) := by decide +kernel
theorem d_M_isThere_2 : decode c_M_isThere 2 = .ok (.i2l, 1) := by decide +kernel
theorem d_M_isThere_3 : decode c_M_isThere 3 = .ok (.lconst 0, 1) := by decide +kernel
theorem d_M_isThere_4 : decode c_M_isThere 4 = .ok (.aload_n 0, 1) := by decide +kernel
theorem d_M_isThere_5 : decode c_M_isThere 5 = .ok (.getfield 38, 3) := by decide +kernel
theorem d_M_isThere_8 : decode c_M_isThere 8 = .ok (.i2l, 1) := by decide +kernel
theorem d_M_isThere_9 : decode c_M_isThere 9 = .ok (.invokestatic 51, 3) := by decide +kernel
theorem d_M_isThere_12 : decode c_M_isThere 12 = .ok (.ifCond .eq 19, 3) := by decide +kernel
theorem d_M_isThere_15 : decode c_M_isThere 15 = .ok (.iload_n 2, 1) := by decide +kernel
theorem d_M_isThere_16 : decode c_M_isThere 16 = .ok (.i2l, 1) := by decide +kernel
theorem d_M_isThere_17 : decode c_M_isThere 17 = .ok (.lconst 0, 1) := by decide +kernel
theorem d_M_isThere_18 : decode c_M_isThere 18 = .ok (.ldc2_w 55, 3) := by decide +kernel
theorem d_M_isThere_21 : decode c_M_isThere 21 = .ok (.invokestatic 51, 3) := by decide +kernel
theorem d_M_isThere_24 : decode c_M_isThere 24 = .ok (.ifCond .eq 7, 3) := by decide +kernel
theorem d_M_isThere_27 : decode c_M_isThere 27 = .ok (.iconst 0, 1) := by decide +kernel
theorem d_M_isThere_28 : decode c_M_isThere 28 = .ok (.goto 4, 3) := by decide +kernel
theorem d_M_isThere_31 : decode c_M_isThere 31 = .ok (.iconst 1, 1) := by decide +kernel
theorem d_M_isThere_32 : decode c_M_isThere 32 = .ok (.putfield 42, 3) := by decide +kernel
theorem d_M_isThere_35 : decode c_M_isThere 35 = .ok (.aload_n 0, 1) := by decide +kernel
theorem d_M_isThere_36 : decode c_M_isThere 36 = .ok (.getfield 42, 3) := by decide +kernel
theorem d_M_isThere_39 : decode c_M_isThere 39 = .ok (.ifCond .ne 7, 3) := by decide +kernel
theorem d_M_isThere_42 : decode c_M_isThere 42 = .ok (.iconst 1, 1) := by decide +kernel
theorem d_M_isThere_43 : decode c_M_isThere 43 = .ok (.goto 4, 3) := by decide +kernel
theorem d_M_isThere_46 : decode c_M_isThere 46 = .ok (.iconst 0, 1) := by decide +kernel
theorem d_M_isThere_47 : decode c_M_isThere 47 = .ok (.ireturn, 1) := by decide +kernel
theorem d_M_put_0 : decode c_M_put 0 = .ok (.aload_n 0, 1) := by decide +kernel
theorem d_M_put_1 : decode c_M_put 1 = .ok (.iload_n 1, 1) := by decide +kernel
theorem d_M_put_2 : decode c_M_put 2 = .ok (.iload_n 2, 1) := by decide +kernel
theorem d_M_put_3 : decode c_M_put 3 = .ok (.invokevirtual 57, 3) := by decide +kernel
theorem d_M_put_6 : decode c_M_put 6 = .ok (.ifCond .ne 5, 3) := by decide +kernel
theorem d_M_put_9 : decode c_M_put 9 = .ok (.iconst 0, 1) := by decide +kernel
theorem d_M_put_10 : decode c_M_put 10 = .ok (.ireturn, 1) := by decide +kernel
theorem d_M_put_11 : decode c_M_put 11 = .ok (.aload_n 0, 1) := by decide +kernel
theorem d_M_put_12 : decode c_M_put 12 = .ok (.getfield 7, 3) := by decide +kernel
theorem d_M_put_15 : decode c_M_put 15 = .ok (.iconst 5, 1) := by decide +kernel
theorem d_M_put_16 : decode c_M_put 16 = .ok (.iload_n 1, 1) := by decide +kernel
theorem d_M_put_17 : decode c_M_put 17 = .ok (.imul, 1) := by decide +kernel
theorem d_M_put_18 : decode c_M_put 18 = .ok (.iload_n 2, 1) := by decide +kernel
theorem d_M_put_19 : decode c_M_put 19 = .ok (.iadd, 1) := by decide +kernel
theorem d_M_put_20 : decode c_M_put 20 = .ok (.laload, 1) := by decide +kernel
theorem d_M_put_21 : decode c_M_put 21 = .ok (.lload_n 3, 1) := by decide +kernel
theorem d_M_put_22 : decode c_M_put 22 = .ok (.invokestatic 47, 3) := by decide +kernel
theorem d_M_put_25 : decode c_M_put 25 = .ok (.lcmp, 1) := by decide +kernel
theorem d_M_put_26 : decode c_M_put 26 = .ok (.ifCond .eq 7, 3) := by decide +kernel
theorem d_M_put_29 : decode c_M_put 29 = .ok (.iconst 1, 1) := by decide +kernel
theorem d_M_put_30 : decode c_M_put 30 = .ok (.goto 4, 3) := by decide +kernel
theorem d_M_put_33 : decode c_M_put 33 = .ok (.iconst 0, 1) := by decide +kernel
theorem d_M_put_34 : decode c_M_put 34 = .ok (.istore 5, 2) := by decide +kernel
theorem d_M_put_36 : decode c_M_put 36 = .ok (.aload_n 0, 1) := by decide +kernel
theorem d_M_put_37 : decode c_M_put 37 = .ok (.getfield 7, 3) := by decide +kernel
theorem d_M_put_40 : decode c_M_put 40 = .ok (.iconst 5, 1) := by decide +kernel
theorem d_M_put_41 : decode c_M_put 41 = .ok (.iload_n 1, 1) := by decide +kernel
theorem d_M_put_42 : decode c_M_put 42 = .ok (.imul, 1) := by decide +kernel
theorem d_M_put_43 : decode c_M_put 43 = .ok (.iload_n 2, 1) := by decide +kernel
theorem d_M_put_44 : decode c_M_put 44 = .ok (.iadd, 1) := by decide +kernel
theorem d_M_put_45 : decode c_M_put 45 = .ok (.lload_n 3, 1) := by decide +kernel
theorem d_M_put_46 : decode c_M_put 46 = .ok (.invokestatic 47, 3) := by decide +kernel
theorem d_M_put_49 : decode c_M_put 49 = .ok (.lastore, 1) := by decide +kernel
theorem d_M_put_50 : decode c_M_put 50 = .ok (.iload 5, 2) := by decide +kernel
theorem d_M_put_52 : decode c_M_put 52 = .ok (.ireturn, 1) := by decide +kernel
theorem d_M_at_0 : decode c_M_at 0 = .ok (.aload_n 0, 1) := by decide +kernel
theorem d_M_at_1 : decode c_M_at 1 = .ok (.iload_n 1, 1) := by decide +kernel
theorem d_M_at_2 : decode c_M_at 2 = .ok (.iload_n 2, 1) := by decide +kernel
theorem d_M_at_3 : decode c_M_at 3 = .ok (.invokevirtual 57, 3) := by decide +kernel
theorem d_M_at_6 : decode c_M_at 6 = .ok (.ifCond .eq 17, 3) := by decide +kernel
theorem d_M_at_9 : decode c_M_at 9 = .ok (.aload_n 0, 1) := by decide +kernel
theorem d_M_at_10 : decode c_M_at 10 = .ok (.getfield 7, 3) := by decide +kernel
theorem d_M_at_13 : decode c_M_at 13 = .ok (.iconst 5, 1) := by decide +kernel
theorem d_M_at_14 : decode c_M_at 14 = .ok (.iload_n 1, 1) := by decide +kernel
theorem d_M_at_15 : decode c_M_at 15 = .ok (.imul, 1) := by decide +kernel
theorem d_M_at_16 : decode c_M_at 16 = .ok (.iload_n 2, 1) := by decide +kernel
theorem d_M_at_17 : decode c_M_at 17 = .ok (.iadd, 1) := by decide +kernel
theorem d_M_at_18 : decode c_M_at 18 = .ok (.laload, 1) := by decide +kernel
theorem d_M_at_19 : decode c_M_at 19 = .ok (.l2i, 1) := by decide +kernel
theorem d_M_at_20 : decode c_M_at 20 = .ok (.goto 4, 3) := by decide +kernel
theorem d_M_at_23 : decode c_M_at 23 = .ok (.iconst 0, 1) := by decide +kernel
theorem d_M_at_24 : decode c_M_at 24 = .ok (.ireturn, 1) := by decide +kernel
theorem d_M_clear_0 : decode c_M_clear 0 = .ok (.aload_n 0, 1) := by decide +kernel
theorem d_M_clear_1 : decode c_M_clear 1 = .ok (.iconst 0, 1) := by decide +kernel
theorem d_M_clear_2 : decode c_M_clear 2 = .ok (.putfield 42, 3) := by decide +kernel
theorem d_M_clear_5 : decode c_M_clear 5 = .ok (.iconst 0, 1) := by decide +kernel
theorem d_M_clear_6 : decode c_M_clear 6 = .ok (.istore_n 1, 1) := by decide +kernel
theorem d_M_clear_7 : decode c_M_clear 7 = .ok (.iload_n 1, 1) := by decide +kernel
theorem d_M_clear_8 : decode c_M_clear 8 = .ok (.bipush 20, 2) := by decide +kernel
theorem d_M_clear_10 : decode c_M_clear 10 = .ok (.if_icmp .ge 16, 3) := by decide +kernel
theorem d_M_clear_13 : decode c_M_clear 13 = .ok (.aload_n 0, 1) := by decide +kernel
theorem d_M_clear_14 : decode c_M_clear 14 = .ok (.getfield 7, 3) := by decide +kernel
theorem d_M_clear_17 : decode c_M_clear 17 = .ok (.iload_n 1, 1) := by decide +kernel
theorem d_M_clear_18 : decode c_M_clear 18 = .ok (.lconst 0, 1) := by decide +kernel
theorem d_M_clear_19 : decode c_M_clear 19 = .ok (.lastore, 1) := by decide +kernel
theorem d_M_clear_20 : decode c_M_clear 20 = .ok (.iinc 1 1, 3) := by decide +kernel
theorem d_M_clear_23 : decode c_M_clear 23 = .ok (.goto (-16), 3) := by decide +kernel
theorem d_M_clear_26 : decode c_M_clear 26 = .ok (.iconst 0, 1) := by decide +kernel
theorem d_M_clear_27 : decode c_M_clear 27 = .ok (.istore_n 1, 1) := by decide +kernel
theorem d_M_clear_28 : decode c_M_clear 28 = .ok (.iload_n 1, 1) := by decide +kernel
theorem d_M_clear_29 : decode c_M_clear 29 = .ok (.bipush 12, 2) := by decide +kernel
theorem d_M_clear_31 : decode c_M_clear 31 = .ok (.if_icmp .gt 16, 3) := by decide +kernel
theorem d_M_clear_34 : decode c_M_clear 34 = .ok (.aload_n 0, 1) := by decide +kernel
theorem d_M_clear_35 : decode c_M_clear 35 = .ok (.getfield 13, 3) := by decide +kernel
theorem d_M_clear_38 : decode c_M_clear 38 = .ok (.iload_n 1, 1) := by decide +kernel
theorem d_M_clear_39 : decode c_M_clear 39 = .ok (.lconst 0, 1) := by decide +kernel
theorem d_M_clear_40 : decode c_M_clear 40 = .ok (.lastore, 1) := by decide +kernel
theorem d_M_clear_41 : decode c_M_clear 41 = .ok (.iinc 1 1, 3) := by decide +kernel
theorem d_M_clear_44 : decode c_M_clear 44 = .ok (.goto (-16), 3) := by decide +kernel
theorem d_M_clear_47 : decode c_M_clear 47 = .ok (.return_, 1) := by decide +kernel
theorem d_M_moveTo_0 : decode c_M_moveTo 0 = .ok (.iconst 0, 1) := by decide +kernel
theorem d_M_moveTo_1 : decode c_M_moveTo 1 = .ok (.istore_n 3, 1) := by decide +kernel
theorem d_M_moveTo_2 : decode c_M_moveTo 2 = .ok (.iload_n 3, 1) := by decide +kernel
theorem d_M_moveTo_3 : decode c_M_moveTo 3 = .ok (.bipush 20, 2) := by decide +kernel
theorem d_M_moveTo_5 : decode c_M_moveTo 5 = .ok (.if_icmp .ge 21, 3) := by decide +kernel
theorem d_M_moveTo_8 : decode c_M_moveTo 8 = .ok (.aload_n 0, 1) := by decide +kernel
theorem d_M_moveTo_9 : decode c_M_moveTo 9 = .ok (.getfield 19, 3) := by decide +kernel
theorem d_M_moveTo_12 : decode c_M_moveTo 12 = .ok (.iload_n 3, 1) := by decide +kernel
theorem d_M_moveTo_13 : decode c_M_moveTo 13 = .ok (.aload_n 0, 1) := by decide +kernel
theorem d_M_moveTo_14 : decode c_M_moveTo 14 = .ok (.getfield 7, 3) := by decide +kernel
theorem d_M_moveTo_17 : decode c_M_moveTo 17 = .ok (.iload_n 3, 1) := by decide +kernel
theorem d_M_moveTo_18 : decode c_M_moveTo 18 = .ok (.laload, 1) := by decide +kernel
theorem d_M_moveTo_19 : decode c_M_moveTo 19 = .ok (.lastore, 1) := by decide +kernel
theorem d_M_moveTo_20 : decode c_M_moveTo 20 = .ok (.iinc 3 1, 3) := by decide +kernel
theorem d_M_moveTo_23 : decode c_M_moveTo 23 = .ok (.goto (-21), 3) := by decide +kernel
theorem d_M_moveTo_26 : decode c_M_moveTo 26 = .ok (.iconst 0, 1) := by decide +kernel
theorem d_M_moveTo_27 : decode c_M_moveTo 27 = .ok (.istore_n 3, 1) := by decide +kernel
theorem d_M_moveTo_28 : decode c_M_moveTo 28 = .ok (.iload_n 3, 1) := by decide +kernel
theorem d_M_moveTo_29 : decode c_M_moveTo 29 = .ok (.bipush 20, 2) := by decide +kernel
theorem d_M_moveTo_31 : decode c_M_moveTo 31 = .ok (.if_icmp .ge 76, 3) := by decide +kernel
theorem d_M_moveTo_34 : decode c_M_moveTo 34 = .ok (.iconst 0, 1) := by decide +kernel
theorem d_M_moveTo_35 : decode c_M_moveTo 35 = .ok (.istore 4, 2) := by decide +kernel
theorem d_M_moveTo_37 : decode c_M_moveTo 37 = .ok (.iload 4, 2) := by decide +kernel
theorem d_M_moveTo_39 : decode c_M_moveTo 39 = .ok (.iconst 4, 1) := by decide +kernel
theorem d_M_moveTo_40 : decode c_M_moveTo 40 = .ok (.if_icmp .ge 61, 3) := by decide +kernel
theorem d_M_moveTo_43 : decode c_M_moveTo 43 = .ok (.iconst 3, 1) := by decide +kernel
theorem d_M_moveTo_44 : decode c_M_moveTo 44 = .ok (.istore 5, 2) := by decide +kernel
theorem d_M_moveTo_46 : decode c_M_moveTo 46 = .ok (.iload 5, 2) := by decide +kernel
theorem d_M_moveTo_48 : decode c_M_moveTo 48 = .ok (.iload 4, 2) := by decide +kernel
theorem d_M_moveTo_50 : decode c_M_moveTo 50 = .ok (.if_icmp .lt 45, 3) := by decide +kernel
theorem d_M_moveTo_53 : decode c_M_moveTo 53 = .ok (.aload_n 0, 1) := by decide +kernel
theorem d_M_moveTo_54 : decode c_M_moveTo 54 = .ok (.getfield 19, 3) := by decide +kernel
theorem d_M_moveTo_57 : decode c_M_moveTo 57 = .ok (.iload_n 3, 1) := by decide +kernel
theorem d_M_moveTo_58 : decode c_M_moveTo 58 = .ok (.iload 5, 2) := by decide +kernel
theorem d_M_moveTo_60 : decode c_M_moveTo 60 = .ok (.iadd, 1) := by decide +kernel
theorem d_M_moveTo_61 : decode c_M_moveTo 61 = .ok (.aload_n 0, 1) := by decide +kernel
theorem d_M_moveTo_62 : decode c_M_moveTo 62 = .ok (.getfield 19, 3) := by decide +kernel
theorem d_M_moveTo_65 : decode c_M_moveTo 65 = .ok (.iload_n 3, 1) := by decide +kernel
theorem d_M_moveTo_66 : decode c_M_moveTo 66 = .ok (.iload 5, 2) := by decide +kernel
theorem d_M_moveTo_68 : decode c_M_moveTo 68 = .ok (.iadd, 1) := by decide +kernel
theorem d_M_moveTo_69 : decode c_M_moveTo 69 = .ok (.laload, 1) := by decide +kernel
theorem d_M_moveTo_70 : decode c_M_moveTo 70 = .ok (.lload_n 1, 1) := by decide +kernel
theorem d_M_moveTo_71 : decode c_M_moveTo 71 = .ok (.aload_n 0, 1) := by decide +kernel
theorem d_M_moveTo_72 : decode c_M_moveTo 72 = .ok (.getfield 19, 3) := by decide +kernel
theorem d_M_moveTo_75 : decode c_M_moveTo 75 = .ok (.iload_n 3, 1) := by decide +kernel
theorem d_M_moveTo_76 : decode c_M_moveTo 76 = .ok (.iload 5, 2) := by decide +kernel
theorem d_M_moveTo_78 : decode c_M_moveTo 78 = .ok (.iadd, 1) := by decide +kernel
theorem d_M_moveTo_79 : decode c_M_moveTo 79 = .ok (.iconst 1, 1) := by decide +kernel
theorem d_M_moveTo_80 : decode c_M_moveTo 80 = .ok (.iadd, 1) := by decide +kernel
theorem d_M_moveTo_81 : decode c_M_moveTo 81 = .ok (.laload, 1) := by decide +kernel
theorem d_M_moveTo_82 : decode c_M_moveTo 82 = .ok (.lmul, 1) := by decide +kernel
theorem d_M_moveTo_83 : decode c_M_moveTo 83 = .ok (.ladd, 1) := by decide +kernel
theorem d_M_moveTo_84 : decode c_M_moveTo 84 = .ok (.ldc2_w 45, 3) := by decide +kernel
theorem d_M_moveTo_87 : decode c_M_moveTo 87 = .ok (.lrem, 1) := by decide +kernel
theorem d_M_moveTo_88 : decode c_M_moveTo 88 = .ok (.lastore, 1) := by decide +kernel
theorem d_M_moveTo_89 : decode c_M_moveTo 89 = .ok (.iinc 5 (-1), 3) := by decide +kernel
theorem d_M_moveTo_92 : decode c_M_moveTo 92 = .ok (.goto (-46), 3) := by decide +kernel
theorem d_M_moveTo_95 : decode c_M_moveTo 95 = .ok (.iinc 4 1, 3) := by decide +kernel
theorem d_M_moveTo_98 : decode c_M_moveTo 98 = .ok (.goto (-61), 3) := by decide +kernel
theorem d_M_moveTo_101 : decode c_M_moveTo 101 = .ok (.iinc 3 5, 3) := by decide +kernel
theorem d_M_moveTo_104 : decode c_M_moveTo 104 = .ok (.goto (-76), 3) := by decide +kernel
theorem d_M_moveTo_107 : decode c_M_moveTo 107 = .ok (.return_, 1) := by decide +kernel
theorem d_M_move_0 : decode c_M_move 0 = .ok (.aload_n 0, 1) := by decide +kernel
theorem d_M_move_1 : decode c_M_move 1 = .ok (.iconst 0, 1) := by decide +kernel
theorem d_M_move_2 : decode c_M_move 2 = .ok (.putfield 42, 3) := by decide +kernel
theorem d_M_move_5 : decode c_M_move 5 = .ok (.aload_n 0, 1) := by decide +kernel
theorem d_M_move_6 : decode c_M_move 6 = .ok (.lload_n 1, 1) := by decide +kernel
theorem d_M_move_7 : decode c_M_move 7 = .ok (.invokestatic 47, 3) := by decide +kernel
theorem d_M_move_10 : decode c_M_move 10 = .ok (.invokevirtual 61, 3) := by decide +kernel
theorem d_M_move_13 : decode c_M_move 13 = .ok (.iconst 0, 1) := by decide +kernel
theorem d_M_move_14 : decode c_M_move 14 = .ok (.istore_n 3, 1) := by decide +kernel
theorem d_M_move_15 : decode c_M_move 15 = .ok (.iload_n 3, 1) := by decide +kernel
theorem d_M_move_16 : decode c_M_move 16 = .ok (.bipush 20, 2) := by decide +kernel
theorem d_M_move_18 : decode c_M_move 18 = .ok (.if_icmp .ge 21, 3) := by decide +kernel
theorem d_M_move_21 : decode c_M_move 21 = .ok (.aload_n 0, 1) := by decide +kernel
theorem d_M_move_22 : decode c_M_move 22 = .ok (.getfield 7, 3) := by decide +kernel
theorem d_M_move_25 : decode c_M_move 25 = .ok (.iload_n 3, 1) := by decide +kernel
theorem d_M_move_26 : decode c_M_move 26 = .ok (.aload_n 0, 1) := by decide +kernel
theorem d_M_move_27 : decode c_M_move 27 = .ok (.getfield 19, 3) := by decide +kernel
theorem d_M_move_30 : decode c_M_move 30 = .ok (.iload_n 3, 1) := by decide +kernel
theorem d_M_move_31 : decode c_M_move 31 = .ok (.laload, 1) := by decide +kernel
theorem d_M_move_32 : decode c_M_move 32 = .ok (.lastore, 1) := by decide +kernel
theorem d_M_move_33 : decode c_M_move 33 = .ok (.iinc 3 1, 3) := by decide +kernel
theorem d_M_move_36 : decode c_M_move 36 = .ok (.goto (-21), 3) := by decide +kernel
theorem d_M_move_39 : decode c_M_move 39 = .ok (.return_, 1) := by decide +kernel
theorem d_M_turn_0 : decode c_M_turn 0 = .ok (.aload_n 0, 1) := by decide +kernel
theorem d_M_turn_1 : decode c_M_turn 1 = .ok (.iconst 0, 1) := by decide +kernel
theorem d_M_turn_2 : decode c_M_turn 2 = .ok (.putfield 42, 3) := by decide +kernel
theorem d_M_turn_5 : decode c_M_turn 5 = .ok (.iconst 0, 1) := by decide +kernel
theorem d_M_turn_6 : decode c_M_turn 6 = .ok (.istore_n 1, 1) := by decide +kernel
theorem d_M_turn_7 : decode c_M_turn 7 = .ok (.iload_n 1, 1) := by decide +kernel
theorem d_M_turn_8 : decode c_M_turn 8 = .ok (.bipush 20, 2) := by decide +kernel
theorem d_M_turn_10 : decode c_M_turn 10 = .ok (.if_icmp .ge 16, 3) := by decide +kernel
theorem d_M_turn_13 : decode c_M_turn 13 = .ok (.aload_n 0, 1) := by decide +kernel
theorem d_M_turn_14 : decode c_M_turn 14 = .ok (.getfield 35, 3) := by decide +kernel
theorem d_M_turn_17 : decode c_M_turn 17 = .ok (.iload_n 1, 1) := by decide +kernel
theorem d_M_turn_18 : decode c_M_turn 18 = .ok (.lconst 0, 1) := by decide +kernel
theorem d_M_turn_19 : decode c_M_turn 19 = .ok (.lastore, 1) := by decide +kernel
theorem d_M_turn_20 : decode c_M_turn 20 = .ok (.iinc 1 1, 3) := by decide +kernel
theorem d_M_turn_23 : decode c_M_turn 23 = .ok (.goto (-16), 3) := by decide +kernel
theorem d_M_turn_26 : decode c_M_turn 26 = .ok (.iconst 0, 1) := by decide +kernel
theorem d_M_turn_27 : decode c_M_turn 27 = .ok (.istore_n 1, 1) := by decide +kernel
theorem d_M_turn_28 : decode c_M_turn 28 = .ok (.iload_n 1, 1) := by decide +kernel
theorem d_M_turn_29 : decode c_M_turn 29 = .ok (.aload_n 0, 1) := by decide +kernel
theorem d_M_turn_30 : decode c_M_turn 30 = .ok (.getfield 38, 3) := by decide +kernel
theorem d_M_turn_33 : decode c_M_turn 33 = .ok (.if_icmp .gt 136, 3) := by decide +kernel
theorem d_M_turn_36 : decode c_M_turn 36 = .ok (.iload_n 1, 1) := by decide +kernel
theorem d_M_turn_37 : decode c_M_turn 37 = .ok (.iconst 2, 1) := by decide +kernel
theorem d_M_turn_38 : decode c_M_turn 38 = .ok (.irem, 1) := by decide +kernel
theorem d_M_turn_39 : decode c_M_turn 39 = .ok (.ifCond .ne 7, 3) := by decide +kernel
theorem d_M_turn_42 : decode c_M_turn 42 = .ok (.lconst 1, 1) := by decide +kernel
theorem d_M_turn_43 : decode c_M_turn 43 = .ok (.goto 6, 3) := by decide +kernel
theorem d_M_turn_46 : decode c_M_turn 46 = .ok (.ldc2_w 65, 3) := by decide +kernel
theorem d_M_turn_49 : decode c_M_turn 49 = .ok (.lstore_n 2, 1) := by decide +kernel
theorem d_M_turn_50 : decode c_M_turn 50 = .ok (.iconst 0, 1) := by decide +kernel
theorem d_M_turn_51 : decode c_M_turn 51 = .ok (.istore 4, 2) := by decide +kernel
theorem d_M_turn_53 : decode c_M_turn 53 = .ok (.iload 4, 2) := by decide +kernel
theorem d_M_turn_55 : decode c_M_turn 55 = .ok (.iload_n 1, 1) := by decide +kernel
theorem d_M_turn_56 : decode c_M_turn 56 = .ok (.if_icmp .gt 107, 3) := by decide +kernel
theorem d_M_turn_59 : decode c_M_turn 59 = .ok (.iload_n 1, 1) := by decide +kernel
theorem d_M_turn_60 : decode c_M_turn 60 = .ok (.iload 4, 2) := by decide +kernel
theorem d_M_turn_62 : decode c_M_turn 62 = .ok (.isub, 1) := by decide +kernel
theorem d_M_turn_63 : decode c_M_turn 63 = .ok (.istore 5, 2) := by decide +kernel
theorem d_M_turn_65 : decode c_M_turn 65 = .ok (.iload 5, 2) := by decide +kernel
theorem d_M_turn_67 : decode c_M_turn 67 = .ok (.iconst 5, 1) := by decide +kernel
theorem d_M_turn_68 : decode c_M_turn 68 = .ok (.if_icmp .ge 75, 3) := by decide +kernel
theorem d_M_turn_71 : decode c_M_turn 71 = .ok (.aload_n 0, 1) := by decide +kernel
theorem d_M_turn_72 : decode c_M_turn 72 = .ok (.getfield 35, 3) := by decide +kernel
theorem d_M_turn_75 : decode c_M_turn 75 = .ok (.iconst 5, 1) := by decide +kernel
theorem d_M_turn_76 : decode c_M_turn 76 = .ok (.iload 4, 2) := by decide +kernel
theorem d_M_turn_78 : decode c_M_turn 78 = .ok (.imul, 1) := by decide +kernel
theorem d_M_turn_79 : decode c_M_turn 79 = .ok (.iload 5, 2) := by decide +kernel
theorem d_M_turn_81 : decode c_M_turn 81 = .ok (.iadd, 1) := by decide +kernel
theorem d_M_turn_82 : decode c_M_turn 82 = .ok (.iload_n 1, 1) := by decide +kernel
theorem d_M_turn_83 : decode c_M_turn 83 = .ok (.isub, 1) := by decide +kernel
theorem d_M_turn_84 : decode c_M_turn 84 = .ok (.iload 4, 2) := by decide +kernel
theorem d_M_turn_86 : decode c_M_turn 86 = .ok (.iadd, 1) := by decide +kernel
theorem d_M_turn_87 : decode c_M_turn 87 = .ok (.aload_n 0, 1) := by decide +kernel
theorem d_M_turn_88 : decode c_M_turn 88 = .ok (.getfield 35, 3) := by decide +kernel
theorem d_M_turn_91 : decode c_M_turn 91 = .ok (.iconst 5, 1) := by decide +kernel
theorem d_M_turn_92 : decode c_M_turn 92 = .ok (.iload 4, 2) := by decide +kernel
theorem d_M_turn_94 : decode c_M_turn 94 = .ok (.imul, 1) := by decide +kernel
theorem d_M_turn_95 : decode c_M_turn 95 = .ok (.iload 5, 2) := by decide +kernel
theorem d_M_turn_97 : decode c_M_turn 97 = .ok (.iadd, 1) := by decide +kernel
theorem d_M_turn_98 : decode c_M_turn 98 = .ok (.iload_n 1, 1) := by decide +kernel
theorem d_M_turn_99 : decode c_M_turn 99 = .ok (.isub, 1) := by decide +kernel
theorem d_M_turn_100 : decode c_M_turn 100 = .ok (.iload 4, 2) := by decide +kernel
theorem d_M_turn_102 : decode c_M_turn 102 = .ok (.iadd, 1) := by decide +kernel
theorem d_M_turn_103 : decode c_M_turn 103 = .ok (.laload, 1) := by decide +kernel
theorem d_M_turn_104 : decode c_M_turn 104 = .ok (.lload_n 2, 1) := by decide +kernel
theorem d_M_turn_105 : decode c_M_turn 105 = .ok (.aload_n 0, 1) := by decide +kernel
theorem d_M_turn_106 : decode c_M_turn 106 = .ok (.getfield 7, 3) := by decide +kernel
theorem d_M_turn_109 : decode c_M_turn 109 = .ok (.iconst 5, 1) := by decide +kernel
theorem d_M_turn_110 : decode c_M_turn 110 = .ok (.iload_n 1, 1) := by decide +kernel
theorem d_M_turn_111 : decode c_M_turn 111 = .ok (.imul, 1) := by decide +kernel
theorem d_M_turn_112 : decode c_M_turn 112 = .ok (.iload 5, 2) := by decide +kernel
theorem d_M_turn_114 : decode c_M_turn 114 = .ok (.iadd, 1) := by decide +kernel
theorem d_M_turn_115 : decode c_M_turn 115 = .ok (.laload, 1) := by decide +kernel
theorem d_M_turn_116 : decode c_M_turn 116 = .ok (.iload 5, 2) := by decide +kernel
theorem d_M_turn_118 : decode c_M_turn 118 = .ok (.i2l, 1) := by decide +kernel
theorem d_M_turn_119 : decode c_M_turn 119 = .ok (.iload_n 1, 1) := by decide +kernel
theorem d_M_turn_120 : decode c_M_turn 120 = .ok (.iload 4, 2) := by decide +kernel
theorem d_M_turn_122 : decode c_M_turn 122 = .ok (.isub, 1) := by decide +kernel
theorem d_M_turn_123 : decode c_M_turn 123 = .ok (.invokestatic 67, 3) := by decide +kernel
theorem d_M_turn_126 : decode c_M_turn 126 = .ok (.lmul, 1) := by decide +kernel
theorem d_M_turn_127 : decode c_M_turn 127 = .ok (.ldc2_w 45, 3) := by decide +kernel
theorem d_M_turn_130 : decode c_M_turn 130 = .ok (.lrem, 1) := by decide +kernel
theorem d_M_turn_131 : decode c_M_turn 131 = .ok (.lmul, 1) := by decide +kernel
theorem d_M_turn_132 : decode c_M_turn 132 = .ok (.ladd, 1) := by decide +kernel
theorem d_M_turn_133 : decode c_M_turn 133 = .ok (.invokestatic 47, 3) := by decide +kernel
theorem d_M_turn_136 : decode c_M_turn 136 = .ok (.lastore, 1) := by decide +kernel
theorem d_M_turn_137 : decode c_M_turn 137 = .ok (.iinc 5 1, 3) := by decide +kernel
theorem d_M_turn_140 : decode c_M_turn 140 = .ok (.goto (-75), 3) := by decide +kernel
theorem d_M_turn_143 : decode c_M_turn 143 = .ok (.lload_n 2, 1) := by decide +kernel
theorem d_M_turn_144 : decode c_M_turn 144 = .ok (.iload_n 1, 1) := by decide +kernel
theorem d_M_turn_145 : decode c_M_turn 145 = .ok (.iload 4, 2) := by decide +kernel
theorem d_M_turn_147 : decode c_M_turn 147 = .ok (.isub, 1) := by decide +kernel
theorem d_M_turn_148 : decode c_M_turn 148 = .ok (.i2l, 1) := by decide +kernel
theorem d_M_turn_149 : decode c_M_turn 149 = .ok (.lmul, 1) := by decide +kernel
theorem d_M_turn_150 : decode c_M_turn 150 = .ok (.iload 4, 2) := by decide +kernel
theorem d_M_turn_152 : decode c_M_turn 152 = .ok (.iconst 1, 1) := by decide +kernel
theorem d_M_turn_153 : decode c_M_turn 153 = .ok (.iadd, 1) := by decide +kernel
theorem d_M_turn_154 : decode c_M_turn 154 = .ok (.i2l, 1) := by decide +kernel
theorem d_M_turn_155 : decode c_M_turn 155 = .ok (.ldiv, 1) := by decide +kernel
theorem d_M_turn_156 : decode c_M_turn 156 = .ok (.lstore_n 2, 1) := by decide +kernel
theorem d_M_turn_157 : decode c_M_turn 157 = .ok (.iinc 4 1, 3) := by decide +kernel
theorem d_M_turn_160 : decode c_M_turn 160 = .ok (.goto (-107), 3) := by decide +kernel
theorem d_M_turn_163 : decode c_M_turn 163 = .ok (.iinc 1 1, 3) := by decide +kernel
theorem d_M_turn_166 : decode c_M_turn 166 = .ok (.goto (-138), 3) := by decide +kernel
theorem d_M_turn_169 : decode c_M_turn 169 = .ok (.iconst 0, 1) := by decide +kernel
theorem d_M_turn_170 : decode c_M_turn 170 = .ok (.istore_n 1, 1) := by decide +kernel
theorem d_M_turn_171 : decode c_M_turn 171 = .ok (.iload_n 1, 1) := by decide +kernel
theorem d_M_turn_172 : decode c_M_turn 172 = .ok (.bipush 20, 2) := by decide +kernel
theorem d_M_turn_174 : decode c_M_turn 174 = .ok (.if_icmp .ge 21, 3) := by decide +kernel
theorem d_M_turn_177 : decode c_M_turn 177 = .ok (.aload_n 0, 1) := by decide +kernel
theorem d_M_turn_178 : decode c_M_turn 178 = .ok (.getfield 7, 3) := by decide +kernel
theorem d_M_turn_181 : decode c_M_turn 181 = .ok (.iload_n 1, 1) := by decide +kernel
theorem d_M_turn_182 : decode c_M_turn 182 = .ok (.aload_n 0, 1) := by decide +kernel
theorem d_M_turn_183 : decode c_M_turn 183 = .ok (.getfield 35, 3) := by decide +kernel
theorem d_M_turn_186 : decode c_M_turn 186 = .ok (.iload_n 1, 1) := by decide +kernel
theorem d_M_turn_187 : decode c_M_turn 187 = .ok (.laload, 1) := by decide +kernel
theorem d_M_turn_188 : decode c_M_turn 188 = .ok (.lastore, 1) := by decide +kernel
theorem d_M_turn_189 : decode c_M_turn 189 = .ok (.iinc 1 1, 3) := by decide +kernel
theorem d_M_turn_192 : decode c_M_turn 192 = .ok (.goto (-21), 3) := by decide +kernel
theorem d_M_turn_195 : decode c_M_turn 195 = .ok (.return_, 1) := by decide +kernel
theorem d_M_hand_0 : decode c_M_hand 0 = .ok (.aload_n 0, 1) := by decide +kernel
theorem d_M_hand_1 : decode c_M_hand 1 = .ok (.iload_n 1, 1) := by decide +kernel
theorem d_M_hand_2 : decode c_M_hand 2 = .ok (.i2l, 1) := by decide +kernel
theorem d_M_hand_3 : decode c_M_hand 3 = .ok (.lconst 0, 1) := by decide +kernel
theorem d_M_hand_4 : decode c_M_hand 4 = .ok (.ldc2_w 71, 3) := by decide +kernel
theorem d_M_hand_7 : decode c_M_hand 7 = .ok (.invokestatic 51, 3) := by decide +kernel
theorem d_M_hand_10 : decode c_M_hand 10 = .ok (.ifCond .eq 7, 3) := by decide +kernel
theorem d_M_hand_13 : decode c_M_hand 13 = .ok (.iconst 0, 1) := by decide +kernel
theorem d_M_hand_14 : decode c_M_hand 14 = .ok (.goto 4, 3) := by decide +kernel
theorem d_M_hand_17 : decode c_M_hand 17 = .ok (.iconst 1, 1) := by decide +kernel
theorem d_M_hand_18 : decode c_M_hand 18 = .ok (.putfield 42, 3) := by decide +kernel
theorem d_M_hand_21 : decode c_M_hand 21 = .ok (.aload_n 0, 1) := by decide +kernel
theorem d_M_hand_22 : decode c_M_hand 22 = .ok (.getfield 42, 3) := by decide +kernel
theorem d_M_hand_25 : decode c_M_hand 25 = .ok (.ifCond .ne 13, 3) := by decide +kernel
theorem d_M_hand_28 : decode c_M_hand 28 = .ok (.aload_n 0, 1) := by decide +kernel
theorem d_M_hand_29 : decode c_M_hand 29 = .ok (.getfield 13, 3) := by decide +kernel
theorem d_M_hand_32 : decode c_M_hand 32 = .ok (.iload_n 1, 1) := by decide +kernel
theorem d_M_hand_33 : decode c_M_hand 33 = .ok (.lload_n 2, 1) := by decide +kernel
theorem d_M_hand_34 : decode c_M_hand 34 = .ok (.invokestatic 47, 3) := by decide +kernel
theorem d_M_hand_37 : decode c_M_hand 37 = .ok (.lastore, 1) := by decide +kernel
theorem d_M_hand_38 : decode c_M_hand 38 = .ok (.return_, 1) := by decide +kernel
theorem d_M_make_0 : decode c_M_make 0 = .ok (.iconst 0, 1) := by decide +kernel
theorem d_M_make_1 : decode c_M_make 1 = .ok (.istore 4, 2) := by decide +kernel
theorem d_M_make_3 : decode c_M_make 3 = .ok (.iload 4, 2) := by decide +kernel
theorem d_M_make_5 : decode c_M_make 5 = .ok (.aload_n 0, 1) := by decide +kernel
theorem d_M_make_6 : decode c_M_make 6 = .ok (.getfield 38, 3) := by decide +kernel
theorem d_M_make_9 : decode c_M_make 9 = .ok (.if_icmp .gt 89, 3) := by decide +kernel
theorem d_M_make_12 : decode c_M_make 12 = .ok (.iload 4, 2) := by decide +kernel
theorem d_M_make_14 : decode c_M_make 14 = .ok (.iload_n 1, 1) := by decide +kernel
theorem d_M_make_15 : decode c_M_make 15 = .ok (.if_icmp .gt 83, 3) := by decide +kernel
theorem d_M_make_18 : decode c_M_make 18 = .ok (.lload_n 2, 1) := by decide +kernel
theorem d_M_make_19 : decode c_M_make 19 = .ok (.iload_n 1, 1) := by decide +kernel
theorem d_M_make_20 : decode c_M_make 20 = .ok (.i2l, 1) := by decide +kernel
theorem d_M_make_21 : decode c_M_make 21 = .ok (.iload 4, 2) := by decide +kernel
theorem d_M_make_23 : decode c_M_make 23 = .ok (.invokestatic 67, 3) := by decide +kernel
theorem d_M_make_26 : decode c_M_make 26 = .ok (.lmul, 1) := by decide +kernel
theorem d_M_make_27 : decode c_M_make 27 = .ok (.ldc2_w 45, 3) := by decide +kernel
theorem d_M_make_30 : decode c_M_make 30 = .ok (.lrem, 1) := by decide +kernel
theorem d_M_make_31 : decode c_M_make 31 = .ok (.lstore 5, 2) := by decide +kernel
theorem d_M_make_33 : decode c_M_make 33 = .ok (.iconst 0, 1) := by decide +kernel
theorem d_M_make_34 : decode c_M_make 34 = .ok (.istore 7, 2) := by decide +kernel
theorem d_M_make_36 : decode c_M_make 36 = .ok (.iload 7, 2) := by decide +kernel
theorem d_M_make_38 : decode c_M_make 38 = .ok (.iconst 5, 1) := by decide +kernel
theorem d_M_make_39 : decode c_M_make 39 = .ok (.if_icmp .ge 53, 3) := by decide +kernel
theorem d_M_make_42 : decode c_M_make 42 = .ok (.aload_n 0, 1) := by decide +kernel
theorem d_M_make_43 : decode c_M_make 43 = .ok (.getfield 16, 3) := by decide +kernel
theorem d_M_make_46 : decode c_M_make 46 = .ok (.iload_n 1, 1) := by decide +kernel
theorem d_M_make_47 : decode c_M_make 47 = .ok (.iload 4, 2) := by decide +kernel
theorem d_M_make_49 : decode c_M_make 49 = .ok (.isub, 1) := by decide +kernel
theorem d_M_make_50 : decode c_M_make 50 = .ok (.iload 7, 2) := by decide +kernel
theorem d_M_make_52 : decode c_M_make 52 = .ok (.iadd, 1) := by decide +kernel
theorem d_M_make_53 : decode c_M_make 53 = .ok (.aload_n 0, 1) := by decide +kernel
theorem d_M_make_54 : decode c_M_make 54 = .ok (.getfield 16, 3) := by decide +kernel
theorem d_M_make_57 : decode c_M_make 57 = .ok (.iload_n 1, 1) := by decide +kernel
theorem d_M_make_58 : decode c_M_make 58 = .ok (.iload 4, 2) := by decide +kernel
theorem d_M_make_60 : decode c_M_make 60 = .ok (.isub, 1) := by decide +kernel
theorem d_M_make_61 : decode c_M_make 61 = .ok (.iload 7, 2) := by decide +kernel
theorem d_M_make_63 : decode c_M_make 63 = .ok (.iadd, 1) := by decide +kernel
theorem d_M_make_64 : decode c_M_make 64 = .ok (.laload, 1) := by decide +kernel
theorem d_M_make_65 : decode c_M_make 65 = .ok (.lload 5, 2) := by decide +kernel
theorem d_M_make_67 : decode c_M_make 67 = .ok (.aload_n 0, 1) := by decide +kernel
theorem d_M_make_68 : decode c_M_make 68 = .ok (.getfield 7, 3) := by decide +kernel
theorem d_M_make_71 : decode c_M_make 71 = .ok (.iconst 5, 1) := by decide +kernel
theorem d_M_make_72 : decode c_M_make 72 = .ok (.iload 4, 2) := by decide +kernel
theorem d_M_make_74 : decode c_M_make 74 = .ok (.imul, 1) := by decide +kernel
theorem d_M_make_75 : decode c_M_make 75 = .ok (.iload 7, 2) := by decide +kernel
theorem d_M_make_77 : decode c_M_make 77 = .ok (.iadd, 1) := by decide +kernel
theorem d_M_make_78 : decode c_M_make 78 = .ok (.laload, 1) := by decide +kernel
theorem d_M_make_79 : decode c_M_make 79 = .ok (.lmul, 1) := by decide +kernel
theorem d_M_make_80 : decode c_M_make 80 = .ok (.ladd, 1) := by decide +kernel
theorem d_M_make_81 : decode c_M_make 81 = .ok (.ldc2_w 45, 3) := by decide +kernel
theorem d_M_make_84 : decode c_M_make 84 = .ok (.lrem, 1) := by decide +kernel
theorem d_M_make_85 : decode c_M_make 85 = .ok (.lastore, 1) := by decide +kernel
theorem d_M_make_86 : decode c_M_make 86 = .ok (.iinc 7 1, 3) := by decide +kernel
theorem d_M_make_89 : decode c_M_make 89 = .ok (.goto (-53), 3) := by decide +kernel
theorem d_M_make_92 : decode c_M_make 92 = .ok (.iinc 4 1, 3) := by decide +kernel
theorem d_M_make_95 : decode c_M_make 95 = .ok (.goto (-92), 3) := by decide +kernel
theorem d_M_make_98 : decode c_M_make 98 = .ok (.return_, 1) := by decide +kernel
theorem d_M_makeAll_0 : decode c_M_makeAll 0 = .ok (.iconst 0, 1) := by decide +kernel
theorem d_M_makeAll_1 : decode c_M_makeAll 1 = .ok (.istore_n 1, 1) := by decide +kernel
theorem d_M_makeAll_2 : decode c_M_makeAll 2 = .ok (.iload_n 1, 1) := by decide +kernel
theorem d_M_makeAll_3 : decode c_M_makeAll 3 = .ok (.bipush 17, 2) := by decide +kernel
theorem d_M_makeAll_5 : decode c_M_makeAll 5 = .ok (.if_icmp .ge 16, 3) := by decide +kernel
theorem d_M_makeAll_8 : decode c_M_makeAll 8 = .ok (.aload_n 0, 1) := by decide +kernel
theorem d_M_makeAll_9 : decode c_M_makeAll 9 = .ok (.getfield 16, 3) := by decide +kernel
theorem d_M_makeAll_12 : decode c_M_makeAll 12 = .ok (.iload_n 1, 1) := by decide +kernel
theorem d_M_makeAll_13 : decode c_M_makeAll 13 = .ok (.lconst 0, 1) := by decide +kernel
theorem d_M_makeAll_14 : decode c_M_makeAll 14 = .ok (.lastore, 1) := by decide +kernel
theorem d_M_makeAll_15 : decode c_M_makeAll 15 = .ok (.iinc 1 1, 3) := by decide +kernel
theorem d_M_makeAll_18 : decode c_M_makeAll 18 = .ok (.goto (-16), 3) := by decide +kernel
theorem d_M_makeAll_21 : decode c_M_makeAll 21 = .ok (.iconst 0, 1) := by decide +kernel
theorem d_M_makeAll_22 : decode c_M_makeAll 22 = .ok (.istore_n 1, 1) := by decide +kernel
theorem d_M_makeAll_23 : decode c_M_makeAll 23 = .ok (.iload_n 1, 1) := by decide +kernel
theorem d_M_makeAll_24 : decode c_M_makeAll 24 = .ok (.bipush 12, 2) := by decide +kernel
theorem d_M_makeAll_26 : decode c_M_makeAll 26 = .ok (.if_icmp .gt 20, 3) := by decide +kernel
theorem d_M_makeAll_29 : decode c_M_makeAll 29 = .ok (.aload_n 0, 1) := by decide +kernel
theorem d_M_makeAll_30 : decode c_M_makeAll 30 = .ok (.iload_n 1, 1) := by decide +kernel
theorem d_M_makeAll_31 : decode c_M_makeAll 31 = .ok (.aload_n 0, 1) := by decide +kernel
theorem d_M_makeAll_32 : decode c_M_makeAll 32 = .ok (.getfield 13, 3) := by decide +kernel
theorem d_M_makeAll_35 : decode c_M_makeAll 35 = .ok (.iload_n 1, 1) := by decide +kernel
theorem d_M_makeAll_36 : decode c_M_makeAll 36 = .ok (.laload, 1) := by decide +kernel
theorem d_M_makeAll_37 : decode c_M_makeAll 37 = .ok (.invokevirtual 73, 3) := by decide +kernel
theorem d_M_makeAll_40 : decode c_M_makeAll 40 = .ok (.iinc 1 1, 3) := by decide +kernel
theorem d_M_makeAll_43 : decode c_M_makeAll 43 = .ok (.goto (-20), 3) := by decide +kernel
theorem d_M_makeAll_46 : decode c_M_makeAll 46 = .ok (.return_, 1) := by decide +kernel
theorem d_M_made_0 : decode c_M_made 0 = .ok (.aload_n 0, 1) := by decide +kernel
theorem d_M_made_1 : decode c_M_made 1 = .ok (.iconst 0, 1) := by decide +kernel
theorem d_M_made_2 : decode c_M_made 2 = .ok (.putfield 42, 3) := by decide +kernel
theorem d_M_made_5 : decode c_M_made 5 = .ok (.aload_n 0, 1) := by decide +kernel
theorem d_M_made_6 : decode c_M_made 6 = .ok (.invokevirtual 77, 3) := by decide +kernel
theorem d_M_made_9 : decode c_M_made 9 = .ok (.iload_n 1, 1) := by decide +kernel
theorem d_M_made_10 : decode c_M_made 10 = .ok (.i2l, 1) := by decide +kernel
theorem d_M_made_11 : decode c_M_made 11 = .ok (.lconst 0, 1) := by decide +kernel
theorem d_M_made_12 : decode c_M_made 12 = .ok (.ldc2_w 80, 3) := by decide +kernel
theorem d_M_made_15 : decode c_M_made 15 = .ok (.invokestatic 51, 3) := by decide +kernel
theorem d_M_made_18 : decode c_M_made 18 = .ok (.ifCond .eq 13, 3) := by decide +kernel
theorem d_M_made_21 : decode c_M_made 21 = .ok (.aload_n 0, 1) := by decide +kernel
theorem d_M_made_22 : decode c_M_made 22 = .ok (.getfield 16, 3) := by decide +kernel
theorem d_M_made_25 : decode c_M_made 25 = .ok (.iload_n 1, 1) := by decide +kernel
theorem d_M_made_26 : decode c_M_made 26 = .ok (.laload, 1) := by decide +kernel
theorem d_M_made_27 : decode c_M_made 27 = .ok (.l2i, 1) := by decide +kernel
theorem d_M_made_28 : decode c_M_made 28 = .ok (.goto 4, 3) := by decide +kernel
theorem d_M_made_31 : decode c_M_made 31 = .ok (.iconst 0, 1) := by decide +kernel
theorem d_M_made_32 : decode c_M_made 32 = .ok (.ireturn, 1) := by decide +kernel
theorem d_M_solves_0 : decode c_M_solves 0 = .ok (.aload_n 0, 1) := by decide +kernel
theorem d_M_solves_1 : decode c_M_solves 1 = .ok (.iconst 0, 1) := by decide +kernel
theorem d_M_solves_2 : decode c_M_solves 2 = .ok (.putfield 42, 3) := by decide +kernel
theorem d_M_solves_5 : decode c_M_solves 5 = .ok (.aload_n 0, 1) := by decide +kernel
theorem d_M_solves_6 : decode c_M_solves 6 = .ok (.invokevirtual 77, 3) := by decide +kernel
theorem d_M_solves_9 : decode c_M_solves 9 = .ok (.iconst 1, 1) := by decide +kernel
theorem d_M_solves_10 : decode c_M_solves 10 = .ok (.istore_n 1, 1) := by decide +kernel
theorem d_M_solves_11 : decode c_M_solves 11 = .ok (.iconst 0, 1) := by decide +kernel
theorem d_M_solves_12 : decode c_M_solves 12 = .ok (.istore_n 2, 1) := by decide +kernel
theorem d_M_solves_13 : decode c_M_solves 13 = .ok (.iload_n 2, 1) := by decide +kernel
theorem d_M_solves_14 : decode c_M_solves 14 = .ok (.bipush 17, 2) := by decide +kernel
theorem d_M_solves_16 : decode c_M_solves 16 = .ok (.if_icmp .ge 30, 3) := by decide +kernel
theorem d_M_solves_19 : decode c_M_solves 19 = .ok (.iload_n 1, 1) := by decide +kernel
theorem d_M_solves_20 : decode c_M_solves 20 = .ok (.ifCond .eq 18, 3) := by decide +kernel
theorem d_M_solves_23 : decode c_M_solves 23 = .ok (.aload_n 0, 1) := by decide +kernel
theorem d_M_solves_24 : decode c_M_solves 24 = .ok (.getfield 16, 3) := by decide +kernel
theorem d_M_solves_27 : decode c_M_solves 27 = .ok (.iload_n 2, 1) := by decide +kernel
theorem d_M_solves_28 : decode c_M_solves 28 = .ok (.laload, 1) := by decide +kernel
theorem d_M_solves_29 : decode c_M_solves 29 = .ok (.lconst 0, 1) := by decide +kernel
theorem d_M_solves_30 : decode c_M_solves 30 = .ok (.lcmp, 1) := by decide +kernel
theorem d_M_solves_31 : decode c_M_solves 31 = .ok (.ifCond .ne 7, 3) := by decide +kernel
theorem d_M_solves_34 : decode c_M_solves 34 = .ok (.iconst 1, 1) := by decide +kernel
theorem d_M_solves_35 : decode c_M_solves 35 = .ok (.goto 4, 3) := by decide +kernel
theorem d_M_solves_38 : decode c_M_solves 38 = .ok (.iconst 0, 1) := by decide +kernel
theorem d_M_solves_39 : decode c_M_solves 39 = .ok (.istore_n 1, 1) := by decide +kernel
theorem d_M_solves_40 : decode c_M_solves 40 = .ok (.iinc 2 1, 3) := by decide +kernel
theorem d_M_solves_43 : decode c_M_solves 43 = .ok (.goto (-30), 3) := by decide +kernel
theorem d_M_solves_46 : decode c_M_solves 46 = .ok (.iload_n 1, 1) := by decide +kernel
theorem d_M_solves_47 : decode c_M_solves 47 = .ok (.ireturn, 1) := by decide +kernel
theorem d_M_hasHead_0 : decode c_M_hasHead 0 = .ok (.iconst 0, 1) := by decide +kernel
theorem d_M_hasHead_1 : decode c_M_hasHead 1 = .ok (.istore_n 1, 1) := by decide +kernel
theorem d_M_hasHead_2 : decode c_M_hasHead 2 = .ok (.iconst 0, 1) := by decide +kernel
theorem d_M_hasHead_3 : decode c_M_hasHead 3 = .ok (.istore_n 2, 1) := by decide +kernel
theorem d_M_hasHead_4 : decode c_M_hasHead 4 = .ok (.iload_n 2, 1) := by decide +kernel
theorem d_M_hasHead_5 : decode c_M_hasHead 5 = .ok (.iconst 5, 1) := by decide +kernel
theorem d_M_hasHead_6 : decode c_M_hasHead 6 = .ok (.if_icmp .ge 37, 3) := by decide +kernel
theorem d_M_hasHead_9 : decode c_M_hasHead 9 = .ok (.iload_n 1, 1) := by decide +kernel
theorem d_M_hasHead_10 : decode c_M_hasHead 10 = .ok (.ifCond .ne 21, 3) := by decide +kernel
theorem d_M_hasHead_13 : decode c_M_hasHead 13 = .ok (.aload_n 0, 1) := by decide +kernel
theorem d_M_hasHead_14 : decode c_M_hasHead 14 = .ok (.getfield 7, 3) := by decide +kernel
theorem d_M_hasHead_17 : decode c_M_hasHead 17 = .ok (.iconst 5, 1) := by decide +kernel
theorem d_M_hasHead_18 : decode c_M_hasHead 18 = .ok (.aload_n 0, 1) := by decide +kernel
theorem d_M_hasHead_19 : decode c_M_hasHead 19 = .ok (.getfield 38, 3) := by decide +kernel
theorem d_M_hasHead_22 : decode c_M_hasHead 22 = .ok (.imul, 1) := by decide +kernel
theorem d_M_hasHead_23 : decode c_M_hasHead 23 = .ok (.iload_n 2, 1) := by decide +kernel
theorem d_M_hasHead_24 : decode c_M_hasHead 24 = .ok (.iadd, 1) := by decide +kernel
theorem d_M_hasHead_25 : decode c_M_hasHead 25 = .ok (.laload, 1) := by decide +kernel
theorem d_M_hasHead_26 : decode c_M_hasHead 26 = .ok (.lconst 0, 1) := by decide +kernel
theorem d_M_hasHead_27 : decode c_M_hasHead 27 = .ok (.lcmp, 1) := by decide +kernel
theorem d_M_hasHead_28 : decode c_M_hasHead 28 = .ok (.ifCond .eq 7, 3) := by decide +kernel
theorem d_M_hasHead_31 : decode c_M_hasHead 31 = .ok (.iconst 1, 1) := by decide +kernel
theorem d_M_hasHead_32 : decode c_M_hasHead 32 = .ok (.goto 4, 3) := by decide +kernel
theorem d_M_hasHead_35 : decode c_M_hasHead 35 = .ok (.iconst 0, 1) := by decide +kernel
theorem d_M_hasHead_36 : decode c_M_hasHead 36 = .ok (.istore_n 1, 1) := by decide +kernel
theorem d_M_hasHead_37 : decode c_M_hasHead 37 = .ok (.iinc 2 1, 3) := by decide +kernel
theorem d_M_hasHead_40 : decode c_M_hasHead 40 = .ok (.goto (-36), 3) := by decide +kernel
theorem d_M_hasHead_43 : decode c_M_hasHead 43 = .ok (.iload_n 1, 1) := by decide +kernel
theorem d_M_hasHead_44 : decode c_M_hasHead 44 = .ok (.ireturn, 1) := by decide +kernel
theorem d_M_headAt_0 : decode c_M_headAt 0 = .ok (.lconst 0, 1) := by decide +kernel
theorem d_M_headAt_1 : decode c_M_headAt 1 = .ok (.lstore_n 3, 1) := by decide +kernel
theorem d_M_headAt_2 : decode c_M_headAt 2 = .ok (.iconst 4, 1) := by decide +kernel
theorem d_M_headAt_3 : decode c_M_headAt 3 = .ok (.istore 5, 2) := by decide +kernel
theorem d_M_headAt_5 : decode c_M_headAt 5 = .ok (.iload 5, 2) := by decide +kernel
theorem d_M_headAt_7 : decode c_M_headAt 7 = .ok (.ifCond .lt 32, 3) := by decide +kernel
theorem d_M_headAt_10 : decode c_M_headAt 10 = .ok (.lload_n 3, 1) := by decide +kernel
theorem d_M_headAt_11 : decode c_M_headAt 11 = .ok (.lload_n 1, 1) := by decide +kernel
theorem d_M_headAt_12 : decode c_M_headAt 12 = .ok (.lmul, 1) := by decide +kernel
theorem d_M_headAt_13 : decode c_M_headAt 13 = .ok (.aload_n 0, 1) := by decide +kernel
theorem d_M_headAt_14 : decode c_M_headAt 14 = .ok (.getfield 7, 3) := by decide +kernel
theorem d_M_headAt_17 : decode c_M_headAt 17 = .ok (.iconst 5, 1) := by decide +kernel
theorem d_M_headAt_18 : decode c_M_headAt 18 = .ok (.aload_n 0, 1) := by decide +kernel
theorem d_M_headAt_19 : decode c_M_headAt 19 = .ok (.getfield 38, 3) := by decide +kernel
theorem d_M_headAt_22 : decode c_M_headAt 22 = .ok (.imul, 1) := by decide +kernel
theorem d_M_headAt_23 : decode c_M_headAt 23 = .ok (.iload 5, 2) := by decide +kernel
theorem d_M_headAt_25 : decode c_M_headAt 25 = .ok (.iadd, 1) := by decide +kernel
theorem d_M_headAt_26 : decode c_M_headAt 26 = .ok (.laload, 1) := by decide +kernel
theorem d_M_headAt_27 : decode c_M_headAt 27 = .ok (.ladd, 1) := by decide +kernel
theorem d_M_headAt_28 : decode c_M_headAt 28 = .ok (.ldc2_w 45, 3) := by decide +kernel
theorem d_M_headAt_31 : decode c_M_headAt 31 = .ok (.lrem, 1) := by decide +kernel
theorem d_M_headAt_32 : decode c_M_headAt 32 = .ok (.lstore_n 3, 1) := by decide +kernel
theorem d_M_headAt_33 : decode c_M_headAt 33 = .ok (.iinc 5 (-1), 3) := by decide +kernel
theorem d_M_headAt_36 : decode c_M_headAt 36 = .ok (.goto (-31), 3) := by decide +kernel
theorem d_M_headAt_39 : decode c_M_headAt 39 = .ok (.lload_n 3, 1) := by decide +kernel
theorem d_M_headAt_40 : decode c_M_headAt 40 = .ok (.lreturn, 1) := by decide +kernel
theorem d_M_find_0 : decode c_M_find 0 = .ok (.iconst 0, 1) := by decide +kernel
theorem d_M_find_1 : decode c_M_find 1 = .ok (.istore_n 2, 1) := by decide +kernel
theorem d_M_find_2 : decode c_M_find 2 = .ok (.iconst 0, 1) := by decide +kernel
theorem d_M_find_3 : decode c_M_find 3 = .ok (.istore_n 3, 1) := by decide +kernel
theorem d_M_find_4 : decode c_M_find 4 = .ok (.iload_n 3, 1) := by decide +kernel
theorem d_M_find_5 : decode c_M_find 5 = .ok (.sipush 32003, 3) := by decide +kernel
theorem d_M_find_8 : decode c_M_find 8 = .ok (.if_icmp .ge 33, 3) := by decide +kernel
theorem d_M_find_11 : decode c_M_find 11 = .ok (.aload_n 0, 1) := by decide +kernel
theorem d_M_find_12 : decode c_M_find 12 = .ok (.iload_n 3, 1) := by decide +kernel
theorem d_M_find_13 : decode c_M_find 13 = .ok (.i2l, 1) := by decide +kernel
theorem d_M_find_14 : decode c_M_find 14 = .ok (.invokevirtual 82, 3) := by decide +kernel
theorem d_M_find_17 : decode c_M_find 17 = .ok (.lconst 0, 1) := by decide +kernel
theorem d_M_find_18 : decode c_M_find 18 = .ok (.lcmp, 1) := by decide +kernel
theorem d_M_find_19 : decode c_M_find 19 = .ok (.ifCond .eq 6, 3) := by decide +kernel
theorem d_M_find_22 : decode c_M_find 22 = .ok (.goto 13, 3) := by decide +kernel
theorem d_M_find_25 : decode c_M_find 25 = .ok (.iload_n 2, 1) := by decide +kernel
theorem d_M_find_26 : decode c_M_find 26 = .ok (.iload_n 1, 1) := by decide +kernel
theorem d_M_find_27 : decode c_M_find 27 = .ok (.if_icmp .ne 5, 3) := by decide +kernel
theorem d_M_find_30 : decode c_M_find 30 = .ok (.iload_n 3, 1) := by decide +kernel
theorem d_M_find_31 : decode c_M_find 31 = .ok (.ireturn, 1) := by decide +kernel
theorem d_M_find_32 : decode c_M_find 32 = .ok (.iinc 2 1, 3) := by decide +kernel
theorem d_M_find_35 : decode c_M_find 35 = .ok (.iinc 3 1, 3) := by decide +kernel
theorem d_M_find_38 : decode c_M_find 38 = .ok (.goto (-34), 3) := by decide +kernel
theorem d_M_find_41 : decode c_M_find 41 = .ok (.iconst (-1), 1) := by decide +kernel
theorem d_M_find_42 : decode c_M_find 42 = .ok (.iload_n 2, 1) := by decide +kernel
theorem d_M_find_43 : decode c_M_find 43 = .ok (.isub, 1) := by decide +kernel
theorem d_M_find_44 : decode c_M_find 44 = .ok (.ireturn, 1) := by decide +kernel
theorem d_M_places_0 : decode c_M_places 0 = .ok (.aload_n 0, 1) := by decide +kernel
theorem d_M_places_1 : decode c_M_places 1 = .ok (.aload_n 0, 1) := by decide +kernel
theorem d_M_places_2 : decode c_M_places 2 = .ok (.invokevirtual 85, 3) := by decide +kernel
theorem d_M_places_5 : decode c_M_places 5 = .ok (.ifCond .eq 7, 3) := by decide +kernel
theorem d_M_places_8 : decode c_M_places 8 = .ok (.iconst 0, 1) := by decide +kernel
theorem d_M_places_9 : decode c_M_places 9 = .ok (.goto 4, 3) := by decide +kernel
theorem d_M_places_12 : decode c_M_places 12 = .ok (.iconst 1, 1) := by decide +kernel
theorem d_M_places_13 : decode c_M_places 13 = .ok (.putfield 42, 3) := by decide +kernel
theorem d_M_places_16 : decode c_M_places 16 = .ok (.aload_n 0, 1) := by decide +kernel
theorem d_M_places_17 : decode c_M_places 17 = .ok (.getfield 42, 3) := by decide +kernel
theorem d_M_places_20 : decode c_M_places 20 = .ok (.ifCond .le 7, 3) := by decide +kernel
theorem d_M_places_23 : decode c_M_places 23 = .ok (.iconst 0, 1) := by decide +kernel
theorem d_M_places_24 : decode c_M_places 24 = .ok (.goto 10, 3) := by decide +kernel
theorem d_M_places_27 : decode c_M_places 27 = .ok (.iconst (-1), 1) := by decide +kernel
theorem d_M_places_28 : decode c_M_places 28 = .ok (.aload_n 0, 1) := by decide +kernel
theorem d_M_places_29 : decode c_M_places 29 = .ok (.iconst (-1), 1) := by decide +kernel
theorem d_M_places_30 : decode c_M_places 30 = .ok (.invokevirtual 89, 3) := by decide +kernel
theorem d_M_places_33 : decode c_M_places 33 = .ok (.isub, 1) := by decide +kernel
theorem d_M_places_34 : decode c_M_places 34 = .ok (.ireturn, 1) := by decide +kernel
theorem d_M_place_0 : decode c_M_place 0 = .ok (.aload_n 0, 1) := by decide +kernel
theorem d_M_place_1 : decode c_M_place 1 = .ok (.invokevirtual 85, 3) := by decide +kernel
theorem d_M_place_4 : decode c_M_place 4 = .ok (.ifCond .ne 9, 3) := by decide +kernel
theorem d_M_place_7 : decode c_M_place 7 = .ok (.aload_n 0, 1) := by decide +kernel
theorem d_M_place_8 : decode c_M_place 8 = .ok (.iconst 1, 1) := by decide +kernel
theorem d_M_place_9 : decode c_M_place 9 = .ok (.invokevirtual 93, 3) := by decide +kernel
theorem d_M_place_12 : decode c_M_place 12 = .ok (.ireturn, 1) := by decide +kernel
theorem d_M_place_13 : decode c_M_place 13 = .ok (.iload_n 1, 1) := by decide +kernel
theorem d_M_place_14 : decode c_M_place 14 = .ok (.ifCond .ge 7, 3) := by decide +kernel
theorem d_M_place_17 : decode c_M_place 17 = .ok (.iconst (-1), 1) := by decide +kernel
theorem d_M_place_18 : decode c_M_place 18 = .ok (.goto 8, 3) := by decide +kernel
theorem d_M_place_21 : decode c_M_place 21 = .ok (.aload_n 0, 1) := by decide +kernel
theorem d_M_place_22 : decode c_M_place 22 = .ok (.iload_n 1, 1) := by decide +kernel
theorem d_M_place_23 : decode c_M_place 23 = .ok (.invokevirtual 89, 3) := by decide +kernel
theorem d_M_place_26 : decode c_M_place 26 = .ok (.istore_n 2, 1) := by decide +kernel
theorem d_M_place_27 : decode c_M_place 27 = .ok (.aload_n 0, 1) := by decide +kernel
theorem d_M_place_28 : decode c_M_place 28 = .ok (.iload_n 2, 1) := by decide +kernel
theorem d_M_place_29 : decode c_M_place 29 = .ok (.ifCond .ge 7, 3) := by decide +kernel
theorem d_M_place_32 : decode c_M_place 32 = .ok (.iconst 2, 1) := by decide +kernel
theorem d_M_place_33 : decode c_M_place 33 = .ok (.goto 4, 3) := by decide +kernel
theorem d_M_place_36 : decode c_M_place 36 = .ok (.iconst 0, 1) := by decide +kernel
theorem d_M_place_37 : decode c_M_place 37 = .ok (.putfield 42, 3) := by decide +kernel
theorem d_M_place_40 : decode c_M_place 40 = .ok (.aload_n 0, 1) := by decide +kernel
theorem d_M_place_41 : decode c_M_place 41 = .ok (.getfield 42, 3) := by decide +kernel
theorem d_M_place_44 : decode c_M_place 44 = .ok (.ifCond .le 7, 3) := by decide +kernel
theorem d_M_place_47 : decode c_M_place 47 = .ok (.iconst 0, 1) := by decide +kernel
theorem d_M_place_48 : decode c_M_place 48 = .ok (.goto 4, 3) := by decide +kernel
theorem d_M_place_51 : decode c_M_place 51 = .ok (.iload_n 2, 1) := by decide +kernel
theorem d_M_place_52 : decode c_M_place 52 = .ok (.ireturn, 1) := by decide +kernel
theorem d_M_findLevel_0 : decode c_M_findLevel 0 = .ok (.iconst 0, 1) := by decide +kernel
theorem d_M_findLevel_1 : decode c_M_findLevel 1 = .ok (.istore 4, 2) := by decide +kernel
theorem d_M_findLevel_3 : decode c_M_findLevel 3 = .ok (.iconst 0, 1) := by decide +kernel
theorem d_M_findLevel_4 : decode c_M_findLevel 4 = .ok (.istore 5, 2) := by decide +kernel
theorem d_M_findLevel_6 : decode c_M_findLevel 6 = .ok (.iload 5, 2) := by decide +kernel
theorem d_M_findLevel_8 : decode c_M_findLevel 8 = .ok (.bipush 20, 2) := by decide +kernel
theorem d_M_findLevel_10 : decode c_M_findLevel 10 = .ok (.if_icmp .ge 33, 3) := by decide +kernel
theorem d_M_findLevel_13 : decode c_M_findLevel 13 = .ok (.iload 4, 2) := by decide +kernel
theorem d_M_findLevel_15 : decode c_M_findLevel 15 = .ok (.ifCond .ne 15, 3) := by decide +kernel
theorem d_M_findLevel_18 : decode c_M_findLevel 18 = .ok (.aload_n 0, 1) := by decide +kernel
theorem d_M_findLevel_19 : decode c_M_findLevel 19 = .ok (.getfield 7, 3) := by decide +kernel
theorem d_M_findLevel_22 : decode c_M_findLevel 22 = .ok (.iload 5, 2) := by decide +kernel
theorem d_M_findLevel_24 : decode c_M_findLevel 24 = .ok (.laload, 1) := by decide +kernel
theorem d_M_findLevel_25 : decode c_M_findLevel 25 = .ok (.lconst 0, 1) := by decide +kernel
theorem d_M_findLevel_26 : decode c_M_findLevel 26 = .ok (.lcmp, 1) := by decide +kernel
theorem d_M_findLevel_27 : decode c_M_findLevel 27 = .ok (.ifCond .eq 7, 3) := by decide +kernel
theorem d_M_findLevel_30 : decode c_M_findLevel 30 = .ok (.iconst 1, 1) := by decide +kernel
theorem d_M_findLevel_31 : decode c_M_findLevel 31 = .ok (.goto 4, 3) := by decide +kernel
theorem d_M_findLevel_34 : decode c_M_findLevel 34 = .ok (.iconst 0, 1) := by decide +kernel
theorem d_M_findLevel_35 : decode c_M_findLevel 35 = .ok (.istore 4, 2) := by decide +kernel
theorem d_M_findLevel_37 : decode c_M_findLevel 37 = .ok (.iinc 5 1, 3) := by decide +kernel
theorem d_M_findLevel_40 : decode c_M_findLevel 40 = .ok (.goto (-34), 3) := by decide +kernel
theorem d_M_findLevel_43 : decode c_M_findLevel 43 = .ok (.aload_n 0, 1) := by decide +kernel
theorem d_M_findLevel_44 : decode c_M_findLevel 44 = .ok (.iload 4, 2) := by decide +kernel
theorem d_M_findLevel_46 : decode c_M_findLevel 46 = .ok (.ifCond .eq 7, 3) := by decide +kernel
theorem d_M_findLevel_49 : decode c_M_findLevel 49 = .ok (.iconst 0, 1) := by decide +kernel
theorem d_M_findLevel_50 : decode c_M_findLevel 50 = .ok (.goto 4, 3) := by decide +kernel
theorem d_M_findLevel_53 : decode c_M_findLevel 53 = .ok (.iconst 1, 1) := by decide +kernel
theorem d_M_findLevel_54 : decode c_M_findLevel 54 = .ok (.putfield 42, 3) := by decide +kernel
theorem d_M_findLevel_57 : decode c_M_findLevel 57 = .ok (.iload 4, 2) := by decide +kernel
theorem d_M_findLevel_59 : decode c_M_findLevel 59 = .ok (.ifCond .ne 5, 3) := by decide +kernel
theorem d_M_findLevel_62 : decode c_M_findLevel 62 = .ok (.iconst 0, 1) := by decide +kernel
theorem d_M_findLevel_63 : decode c_M_findLevel 63 = .ok (.ireturn, 1) := by decide +kernel
theorem d_M_findLevel_64 : decode c_M_findLevel 64 = .ok (.aload_n 0, 1) := by decide +kernel
theorem d_M_findLevel_65 : decode c_M_findLevel 65 = .ok (.iload_n 1, 1) := by decide +kernel
theorem d_M_findLevel_66 : decode c_M_findLevel 66 = .ok (.ifCond .eq 7, 3) := by decide +kernel
theorem d_M_findLevel_69 : decode c_M_findLevel 69 = .ok (.lconst 0, 1) := by decide +kernel
theorem d_M_findLevel_70 : decode c_M_findLevel 70 = .ok (.goto 7, 3) := by decide +kernel
theorem d_M_findLevel_73 : decode c_M_findLevel 73 = .ok (.lload_n 2, 1) := by decide +kernel
theorem d_M_findLevel_74 : decode c_M_findLevel 74 = .ok (.invokestatic 47, 3) := by decide +kernel
theorem d_M_findLevel_77 : decode c_M_findLevel 77 = .ok (.invokevirtual 61, 3) := by decide +kernel
theorem d_M_findLevel_80 : decode c_M_findLevel 80 = .ok (.aload_n 0, 1) := by decide +kernel
theorem d_M_findLevel_81 : decode c_M_findLevel 81 = .ok (.iload_n 1, 1) := by decide +kernel
theorem d_M_findLevel_82 : decode c_M_findLevel 82 = .ok (.ifCond .eq 8, 3) := by decide +kernel
theorem d_M_findLevel_85 : decode c_M_findLevel 85 = .ok (.bipush (-9), 2) := by decide +kernel
theorem d_M_findLevel_87 : decode c_M_findLevel 87 = .ok (.goto 5, 3) := by decide +kernel
theorem d_M_findLevel_90 : decode c_M_findLevel 90 = .ok (.bipush 9, 2) := by decide +kernel
theorem d_M_findLevel_92 : decode c_M_findLevel 92 = .ok (.putfield 96, 3) := by decide +kernel
theorem d_M_findLevel_95 : decode c_M_findLevel 95 = .ok (.iconst 0, 1) := by decide +kernel
theorem d_M_findLevel_96 : decode c_M_findLevel 96 = .ok (.istore 5, 2) := by decide +kernel
theorem d_M_findLevel_98 : decode c_M_findLevel 98 = .ok (.iload 5, 2) := by decide +kernel
theorem d_M_findLevel_100 : decode c_M_findLevel 100 = .ok (.iconst 4, 1) := by decide +kernel
theorem d_M_findLevel_101 : decode c_M_findLevel 101 = .ok (.if_icmp .ge 84, 3) := by decide +kernel
theorem d_M_findLevel_104 : decode c_M_findLevel 104 = .ok (.iconst 0, 1) := by decide +kernel
theorem d_M_findLevel_105 : decode c_M_findLevel 105 = .ok (.istore 6, 2) := by decide +kernel
theorem d_M_findLevel_107 : decode c_M_findLevel 107 = .ok (.iload 6, 2) := by decide +kernel
theorem d_M_findLevel_109 : decode c_M_findLevel 109 = .ok (.iconst 5, 1) := by decide +kernel
theorem d_M_findLevel_110 : decode c_M_findLevel 110 = .ok (.if_icmp .ge 69, 3) := by decide +kernel
theorem d_M_findLevel_113 : decode c_M_findLevel 113 = .ok (.aload_n 0, 1) := by decide +kernel
theorem d_M_findLevel_114 : decode c_M_findLevel 114 = .ok (.getfield 19, 3) := by decide +kernel
theorem d_M_findLevel_117 : decode c_M_findLevel 117 = .ok (.iconst 5, 1) := by decide +kernel
theorem d_M_findLevel_118 : decode c_M_findLevel 118 = .ok (.iload 5, 2) := by decide +kernel
theorem d_M_findLevel_120 : decode c_M_findLevel 120 = .ok (.imul, 1) := by decide +kernel
theorem d_M_findLevel_121 : decode c_M_findLevel 121 = .ok (.iload 6, 2) := by decide +kernel
theorem d_M_findLevel_123 : decode c_M_findLevel 123 = .ok (.iadd, 1) := by decide +kernel
theorem d_M_findLevel_124 : decode c_M_findLevel 124 = .ok (.laload, 1) := by decide +kernel
theorem d_M_findLevel_125 : decode c_M_findLevel 125 = .ok (.lconst 0, 1) := by decide +kernel
theorem d_M_findLevel_126 : decode c_M_findLevel 126 = .ok (.lcmp, 1) := by decide +kernel
theorem d_M_findLevel_127 : decode c_M_findLevel 127 = .ok (.ifCond .ne 6, 3) := by decide +kernel
theorem d_M_findLevel_130 : decode c_M_findLevel 130 = .ok (.goto 43, 3) := by decide +kernel
theorem d_M_findLevel_133 : decode c_M_findLevel 133 = .ok (.iload_n 1, 1) := by decide +kernel
theorem d_M_findLevel_134 : decode c_M_findLevel 134 = .ok (.ifCond .eq 18, 3) := by decide +kernel
theorem d_M_findLevel_137 : decode c_M_findLevel 137 = .ok (.iload 6, 2) := by decide +kernel
theorem d_M_findLevel_139 : decode c_M_findLevel 139 = .ok (.iload 5, 2) := by decide +kernel
theorem d_M_findLevel_141 : decode c_M_findLevel 141 = .ok (.isub, 1) := by decide +kernel
theorem d_M_findLevel_142 : decode c_M_findLevel 142 = .ok (.aload_n 0, 1) := by decide +kernel
theorem d_M_findLevel_143 : decode c_M_findLevel 143 = .ok (.getfield 96, 3) := by decide +kernel
theorem d_M_findLevel_146 : decode c_M_findLevel 146 = .ok (.if_icmp .le 27, 3) := by decide +kernel
theorem d_M_findLevel_149 : decode c_M_findLevel 149 = .ok (.goto 15, 3) := by decide +kernel
theorem d_M_findLevel_152 : decode c_M_findLevel 152 = .ok (.iload 6, 2) := by decide +kernel
theorem d_M_findLevel_154 : decode c_M_findLevel 154 = .ok (.iload 5, 2) := by decide +kernel
theorem d_M_findLevel_156 : decode c_M_findLevel 156 = .ok (.isub, 1) := by decide +kernel
theorem d_M_findLevel_157 : decode c_M_findLevel 157 = .ok (.aload_n 0, 1) := by decide +kernel
theorem d_M_findLevel_158 : decode c_M_findLevel 158 = .ok (.getfield 96, 3) := by decide +kernel
theorem d_M_findLevel_161 : decode c_M_findLevel 161 = .ok (.if_icmp .ge 12, 3) := by decide +kernel
theorem d_M_findLevel_164 : decode c_M_findLevel 164 = .ok (.aload_n 0, 1) := by decide +kernel
theorem d_M_findLevel_165 : decode c_M_findLevel 165 = .ok (.iload 6, 2) := by decide +kernel
theorem d_M_findLevel_167 : decode c_M_findLevel 167 = .ok (.iload 5, 2) := by decide +kernel
theorem d_M_findLevel_169 : decode c_M_findLevel 169 = .ok (.isub, 1) := by decide +kernel
theorem d_M_findLevel_170 : decode c_M_findLevel 170 = .ok (.putfield 96, 3) := by decide +kernel
theorem d_M_findLevel_173 : decode c_M_findLevel 173 = .ok (.iinc 6 1, 3) := by decide +kernel
theorem d_M_findLevel_176 : decode c_M_findLevel 176 = .ok (.goto (-69), 3) := by decide +kernel
theorem d_M_findLevel_179 : decode c_M_findLevel 179 = .ok (.iinc 5 1, 3) := by decide +kernel
theorem d_M_findLevel_182 : decode c_M_findLevel 182 = .ok (.goto (-84), 3) := by decide +kernel
theorem d_M_findLevel_185 : decode c_M_findLevel 185 = .ok (.iconst 1, 1) := by decide +kernel
theorem d_M_findLevel_186 : decode c_M_findLevel 186 = .ok (.ireturn, 1) := by decide +kernel
theorem d_M_level_0 : decode c_M_level 0 = .ok (.aload_n 0, 1) := by decide +kernel
theorem d_M_level_1 : decode c_M_level 1 = .ok (.iload_n 1, 1) := by decide +kernel
theorem d_M_level_2 : decode c_M_level 2 = .ok (.lload_n 2, 1) := by decide +kernel
theorem d_M_level_3 : decode c_M_level 3 = .ok (.invokevirtual 99, 3) := by decide +kernel
theorem d_M_level_6 : decode c_M_level 6 = .ok (.ifCond .eq 10, 3) := by decide +kernel
theorem d_M_level_9 : decode c_M_level 9 = .ok (.aload_n 0, 1) := by decide +kernel
theorem d_M_level_10 : decode c_M_level 10 = .ok (.getfield 96, 3) := by decide +kernel
theorem d_M_level_13 : decode c_M_level 13 = .ok (.goto 4, 3) := by decide +kernel
theorem d_M_level_16 : decode c_M_level 16 = .ok (.iconst 0, 1) := by decide +kernel
theorem d_M_level_17 : decode c_M_level 17 = .ok (.ireturn, 1) := by decide +kernel
theorem d_M_localAt_0 : decode c_M_localAt 0 = .ok (.aload_n 0, 1) := by decide +kernel
theorem d_M_localAt_1 : decode c_M_localAt 1 = .ok (.getfield 96, 3) := by decide +kernel
theorem d_M_localAt_4 : decode c_M_localAt 4 = .ok (.iload_n 1, 1) := by decide +kernel
theorem d_M_localAt_5 : decode c_M_localAt 5 = .ok (.iadd, 1) := by decide +kernel
theorem d_M_localAt_6 : decode c_M_localAt 6 = .ok (.i2l, 1) := by decide +kernel
theorem d_M_localAt_7 : decode c_M_localAt 7 = .ok (.lconst 0, 1) := by decide +kernel
theorem d_M_localAt_8 : decode c_M_localAt 8 = .ok (.ldc2_w 55, 3) := by decide +kernel
theorem d_M_localAt_11 : decode c_M_localAt 11 = .ok (.invokestatic 51, 3) := by decide +kernel
theorem d_M_localAt_14 : decode c_M_localAt 14 = .ok (.ifCond .eq 21, 3) := by decide +kernel
theorem d_M_localAt_17 : decode c_M_localAt 17 = .ok (.aload_n 0, 1) := by decide +kernel
theorem d_M_localAt_18 : decode c_M_localAt 18 = .ok (.getfield 19, 3) := by decide +kernel
theorem d_M_localAt_21 : decode c_M_localAt 21 = .ok (.iconst 5, 1) := by decide +kernel
theorem d_M_localAt_22 : decode c_M_localAt 22 = .ok (.iload_n 1, 1) := by decide +kernel
theorem d_M_localAt_23 : decode c_M_localAt 23 = .ok (.imul, 1) := by decide +kernel
theorem d_M_localAt_24 : decode c_M_localAt 24 = .ok (.aload_n 0, 1) := by decide +kernel
theorem d_M_localAt_25 : decode c_M_localAt 25 = .ok (.getfield 96, 3) := by decide +kernel
theorem d_M_localAt_28 : decode c_M_localAt 28 = .ok (.iadd, 1) := by decide +kernel
theorem d_M_localAt_29 : decode c_M_localAt 29 = .ok (.iload_n 1, 1) := by decide +kernel
theorem d_M_localAt_30 : decode c_M_localAt 30 = .ok (.iadd, 1) := by decide +kernel
theorem d_M_localAt_31 : decode c_M_localAt 31 = .ok (.laload, 1) := by decide +kernel
theorem d_M_localAt_32 : decode c_M_localAt 32 = .ok (.goto 4, 3) := by decide +kernel
theorem d_M_localAt_35 : decode c_M_localAt 35 = .ok (.lconst 0, 1) := by decide +kernel
theorem d_M_localAt_36 : decode c_M_localAt 36 = .ok (.lreturn, 1) := by decide +kernel
theorem d_M_regular_0 : decode c_M_regular 0 = .ok (.aload_n 0, 1) := by decide +kernel
theorem d_M_regular_1 : decode c_M_regular 1 = .ok (.iload_n 1, 1) := by decide +kernel
theorem d_M_regular_2 : decode c_M_regular 2 = .ok (.lload_n 2, 1) := by decide +kernel
theorem d_M_regular_3 : decode c_M_regular 3 = .ok (.invokevirtual 99, 3) := by decide +kernel
theorem d_M_regular_6 : decode c_M_regular 6 = .ok (.ifCond .eq 20, 3) := by decide +kernel
theorem d_M_regular_9 : decode c_M_regular 9 = .ok (.aload_n 0, 1) := by decide +kernel
theorem d_M_regular_10 : decode c_M_regular 10 = .ok (.aload_n 0, 1) := by decide +kernel
theorem d_M_regular_11 : decode c_M_regular 11 = .ok (.getfield 38, 3) := by decide +kernel
theorem d_M_regular_14 : decode c_M_regular 14 = .ok (.invokevirtual 103, 3) := by decide +kernel
theorem d_M_regular_17 : decode c_M_regular 17 = .ok (.lconst 0, 1) := by decide +kernel
theorem d_M_regular_18 : decode c_M_regular 18 = .ok (.lcmp, 1) := by decide +kernel
theorem d_M_regular_19 : decode c_M_regular 19 = .ok (.ifCond .eq 7, 3) := by decide +kernel
theorem d_M_regular_22 : decode c_M_regular 22 = .ok (.iconst 1, 1) := by decide +kernel
theorem d_M_regular_23 : decode c_M_regular 23 = .ok (.goto 4, 3) := by decide +kernel
theorem d_M_regular_26 : decode c_M_regular 26 = .ok (.iconst 0, 1) := by decide +kernel
theorem d_M_regular_27 : decode c_M_regular 27 = .ok (.ireturn, 1) := by decide +kernel
theorem d_M_exponent_0 : decode c_M_exponent 0 = .ok (.aload_n 0, 1) := by decide +kernel
theorem d_M_exponent_1 : decode c_M_exponent 1 = .ok (.iload_n 1, 1) := by decide +kernel
theorem d_M_exponent_2 : decode c_M_exponent 2 = .ok (.lload_n 2, 1) := by decide +kernel
theorem d_M_exponent_3 : decode c_M_exponent 3 = .ok (.invokevirtual 99, 3) := by decide +kernel
theorem d_M_exponent_6 : decode c_M_exponent 6 = .ok (.ifCond .ne 5, 3) := by decide +kernel
theorem d_M_exponent_9 : decode c_M_exponent 9 = .ok (.iconst 0, 1) := by decide +kernel
theorem d_M_exponent_10 : decode c_M_exponent 10 = .ok (.ireturn, 1) := by decide +kernel
theorem d_M_exponent_11 : decode c_M_exponent 11 = .ok (.iconst 0, 1) := by decide +kernel
theorem d_M_exponent_12 : decode c_M_exponent 12 = .ok (.istore 5, 2) := by decide +kernel
theorem d_M_exponent_14 : decode c_M_exponent 14 = .ok (.iconst 0, 1) := by decide +kernel
theorem d_M_exponent_15 : decode c_M_exponent 15 = .ok (.istore 6, 2) := by decide +kernel
theorem d_M_exponent_17 : decode c_M_exponent 17 = .ok (.iload 6, 2) := by decide +kernel
theorem d_M_exponent_19 : decode c_M_exponent 19 = .ok (.sipush 32003, 3) := by decide +kernel
theorem d_M_exponent_22 : decode c_M_exponent 22 = .ok (.if_icmp .ge 82, 3) := by decide +kernel
theorem d_M_exponent_25 : decode c_M_exponent 25 = .ok (.iload 4, 2) := by decide +kernel
theorem d_M_exponent_27 : decode c_M_exponent 27 = .ok (.ifCond .lt 77, 3) := by decide +kernel
theorem d_M_exponent_30 : decode c_M_exponent 30 = .ok (.lconst 0, 1) := by decide +kernel
theorem d_M_exponent_31 : decode c_M_exponent 31 = .ok (.lstore 7, 2) := by decide +kernel
theorem d_M_exponent_33 : decode c_M_exponent 33 = .ok (.iconst 0, 1) := by decide +kernel
theorem d_M_exponent_34 : decode c_M_exponent 34 = .ok (.istore 9, 2) := by decide +kernel
theorem d_M_exponent_36 : decode c_M_exponent 36 = .ok (.iload 9, 2) := by decide +kernel
theorem d_M_exponent_38 : decode c_M_exponent 38 = .ok (.aload_n 0, 1) := by decide +kernel
theorem d_M_exponent_39 : decode c_M_exponent 39 = .ok (.getfield 38, 3) := by decide +kernel
theorem d_M_exponent_42 : decode c_M_exponent 42 = .ok (.if_icmp .gt 33, 3) := by decide +kernel
theorem d_M_exponent_45 : decode c_M_exponent 45 = .ok (.lload 7, 2) := by decide +kernel
theorem d_M_exponent_47 : decode c_M_exponent 47 = .ok (.aload_n 0, 1) := by decide +kernel
theorem d_M_exponent_48 : decode c_M_exponent 48 = .ok (.iload 9, 2) := by decide +kernel
theorem d_M_exponent_50 : decode c_M_exponent 50 = .ok (.invokevirtual 103, 3) := by decide +kernel
theorem d_M_exponent_53 : decode c_M_exponent 53 = .ok (.iload 6, 2) := by decide +kernel
theorem d_M_exponent_55 : decode c_M_exponent 55 = .ok (.i2l, 1) := by decide +kernel
theorem d_M_exponent_56 : decode c_M_exponent 56 = .ok (.iload 9, 2) := by decide +kernel
theorem d_M_exponent_58 : decode c_M_exponent 58 = .ok (.invokestatic 67, 3) := by decide +kernel
theorem d_M_exponent_61 : decode c_M_exponent 61 = .ok (.lmul, 1) := by decide +kernel
theorem d_M_exponent_62 : decode c_M_exponent 62 = .ok (.ladd, 1) := by decide +kernel
theorem d_M_exponent_63 : decode c_M_exponent 63 = .ok (.ldc2_w 45, 3) := by decide +kernel
theorem d_M_exponent_66 : decode c_M_exponent 66 = .ok (.lrem, 1) := by decide +kernel
theorem d_M_exponent_67 : decode c_M_exponent 67 = .ok (.lstore 7, 2) := by decide +kernel
theorem d_M_exponent_69 : decode c_M_exponent 69 = .ok (.iinc 9 1, 3) := by decide +kernel
theorem d_M_exponent_72 : decode c_M_exponent 72 = .ok (.goto (-36), 3) := by decide +kernel
theorem d_M_exponent_75 : decode c_M_exponent 75 = .ok (.lload 7, 2) := by decide +kernel
theorem d_M_exponent_77 : decode c_M_exponent 77 = .ok (.lconst 0, 1) := by decide +kernel
theorem d_M_exponent_78 : decode c_M_exponent 78 = .ok (.lcmp, 1) := by decide +kernel
theorem d_M_exponent_79 : decode c_M_exponent 79 = .ok (.ifCond .eq 6, 3) := by decide +kernel
theorem d_M_exponent_82 : decode c_M_exponent 82 = .ok (.goto 16, 3) := by decide +kernel
theorem d_M_exponent_85 : decode c_M_exponent 85 = .ok (.iload 5, 2) := by decide +kernel
theorem d_M_exponent_87 : decode c_M_exponent 87 = .ok (.iload 4, 2) := by decide +kernel
theorem d_M_exponent_89 : decode c_M_exponent 89 = .ok (.if_icmp .ne 6, 3) := by decide +kernel
theorem d_M_exponent_92 : decode c_M_exponent 92 = .ok (.iload 6, 2) := by decide +kernel
theorem d_M_exponent_94 : decode c_M_exponent 94 = .ok (.ireturn, 1) := by decide +kernel
theorem d_M_exponent_95 : decode c_M_exponent 95 = .ok (.iinc 5 1, 3) := by decide +kernel
theorem d_M_exponent_98 : decode c_M_exponent 98 = .ok (.iinc 6 1, 3) := by decide +kernel
theorem d_M_exponent_101 : decode c_M_exponent 101 = .ok (.goto (-84), 3) := by decide +kernel
theorem d_M_exponent_104 : decode c_M_exponent 104 = .ok (.iconst (-1), 1) := by decide +kernel
theorem d_M_exponent_105 : decode c_M_exponent 105 = .ok (.ireturn, 1) := by decide +kernel
theorem d_M_findAnswers_0 : decode c_M_findAnswers 0 = .ok (.iconst 0, 1) := by decide +kernel
theorem d_M_findAnswers_1 : decode c_M_findAnswers 1 = .ok (.istore_n 1, 1) := by decide +kernel
theorem d_M_findAnswers_2 : decode c_M_findAnswers 2 = .ok (.iload_n 1, 1) := by decide +kernel
theorem d_M_findAnswers_3 : decode c_M_findAnswers 3 = .ok (.bipush 12, 2) := by decide +kernel
theorem d_M_findAnswers_5 : decode c_M_findAnswers 5 = .ok (.if_icmp .gt 67, 3) := by decide +kernel
theorem d_M_findAnswers_8 : decode c_M_findAnswers 8 = .ok (.iconst 0, 1) := by decide +kernel
theorem d_M_findAnswers_9 : decode c_M_findAnswers 9 = .ok (.istore_n 2, 1) := by decide +kernel
theorem d_M_findAnswers_10 : decode c_M_findAnswers 10 = .ok (.iload_n 2, 1) := by decide +kernel
theorem d_M_findAnswers_11 : decode c_M_findAnswers 11 = .ok (.bipush 17, 2) := by decide +kernel
theorem d_M_findAnswers_13 : decode c_M_findAnswers 13 = .ok (.if_icmp .ge 16, 3) := by decide +kernel
theorem d_M_findAnswers_16 : decode c_M_findAnswers 16 = .ok (.aload_n 0, 1) := by decide +kernel
theorem d_M_findAnswers_17 : decode c_M_findAnswers 17 = .ok (.getfield 16, 3) := by decide +kernel
theorem d_M_findAnswers_20 : decode c_M_findAnswers 20 = .ok (.iload_n 2, 1) := by decide +kernel
theorem d_M_findAnswers_21 : decode c_M_findAnswers 21 = .ok (.lconst 0, 1) := by decide +kernel
theorem d_M_findAnswers_22 : decode c_M_findAnswers 22 = .ok (.lastore, 1) := by decide +kernel
theorem d_M_findAnswers_23 : decode c_M_findAnswers 23 = .ok (.iinc 2 1, 3) := by decide +kernel
theorem d_M_findAnswers_26 : decode c_M_findAnswers 26 = .ok (.goto (-16), 3) := by decide +kernel
theorem d_M_findAnswers_29 : decode c_M_findAnswers 29 = .ok (.aload_n 0, 1) := by decide +kernel
theorem d_M_findAnswers_30 : decode c_M_findAnswers 30 = .ok (.iload_n 1, 1) := by decide +kernel
theorem d_M_findAnswers_31 : decode c_M_findAnswers 31 = .ok (.lconst 1, 1) := by decide +kernel
theorem d_M_findAnswers_32 : decode c_M_findAnswers 32 = .ok (.invokevirtual 73, 3) := by decide +kernel
theorem d_M_findAnswers_35 : decode c_M_findAnswers 35 = .ok (.iconst 0, 1) := by decide +kernel
theorem d_M_findAnswers_36 : decode c_M_findAnswers 36 = .ok (.istore_n 2, 1) := by decide +kernel
theorem d_M_findAnswers_37 : decode c_M_findAnswers 37 = .ok (.iload_n 2, 1) := by decide +kernel
theorem d_M_findAnswers_38 : decode c_M_findAnswers 38 = .ok (.bipush 17, 2) := by decide +kernel
theorem d_M_findAnswers_40 : decode c_M_findAnswers 40 = .ok (.if_icmp .ge 26, 3) := by decide +kernel
theorem d_M_findAnswers_43 : decode c_M_findAnswers 43 = .ok (.aload_n 0, 1) := by decide +kernel
theorem d_M_findAnswers_44 : decode c_M_findAnswers 44 = .ok (.getfield 22, 3) := by decide +kernel
theorem d_M_findAnswers_47 : decode c_M_findAnswers 47 = .ok (.bipush 13, 2) := by decide +kernel
theorem d_M_findAnswers_49 : decode c_M_findAnswers 49 = .ok (.iload_n 2, 1) := by decide +kernel
theorem d_M_findAnswers_50 : decode c_M_findAnswers 50 = .ok (.imul, 1) := by decide +kernel
theorem d_M_findAnswers_51 : decode c_M_findAnswers 51 = .ok (.iload_n 1, 1) := by decide +kernel
theorem d_M_findAnswers_52 : decode c_M_findAnswers 52 = .ok (.iadd, 1) := by decide +kernel
theorem d_M_findAnswers_53 : decode c_M_findAnswers 53 = .ok (.aload_n 0, 1) := by decide +kernel
theorem d_M_findAnswers_54 : decode c_M_findAnswers 54 = .ok (.getfield 16, 3) := by decide +kernel
theorem d_M_findAnswers_57 : decode c_M_findAnswers 57 = .ok (.iload_n 2, 1) := by decide +kernel
theorem d_M_findAnswers_58 : decode c_M_findAnswers 58 = .ok (.laload, 1) := by decide +kernel
theorem d_M_findAnswers_59 : decode c_M_findAnswers 59 = .ok (.lastore, 1) := by decide +kernel
theorem d_M_findAnswers_60 : decode c_M_findAnswers 60 = .ok (.iinc 2 1, 3) := by decide +kernel
theorem d_M_findAnswers_63 : decode c_M_findAnswers 63 = .ok (.goto (-26), 3) := by decide +kernel
theorem d_M_findAnswers_66 : decode c_M_findAnswers 66 = .ok (.iinc 1 1, 3) := by decide +kernel
theorem d_M_findAnswers_69 : decode c_M_findAnswers 69 = .ok (.goto (-67), 3) := by decide +kernel
theorem d_M_findAnswers_72 : decode c_M_findAnswers 72 = .ok (.iconst 0, 1) := by decide +kernel
theorem d_M_findAnswers_73 : decode c_M_findAnswers 73 = .ok (.istore_n 1, 1) := by decide +kernel
theorem d_M_findAnswers_74 : decode c_M_findAnswers 74 = .ok (.iconst 0, 1) := by decide +kernel
theorem d_M_findAnswers_75 : decode c_M_findAnswers 75 = .ok (.istore_n 2, 1) := by decide +kernel
theorem d_M_findAnswers_76 : decode c_M_findAnswers 76 = .ok (.iload_n 2, 1) := by decide +kernel
theorem d_M_findAnswers_77 : decode c_M_findAnswers 77 = .ok (.bipush 12, 2) := by decide +kernel
theorem d_M_findAnswers_79 : decode c_M_findAnswers 79 = .ok (.if_icmp .gt 75, 3) := by decide +kernel
theorem d_M_findAnswers_82 : decode c_M_findAnswers 82 = .ok (.iload_n 1, 1) := by decide +kernel
theorem d_M_findAnswers_83 : decode c_M_findAnswers 83 = .ok (.istore_n 3, 1) := by decide +kernel
theorem d_M_findAnswers_84 : decode c_M_findAnswers 84 = .ok (.iload_n 3, 1) := by decide +kernel
theorem d_M_findAnswers_85 : decode c_M_findAnswers 85 = .ok (.bipush 17, 2) := by decide +kernel
theorem d_M_findAnswers_87 : decode c_M_findAnswers 87 = .ok (.if_icmp .ge 25, 3) := by decide +kernel
theorem d_M_findAnswers_90 : decode c_M_findAnswers 90 = .ok (.aload_n 0, 1) := by decide +kernel
theorem d_M_findAnswers_91 : decode c_M_findAnswers 91 = .ok (.getfield 22, 3) := by decide +kernel
theorem d_M_findAnswers_94 : decode c_M_findAnswers 94 = .ok (.bipush 13, 2) := by decide +kernel
theorem d_M_findAnswers_96 : decode c_M_findAnswers 96 = .ok (.iload_n 3, 1) := by decide +kernel
theorem d_M_findAnswers_97 : decode c_M_findAnswers 97 = .ok (.imul, 1) := by decide +kernel
theorem d_M_findAnswers_98 : decode c_M_findAnswers 98 = .ok (.iload_n 2, 1) := by decide +kernel
theorem d_M_findAnswers_99 : decode c_M_findAnswers 99 = .ok (.iadd, 1) := by decide +kernel
theorem d_M_findAnswers_100 : decode c_M_findAnswers 100 = .ok (.laload, 1) := by decide +kernel
theorem d_M_findAnswers_101 : decode c_M_findAnswers 101 = .ok (.lconst 0, 1) := by decide +kernel
theorem d_M_findAnswers_102 : decode c_M_findAnswers 102 = .ok (.lcmp, 1) := by decide +kernel
theorem d_M_findAnswers_103 : decode c_M_findAnswers 103 = .ok (.ifCond .ne 9, 3) := by decide +kernel
theorem d_M_findAnswers_106 : decode c_M_findAnswers 106 = .ok (.iinc 3 1, 3) := by decide +kernel
theorem d_M_findAnswers_109 : decode c_M_findAnswers 109 = .ok (.goto (-25), 3) := by decide +kernel
theorem d_M_findAnswers_112 : decode c_M_findAnswers 112 = .ok (.aload_n 0, 1) := by decide +kernel
theorem d_M_findAnswers_113 : decode c_M_findAnswers 113 = .ok (.getfield 25, 3) := by decide +kernel
theorem d_M_findAnswers_116 : decode c_M_findAnswers 116 = .ok (.iload_n 2, 1) := by decide +kernel
theorem d_M_findAnswers_117 : decode c_M_findAnswers 117 = .ok (.iload_n 3, 1) := by decide +kernel
theorem d_M_findAnswers_118 : decode c_M_findAnswers 118 = .ok (.bipush 17, 2) := by decide +kernel
theorem d_M_findAnswers_120 : decode c_M_findAnswers 120 = .ok (.if_icmp .ne 7, 3) := by decide +kernel
theorem d_M_findAnswers_123 : decode c_M_findAnswers 123 = .ok (.iconst (-1), 1) := by decide +kernel
theorem d_M_findAnswers_124 : decode c_M_findAnswers 124 = .ok (.goto 4, 3) := by decide +kernel
theorem d_M_findAnswers_127 : decode c_M_findAnswers 127 = .ok (.iload_n 1, 1) := by decide +kernel
theorem d_M_findAnswers_128 : decode c_M_findAnswers 128 = .ok (.iastore, 1) := by decide +kernel
theorem d_M_findAnswers_129 : decode c_M_findAnswers 129 = .ok (.iload_n 3, 1) := by decide +kernel
theorem d_M_findAnswers_130 : decode c_M_findAnswers 130 = .ok (.bipush 17, 2) := by decide +kernel
theorem d_M_findAnswers_132 : decode c_M_findAnswers 132 = .ok (.if_icmp .ne 6, 3) := by decide +kernel
theorem d_M_findAnswers_135 : decode c_M_findAnswers 135 = .ok (.goto 13, 3) := by decide +kernel
theorem d_M_findAnswers_138 : decode c_M_findAnswers 138 = .ok (.aload_n 0, 1) := by decide +kernel
theorem d_M_findAnswers_139 : decode c_M_findAnswers 139 = .ok (.iload_n 1, 1) := by decide +kernel
theorem d_M_findAnswers_140 : decode c_M_findAnswers 140 = .ok (.iload_n 3, 1) := by decide +kernel
theorem d_M_findAnswers_141 : decode c_M_findAnswers 141 = .ok (.iload_n 2, 1) := by decide +kernel
theorem d_M_findAnswers_142 : decode c_M_findAnswers 142 = .ok (.invokevirtual 107, 3) := by decide +kernel
theorem d_M_findAnswers_145 : decode c_M_findAnswers 145 = .ok (.iinc 1 1, 3) := by decide +kernel
theorem d_M_findAnswers_148 : decode c_M_findAnswers 148 = .ok (.iinc 2 1, 3) := by decide +kernel
theorem d_M_findAnswers_151 : decode c_M_findAnswers 151 = .ok (.goto (-75), 3) := by decide +kernel
theorem d_M_findAnswers_154 : decode c_M_findAnswers 154 = .ok (.aload_n 0, 1) := by decide +kernel
theorem d_M_findAnswers_155 : decode c_M_findAnswers 155 = .ok (.iconst 0, 1) := by decide +kernel
theorem d_M_findAnswers_156 : decode c_M_findAnswers 156 = .ok (.putfield 111, 3) := by decide +kernel
theorem d_M_findAnswers_159 : decode c_M_findAnswers 159 = .ok (.bipush 12, 2) := by decide +kernel
theorem d_M_findAnswers_161 : decode c_M_findAnswers 161 = .ok (.istore_n 2, 1) := by decide +kernel
theorem d_M_findAnswers_162 : decode c_M_findAnswers 162 = .ok (.iload_n 2, 1) := by decide +kernel
theorem d_M_findAnswers_163 : decode c_M_findAnswers 163 = .ok (.ifCond .lt 103, 3) := by decide +kernel
theorem d_M_findAnswers_166 : decode c_M_findAnswers 166 = .ok (.aload_n 0, 1) := by decide +kernel
theorem d_M_findAnswers_167 : decode c_M_findAnswers 167 = .ok (.getfield 25, 3) := by decide +kernel
theorem d_M_findAnswers_170 : decode c_M_findAnswers 170 = .ok (.iload_n 2, 1) := by decide +kernel
theorem d_M_findAnswers_171 : decode c_M_findAnswers 171 = .ok (.iaload, 1) := by decide +kernel
theorem d_M_findAnswers_172 : decode c_M_findAnswers 172 = .ok (.iconst (-1), 1) := by decide +kernel
theorem d_M_findAnswers_173 : decode c_M_findAnswers 173 = .ok (.if_icmp .eq 6, 3) := by decide +kernel
theorem d_M_findAnswers_176 : decode c_M_findAnswers 176 = .ok (.goto 84, 3) := by decide +kernel
theorem d_M_findAnswers_179 : decode c_M_findAnswers 179 = .ok (.iconst 0, 1) := by decide +kernel
theorem d_M_findAnswers_180 : decode c_M_findAnswers 180 = .ok (.istore_n 3, 1) := by decide +kernel
theorem d_M_findAnswers_181 : decode c_M_findAnswers 181 = .ok (.iload_n 3, 1) := by decide +kernel
theorem d_M_findAnswers_182 : decode c_M_findAnswers 182 = .ok (.bipush 12, 2) := by decide +kernel
theorem d_M_findAnswers_184 : decode c_M_findAnswers 184 = .ok (.if_icmp .gt 66, 3) := by decide +kernel
theorem d_M_findAnswers_187 : decode c_M_findAnswers 187 = .ok (.aload_n 0, 1) := by decide +kernel
theorem d_M_findAnswers_188 : decode c_M_findAnswers 188 = .ok (.getfield 29, 3) := by decide +kernel
theorem d_M_findAnswers_191 : decode c_M_findAnswers 191 = .ok (.bipush 13, 2) := by decide +kernel
theorem d_M_findAnswers_193 : decode c_M_findAnswers 193 = .ok (.aload_n 0, 1) := by decide +kernel
theorem d_M_findAnswers_194 : decode c_M_findAnswers 194 = .ok (.getfield 111, 3) := by decide +kernel
theorem d_M_findAnswers_197 : decode c_M_findAnswers 197 = .ok (.imul, 1) := by decide +kernel
theorem d_M_findAnswers_198 : decode c_M_findAnswers 198 = .ok (.iload_n 3, 1) := by decide +kernel
theorem d_M_findAnswers_199 : decode c_M_findAnswers 199 = .ok (.iadd, 1) := by decide +kernel
theorem d_M_findAnswers_200 : decode c_M_findAnswers 200 = .ok (.iload_n 3, 1) := by decide +kernel
theorem d_M_findAnswers_201 : decode c_M_findAnswers 201 = .ok (.iload_n 2, 1) := by decide +kernel
theorem d_M_findAnswers_202 : decode c_M_findAnswers 202 = .ok (.if_icmp .ne 7, 3) := by decide +kernel
theorem d_M_findAnswers_205 : decode c_M_findAnswers 205 = .ok (.lconst 1, 1) := by decide +kernel
theorem d_M_findAnswers_206 : decode c_M_findAnswers 206 = .ok (.goto 37, 3) := by decide +kernel
theorem d_M_findAnswers_209 : decode c_M_findAnswers 209 = .ok (.aload_n 0, 1) := by decide +kernel
theorem d_M_findAnswers_210 : decode c_M_findAnswers 210 = .ok (.getfield 25, 3) := by decide +kernel
theorem d_M_findAnswers_213 : decode c_M_findAnswers 213 = .ok (.iload_n 3, 1) := by decide +kernel
theorem d_M_findAnswers_214 : decode c_M_findAnswers 214 = .ok (.iaload, 1) := by decide +kernel
theorem d_M_findAnswers_215 : decode c_M_findAnswers 215 = .ok (.iconst (-1), 1) := by decide +kernel
theorem d_M_findAnswers_216 : decode c_M_findAnswers 216 = .ok (.if_icmp .ne 7, 3) := by decide +kernel
theorem d_M_findAnswers_219 : decode c_M_findAnswers 219 = .ok (.lconst 0, 1) := by decide +kernel
theorem d_M_findAnswers_220 : decode c_M_findAnswers 220 = .ok (.goto 23, 3) := by decide +kernel
theorem d_M_findAnswers_223 : decode c_M_findAnswers 223 = .ok (.aload_n 0, 1) := by decide +kernel
theorem d_M_findAnswers_224 : decode c_M_findAnswers 224 = .ok (.getfield 22, 3) := by decide +kernel
theorem d_M_findAnswers_227 : decode c_M_findAnswers 227 = .ok (.bipush 13, 2) := by decide +kernel
theorem d_M_findAnswers_229 : decode c_M_findAnswers 229 = .ok (.aload_n 0, 1) := by decide +kernel
theorem d_M_findAnswers_230 : decode c_M_findAnswers 230 = .ok (.getfield 25, 3) := by decide +kernel
theorem d_M_findAnswers_233 : decode c_M_findAnswers 233 = .ok (.iload_n 3, 1) := by decide +kernel
theorem d_M_findAnswers_234 : decode c_M_findAnswers 234 = .ok (.iaload, 1) := by decide +kernel
theorem d_M_findAnswers_235 : decode c_M_findAnswers 235 = .ok (.imul, 1) := by decide +kernel
theorem d_M_findAnswers_236 : decode c_M_findAnswers 236 = .ok (.iload_n 2, 1) := by decide +kernel
theorem d_M_findAnswers_237 : decode c_M_findAnswers 237 = .ok (.iadd, 1) := by decide +kernel
theorem d_M_findAnswers_238 : decode c_M_findAnswers 238 = .ok (.laload, 1) := by decide +kernel
theorem d_M_findAnswers_239 : decode c_M_findAnswers 239 = .ok (.lneg, 1) := by decide +kernel
theorem d_M_findAnswers_240 : decode c_M_findAnswers 240 = .ok (.invokestatic 47, 3) := by decide +kernel
theorem d_M_findAnswers_243 : decode c_M_findAnswers 243 = .ok (.lastore, 1) := by decide +kernel
theorem d_M_findAnswers_244 : decode c_M_findAnswers 244 = .ok (.iinc 3 1, 3) := by decide +kernel
theorem d_M_findAnswers_247 : decode c_M_findAnswers 247 = .ok (.goto (-66), 3) := by decide +kernel
theorem d_M_findAnswers_250 : decode c_M_findAnswers 250 = .ok (.aload_n 0, 1) := by decide +kernel
theorem d_M_findAnswers_251 : decode c_M_findAnswers 251 = .ok (.dup, 1) := by decide +kernel
theorem d_M_findAnswers_252 : decode c_M_findAnswers 252 = .ok (.getfield 111, 3) := by decide +kernel
theorem d_M_findAnswers_255 : decode c_M_findAnswers 255 = .ok (.iconst 1, 1) := by decide +kernel
theorem d_M_findAnswers_256 : decode c_M_findAnswers 256 = .ok (.iadd, 1) := by decide +kernel
theorem d_M_findAnswers_257 : decode c_M_findAnswers 257 = .ok (.putfield 111, 3) := by decide +kernel
theorem d_M_findAnswers_260 : decode c_M_findAnswers 260 = .ok (.iinc 2 (-1), 3) := by decide +kernel
theorem d_M_findAnswers_263 : decode c_M_findAnswers 263 = .ok (.goto (-101), 3) := by decide +kernel
theorem d_M_findAnswers_266 : decode c_M_findAnswers 266 = .ok (.return_, 1) := by decide +kernel
theorem d_M_bringOut_0 : decode c_M_bringOut 0 = .ok (.iconst 0, 1) := by decide +kernel
theorem d_M_bringOut_1 : decode c_M_bringOut 1 = .ok (.istore 4, 2) := by decide +kernel
theorem d_M_bringOut_3 : decode c_M_bringOut 3 = .ok (.iload 4, 2) := by decide +kernel
theorem d_M_bringOut_5 : decode c_M_bringOut 5 = .ok (.bipush 12, 2) := by decide +kernel
theorem d_M_bringOut_7 : decode c_M_bringOut 7 = .ok (.if_icmp .gt 61, 3) := by decide +kernel
theorem d_M_bringOut_10 : decode c_M_bringOut 10 = .ok (.aload_n 0, 1) := by decide +kernel
theorem d_M_bringOut_11 : decode c_M_bringOut 11 = .ok (.getfield 22, 3) := by decide +kernel
theorem d_M_bringOut_14 : decode c_M_bringOut 14 = .ok (.bipush 13, 2) := by decide +kernel
theorem d_M_bringOut_16 : decode c_M_bringOut 16 = .ok (.iload_n 2, 1) := by decide +kernel
theorem d_M_bringOut_17 : decode c_M_bringOut 17 = .ok (.imul, 1) := by decide +kernel
theorem d_M_bringOut_18 : decode c_M_bringOut 18 = .ok (.iload 4, 2) := by decide +kernel
theorem d_M_bringOut_20 : decode c_M_bringOut 20 = .ok (.iadd, 1) := by decide +kernel
theorem d_M_bringOut_21 : decode c_M_bringOut 21 = .ok (.laload, 1) := by decide +kernel
theorem d_M_bringOut_22 : decode c_M_bringOut 22 = .ok (.lstore 5, 2) := by decide +kernel
theorem d_M_bringOut_24 : decode c_M_bringOut 24 = .ok (.aload_n 0, 1) := by decide +kernel
theorem d_M_bringOut_25 : decode c_M_bringOut 25 = .ok (.getfield 22, 3) := by decide +kernel
theorem d_M_bringOut_28 : decode c_M_bringOut 28 = .ok (.bipush 13, 2) := by decide +kernel
theorem d_M_bringOut_30 : decode c_M_bringOut 30 = .ok (.iload_n 2, 1) := by decide +kernel
theorem d_M_bringOut_31 : decode c_M_bringOut 31 = .ok (.imul, 1) := by decide +kernel
theorem d_M_bringOut_32 : decode c_M_bringOut 32 = .ok (.iload 4, 2) := by decide +kernel
theorem d_M_bringOut_34 : decode c_M_bringOut 34 = .ok (.iadd, 1) := by decide +kernel
theorem d_M_bringOut_35 : decode c_M_bringOut 35 = .ok (.aload_n 0, 1) := by decide +kernel
theorem d_M_bringOut_36 : decode c_M_bringOut 36 = .ok (.getfield 22, 3) := by decide +kernel
theorem d_M_bringOut_39 : decode c_M_bringOut 39 = .ok (.bipush 13, 2) := by decide +kernel
theorem d_M_bringOut_41 : decode c_M_bringOut 41 = .ok (.iload_n 1, 1) := by decide +kernel
theorem d_M_bringOut_42 : decode c_M_bringOut 42 = .ok (.imul, 1) := by decide +kernel
theorem d_M_bringOut_43 : decode c_M_bringOut 43 = .ok (.iload 4, 2) := by decide +kernel
theorem d_M_bringOut_45 : decode c_M_bringOut 45 = .ok (.iadd, 1) := by decide +kernel
theorem d_M_bringOut_46 : decode c_M_bringOut 46 = .ok (.laload, 1) := by decide +kernel
theorem d_M_bringOut_47 : decode c_M_bringOut 47 = .ok (.lastore, 1) := by decide +kernel
theorem d_M_bringOut_48 : decode c_M_bringOut 48 = .ok (.aload_n 0, 1) := by decide +kernel
theorem d_M_bringOut_49 : decode c_M_bringOut 49 = .ok (.getfield 22, 3) := by decide +kernel
theorem d_M_bringOut_52 : decode c_M_bringOut 52 = .ok (.bipush 13, 2) := by decide +kernel
theorem d_M_bringOut_54 : decode c_M_bringOut 54 = .ok (.iload_n 1, 1) := by decide +kernel
theorem d_M_bringOut_55 : decode c_M_bringOut 55 = .ok (.imul, 1) := by decide +kernel
theorem d_M_bringOut_56 : decode c_M_bringOut 56 = .ok (.iload 4, 2) := by decide +kernel
theorem d_M_bringOut_58 : decode c_M_bringOut 58 = .ok (.iadd, 1) := by decide +kernel
theorem d_M_bringOut_59 : decode c_M_bringOut 59 = .ok (.lload 5, 2) := by decide +kernel
theorem d_M_bringOut_61 : decode c_M_bringOut 61 = .ok (.lastore, 1) := by decide +kernel
theorem d_M_bringOut_62 : decode c_M_bringOut 62 = .ok (.iinc 4 1, 3) := by decide +kernel
theorem d_M_bringOut_65 : decode c_M_bringOut 65 = .ok (.goto (-62), 3) := by decide +kernel
theorem d_M_bringOut_68 : decode c_M_bringOut 68 = .ok (.aload_n 0, 1) := by decide +kernel
theorem d_M_bringOut_69 : decode c_M_bringOut 69 = .ok (.getfield 22, 3) := by decide +kernel
theorem d_M_bringOut_72 : decode c_M_bringOut 72 = .ok (.bipush 13, 2) := by decide +kernel
theorem d_M_bringOut_74 : decode c_M_bringOut 74 = .ok (.iload_n 1, 1) := by decide +kernel
theorem d_M_bringOut_75 : decode c_M_bringOut 75 = .ok (.imul, 1) := by decide +kernel
theorem d_M_bringOut_76 : decode c_M_bringOut 76 = .ok (.iload_n 3, 1) := by decide +kernel
theorem d_M_bringOut_77 : decode c_M_bringOut 77 = .ok (.iadd, 1) := by decide +kernel
theorem d_M_bringOut_78 : decode c_M_bringOut 78 = .ok (.laload, 1) := by decide +kernel
theorem d_M_bringOut_79 : decode c_M_bringOut 79 = .ok (.invokestatic 114, 3) := by decide +kernel
theorem d_M_bringOut_82 : decode c_M_bringOut 82 = .ok (.lstore 4, 2) := by decide +kernel
theorem d_M_bringOut_84 : decode c_M_bringOut 84 = .ok (.iconst 0, 1) := by decide +kernel
theorem d_M_bringOut_85 : decode c_M_bringOut 85 = .ok (.istore 6, 2) := by decide +kernel
theorem d_M_bringOut_87 : decode c_M_bringOut 87 = .ok (.iload 6, 2) := by decide +kernel
theorem d_M_bringOut_89 : decode c_M_bringOut 89 = .ok (.bipush 12, 2) := by decide +kernel
theorem d_M_bringOut_91 : decode c_M_bringOut 91 = .ok (.if_icmp .gt 40, 3) := by decide +kernel
theorem d_M_bringOut_94 : decode c_M_bringOut 94 = .ok (.aload_n 0, 1) := by decide +kernel
theorem d_M_bringOut_95 : decode c_M_bringOut 95 = .ok (.getfield 22, 3) := by decide +kernel
theorem d_M_bringOut_98 : decode c_M_bringOut 98 = .ok (.bipush 13, 2) := by decide +kernel
theorem d_M_bringOut_100 : decode c_M_bringOut 100 = .ok (.iload_n 1, 1) := by decide +kernel
theorem d_M_bringOut_101 : decode c_M_bringOut 101 = .ok (.imul, 1) := by decide +kernel
theorem d_M_bringOut_102 : decode c_M_bringOut 102 = .ok (.iload 6, 2) := by decide +kernel
theorem d_M_bringOut_104 : decode c_M_bringOut 104 = .ok (.iadd, 1) := by decide +kernel
theorem d_M_bringOut_105 : decode c_M_bringOut 105 = .ok (.aload_n 0, 1) := by decide +kernel
theorem d_M_bringOut_106 : decode c_M_bringOut 106 = .ok (.getfield 22, 3) := by decide +kernel
theorem d_M_bringOut_109 : decode c_M_bringOut 109 = .ok (.bipush 13, 2) := by decide +kernel
theorem d_M_bringOut_111 : decode c_M_bringOut 111 = .ok (.iload_n 1, 1) := by decide +kernel
theorem d_M_bringOut_112 : decode c_M_bringOut 112 = .ok (.imul, 1) := by decide +kernel
theorem d_M_bringOut_113 : decode c_M_bringOut 113 = .ok (.iload 6, 2) := by decide +kernel
theorem d_M_bringOut_115 : decode c_M_bringOut 115 = .ok (.iadd, 1) := by decide +kernel
theorem d_M_bringOut_116 : decode c_M_bringOut 116 = .ok (.laload, 1) := by decide +kernel
theorem d_M_bringOut_117 : decode c_M_bringOut 117 = .ok (.lload 4, 2) := by decide +kernel
theorem d_M_bringOut_119 : decode c_M_bringOut 119 = .ok (.lmul, 1) := by decide +kernel
theorem d_M_bringOut_120 : decode c_M_bringOut 120 = .ok (.ldc2_w 45, 3) := by decide +kernel
theorem d_M_bringOut_123 : decode c_M_bringOut 123 = .ok (.lrem, 1) := by decide +kernel
theorem d_M_bringOut_124 : decode c_M_bringOut 124 = .ok (.lastore, 1) := by decide +kernel
theorem d_M_bringOut_125 : decode c_M_bringOut 125 = .ok (.iinc 6 1, 3) := by decide +kernel
theorem d_M_bringOut_128 : decode c_M_bringOut 128 = .ok (.goto (-41), 3) := by decide +kernel
theorem d_M_bringOut_131 : decode c_M_bringOut 131 = .ok (.iconst 0, 1) := by decide +kernel
theorem d_M_bringOut_132 : decode c_M_bringOut 132 = .ok (.istore 6, 2) := by decide +kernel
theorem d_M_bringOut_134 : decode c_M_bringOut 134 = .ok (.iload 6, 2) := by decide +kernel
theorem d_M_bringOut_136 : decode c_M_bringOut 136 = .ok (.bipush 17, 2) := by decide +kernel
theorem d_M_bringOut_138 : decode c_M_bringOut 138 = .ok (.if_icmp .ge 101, 3) := by decide +kernel
theorem d_M_bringOut_141 : decode c_M_bringOut 141 = .ok (.iload 6, 2) := by decide +kernel
theorem d_M_bringOut_143 : decode c_M_bringOut 143 = .ok (.iload_n 1, 1) := by decide +kernel
theorem d_M_bringOut_144 : decode c_M_bringOut 144 = .ok (.if_icmp .ne 7, 3) := by decide +kernel
theorem d_M_bringOut_147 : decode c_M_bringOut 147 = .ok (.lconst 0, 1) := by decide +kernel
theorem d_M_bringOut_148 : decode c_M_bringOut 148 = .ok (.goto 15, 3) := by decide +kernel
theorem d_M_bringOut_151 : decode c_M_bringOut 151 = .ok (.aload_n 0, 1) := by decide +kernel
theorem d_M_bringOut_152 : decode c_M_bringOut 152 = .ok (.getfield 22, 3) := by decide +kernel
theorem d_M_bringOut_155 : decode c_M_bringOut 155 = .ok (.bipush 13, 2) := by decide +kernel
theorem d_M_bringOut_157 : decode c_M_bringOut 157 = .ok (.iload 6, 2) := by decide +kernel
theorem d_M_bringOut_159 : decode c_M_bringOut 159 = .ok (.imul, 1) := by decide +kernel
theorem d_M_bringOut_160 : decode c_M_bringOut 160 = .ok (.iload_n 3, 1) := by decide +kernel
theorem d_M_bringOut_161 : decode c_M_bringOut 161 = .ok (.iadd, 1) := by decide +kernel
theorem d_M_bringOut_162 : decode c_M_bringOut 162 = .ok (.laload, 1) := by decide +kernel
theorem d_M_bringOut_163 : decode c_M_bringOut 163 = .ok (.lstore 7, 2) := by decide +kernel
theorem d_M_bringOut_165 : decode c_M_bringOut 165 = .ok (.iconst 0, 1) := by decide +kernel
theorem d_M_bringOut_166 : decode c_M_bringOut 166 = .ok (.istore 9, 2) := by decide +kernel
theorem d_M_bringOut_168 : decode c_M_bringOut 168 = .ok (.iload 9, 2) := by decide +kernel
theorem d_M_bringOut_170 : decode c_M_bringOut 170 = .ok (.bipush 12, 2) := by decide +kernel
theorem d_M_bringOut_172 : decode c_M_bringOut 172 = .ok (.if_icmp .gt 61, 3) := by decide +kernel
theorem d_M_bringOut_175 : decode c_M_bringOut 175 = .ok (.lload 7, 2) := by decide +kernel
theorem d_M_bringOut_177 : decode c_M_bringOut 177 = .ok (.lconst 0, 1) := by decide +kernel
theorem d_M_bringOut_178 : decode c_M_bringOut 178 = .ok (.lcmp, 1) := by decide +kernel
theorem d_M_bringOut_179 : decode c_M_bringOut 179 = .ok (.ifCond .le 54, 3) := by decide +kernel
theorem d_M_bringOut_182 : decode c_M_bringOut 182 = .ok (.aload_n 0, 1) := by decide +kernel
theorem d_M_bringOut_183 : decode c_M_bringOut 183 = .ok (.getfield 22, 3) := by decide +kernel
theorem d_M_bringOut_186 : decode c_M_bringOut 186 = .ok (.bipush 13, 2) := by decide +kernel
theorem d_M_bringOut_188 : decode c_M_bringOut 188 = .ok (.iload 6, 2) := by decide +kernel
theorem d_M_bringOut_190 : decode c_M_bringOut 190 = .ok (.imul, 1) := by decide +kernel
theorem d_M_bringOut_191 : decode c_M_bringOut 191 = .ok (.iload 9, 2) := by decide +kernel
theorem d_M_bringOut_193 : decode c_M_bringOut 193 = .ok (.iadd, 1) := by decide +kernel
theorem d_M_bringOut_194 : decode c_M_bringOut 194 = .ok (.aload_n 0, 1) := by decide +kernel
theorem d_M_bringOut_195 : decode c_M_bringOut 195 = .ok (.getfield 22, 3) := by decide +kernel
theorem d_M_bringOut_198 : decode c_M_bringOut 198 = .ok (.bipush 13, 2) := by decide +kernel
theorem d_M_bringOut_200 : decode c_M_bringOut 200 = .ok (.iload 6, 2) := by decide +kernel
theorem d_M_bringOut_202 : decode c_M_bringOut 202 = .ok (.imul, 1) := by decide +kernel
theorem d_M_bringOut_203 : decode c_M_bringOut 203 = .ok (.iload 9, 2) := by decide +kernel
theorem d_M_bringOut_205 : decode c_M_bringOut 205 = .ok (.iadd, 1) := by decide +kernel
theorem d_M_bringOut_206 : decode c_M_bringOut 206 = .ok (.laload, 1) := by decide +kernel
theorem d_M_bringOut_207 : decode c_M_bringOut 207 = .ok (.lload 7, 2) := by decide +kernel
theorem d_M_bringOut_209 : decode c_M_bringOut 209 = .ok (.aload_n 0, 1) := by decide +kernel
theorem d_M_bringOut_210 : decode c_M_bringOut 210 = .ok (.getfield 22, 3) := by decide +kernel
theorem d_M_bringOut_213 : decode c_M_bringOut 213 = .ok (.bipush 13, 2) := by decide +kernel
theorem d_M_bringOut_215 : decode c_M_bringOut 215 = .ok (.iload_n 1, 1) := by decide +kernel
theorem d_M_bringOut_216 : decode c_M_bringOut 216 = .ok (.imul, 1) := by decide +kernel
theorem d_M_bringOut_217 : decode c_M_bringOut 217 = .ok (.iload 9, 2) := by decide +kernel
theorem d_M_bringOut_219 : decode c_M_bringOut 219 = .ok (.iadd, 1) := by decide +kernel
theorem d_M_bringOut_220 : decode c_M_bringOut 220 = .ok (.laload, 1) := by decide +kernel
theorem d_M_bringOut_221 : decode c_M_bringOut 221 = .ok (.lmul, 1) := by decide +kernel
theorem d_M_bringOut_222 : decode c_M_bringOut 222 = .ok (.lsub, 1) := by decide +kernel
theorem d_M_bringOut_223 : decode c_M_bringOut 223 = .ok (.invokestatic 47, 3) := by decide +kernel
theorem d_M_bringOut_226 : decode c_M_bringOut 226 = .ok (.lastore, 1) := by decide +kernel
theorem d_M_bringOut_227 : decode c_M_bringOut 227 = .ok (.iinc 9 1, 3) := by decide +kernel
theorem d_M_bringOut_230 : decode c_M_bringOut 230 = .ok (.goto (-62), 3) := by decide +kernel
theorem d_M_bringOut_233 : decode c_M_bringOut 233 = .ok (.iinc 6 1, 3) := by decide +kernel
theorem d_M_bringOut_236 : decode c_M_bringOut 236 = .ok (.goto (-102), 3) := by decide +kernel
theorem d_M_bringOut_239 : decode c_M_bringOut 239 = .ok (.return_, 1) := by decide +kernel
theorem d_M_answers_0 : decode c_M_answers 0 = .ok (.aload_n 0, 1) := by decide +kernel
theorem d_M_answers_1 : decode c_M_answers 1 = .ok (.iconst 0, 1) := by decide +kernel
theorem d_M_answers_2 : decode c_M_answers 2 = .ok (.putfield 42, 3) := by decide +kernel
theorem d_M_answers_5 : decode c_M_answers 5 = .ok (.aload_n 0, 1) := by decide +kernel
theorem d_M_answers_6 : decode c_M_answers 6 = .ok (.invokevirtual 117, 3) := by decide +kernel
theorem d_M_answers_9 : decode c_M_answers 9 = .ok (.aload_n 0, 1) := by decide +kernel
theorem d_M_answers_10 : decode c_M_answers 10 = .ok (.getfield 111, 3) := by decide +kernel
theorem d_M_answers_13 : decode c_M_answers 13 = .ok (.ireturn, 1) := by decide +kernel
theorem d_M_isMember_0 : decode c_M_isMember 0 = .ok (.aload_n 0, 1) := by decide +kernel
theorem d_M_isMember_1 : decode c_M_isMember 1 = .ok (.invokevirtual 117, 3) := by decide +kernel
theorem d_M_isMember_4 : decode c_M_isMember 4 = .ok (.aload_n 0, 1) := by decide +kernel
theorem d_M_isMember_5 : decode c_M_isMember 5 = .ok (.iload_n 1, 1) := by decide +kernel
theorem d_M_isMember_6 : decode c_M_isMember 6 = .ok (.i2l, 1) := by decide +kernel
theorem d_M_isMember_7 : decode c_M_isMember 7 = .ok (.lconst 0, 1) := by decide +kernel
theorem d_M_isMember_8 : decode c_M_isMember 8 = .ok (.aload_n 0, 1) := by decide +kernel
theorem d_M_isMember_9 : decode c_M_isMember 9 = .ok (.getfield 111, 3) := by decide +kernel
theorem d_M_isMember_12 : decode c_M_isMember 12 = .ok (.iconst 1, 1) := by decide +kernel
theorem d_M_isMember_13 : decode c_M_isMember 13 = .ok (.isub, 1) := by decide +kernel
theorem d_M_isMember_14 : decode c_M_isMember 14 = .ok (.i2l, 1) := by decide +kernel
theorem d_M_isMember_15 : decode c_M_isMember 15 = .ok (.invokestatic 51, 3) := by decide +kernel
theorem d_M_isMember_18 : decode c_M_isMember 18 = .ok (.ifCond .eq 19, 3) := by decide +kernel
theorem d_M_isMember_21 : decode c_M_isMember 21 = .ok (.iload_n 2, 1) := by decide +kernel
theorem d_M_isMember_22 : decode c_M_isMember 22 = .ok (.i2l, 1) := by decide +kernel
theorem d_M_isMember_23 : decode c_M_isMember 23 = .ok (.lconst 0, 1) := by decide +kernel
theorem d_M_isMember_24 : decode c_M_isMember 24 = .ok (.ldc2_w 71, 3) := by decide +kernel
theorem d_M_isMember_27 : decode c_M_isMember 27 = .ok (.invokestatic 51, 3) := by decide +kernel
theorem d_M_isMember_30 : decode c_M_isMember 30 = .ok (.ifCond .eq 7, 3) := by decide +kernel
theorem d_M_isMember_33 : decode c_M_isMember 33 = .ok (.iconst 0, 1) := by decide +kernel
theorem d_M_isMember_34 : decode c_M_isMember 34 = .ok (.goto 4, 3) := by decide +kernel
theorem d_M_isMember_37 : decode c_M_isMember 37 = .ok (.iconst 1, 1) := by decide +kernel
theorem d_M_isMember_38 : decode c_M_isMember 38 = .ok (.putfield 42, 3) := by decide +kernel
theorem d_M_isMember_41 : decode c_M_isMember 41 = .ok (.aload_n 0, 1) := by decide +kernel
theorem d_M_isMember_42 : decode c_M_isMember 42 = .ok (.getfield 42, 3) := by decide +kernel
theorem d_M_isMember_45 : decode c_M_isMember 45 = .ok (.ifCond .ne 7, 3) := by decide +kernel
theorem d_M_isMember_48 : decode c_M_isMember 48 = .ok (.iconst 1, 1) := by decide +kernel
theorem d_M_isMember_49 : decode c_M_isMember 49 = .ok (.goto 4, 3) := by decide +kernel
theorem d_M_isMember_52 : decode c_M_isMember 52 = .ok (.iconst 0, 1) := by decide +kernel
theorem d_M_isMember_53 : decode c_M_isMember 53 = .ok (.ireturn, 1) := by decide +kernel
theorem d_M_answer_0 : decode c_M_answer 0 = .ok (.aload_n 0, 1) := by decide +kernel
theorem d_M_answer_1 : decode c_M_answer 1 = .ok (.iload_n 1, 1) := by decide +kernel
theorem d_M_answer_2 : decode c_M_answer 2 = .ok (.iload_n 2, 1) := by decide +kernel
theorem d_M_answer_3 : decode c_M_answer 3 = .ok (.invokevirtual 120, 3) := by decide +kernel
theorem d_M_answer_6 : decode c_M_answer 6 = .ok (.ifCond .eq 18, 3) := by decide +kernel
theorem d_M_answer_9 : decode c_M_answer 9 = .ok (.aload_n 0, 1) := by decide +kernel
theorem d_M_answer_10 : decode c_M_answer 10 = .ok (.getfield 29, 3) := by decide +kernel
theorem d_M_answer_13 : decode c_M_answer 13 = .ok (.bipush 13, 2) := by decide +kernel
theorem d_M_answer_15 : decode c_M_answer 15 = .ok (.iload_n 1, 1) := by decide +kernel
theorem d_M_answer_16 : decode c_M_answer 16 = .ok (.imul, 1) := by decide +kernel
theorem d_M_answer_17 : decode c_M_answer 17 = .ok (.iload_n 2, 1) := by decide +kernel
theorem d_M_answer_18 : decode c_M_answer 18 = .ok (.iadd, 1) := by decide +kernel
theorem d_M_answer_19 : decode c_M_answer 19 = .ok (.laload, 1) := by decide +kernel
theorem d_M_answer_20 : decode c_M_answer 20 = .ok (.l2i, 1) := by decide +kernel
theorem d_M_answer_21 : decode c_M_answer 21 = .ok (.goto 4, 3) := by decide +kernel
theorem d_M_answer_24 : decode c_M_answer 24 = .ok (.iconst 0, 1) := by decide +kernel
theorem d_M_answer_25 : decode c_M_answer 25 = .ok (.ireturn, 1) := by decide +kernel
theorem d_M_take_0 : decode c_M_take 0 = .ok (.aload_n 0, 1) := by decide +kernel
theorem d_M_take_1 : decode c_M_take 1 = .ok (.iload_n 1, 1) := by decide +kernel
theorem d_M_take_2 : decode c_M_take 2 = .ok (.iconst 0, 1) := by decide +kernel
theorem d_M_take_3 : decode c_M_take 3 = .ok (.invokevirtual 120, 3) := by decide +kernel
theorem d_M_take_6 : decode c_M_take 6 = .ok (.ifCond .ne 4, 3) := by decide +kernel
theorem d_M_take_9 : decode c_M_take 9 = .ok (.return_, 1) := by decide +kernel
theorem d_M_take_10 : decode c_M_take 10 = .ok (.iconst 0, 1) := by decide +kernel
theorem d_M_take_11 : decode c_M_take 11 = .ok (.istore_n 2, 1) := by decide +kernel
theorem d_M_take_12 : decode c_M_take 12 = .ok (.iload_n 2, 1) := by decide +kernel
theorem d_M_take_13 : decode c_M_take 13 = .ok (.bipush 12, 2) := by decide +kernel
theorem d_M_take_15 : decode c_M_take 15 = .ok (.if_icmp .gt 26, 3) := by decide +kernel
theorem d_M_take_18 : decode c_M_take 18 = .ok (.aload_n 0, 1) := by decide +kernel
theorem d_M_take_19 : decode c_M_take 19 = .ok (.getfield 13, 3) := by decide +kernel
theorem d_M_take_22 : decode c_M_take 22 = .ok (.iload_n 2, 1) := by decide +kernel
theorem d_M_take_23 : decode c_M_take 23 = .ok (.aload_n 0, 1) := by decide +kernel
theorem d_M_take_24 : decode c_M_take 24 = .ok (.getfield 29, 3) := by decide +kernel
theorem d_M_take_27 : decode c_M_take 27 = .ok (.bipush 13, 2) := by decide +kernel
theorem d_M_take_29 : decode c_M_take 29 = .ok (.iload_n 1, 1) := by decide +kernel
theorem d_M_take_30 : decode c_M_take 30 = .ok (.imul, 1) := by decide +kernel
theorem d_M_take_31 : decode c_M_take 31 = .ok (.iload_n 2, 1) := by decide +kernel
theorem d_M_take_32 : decode c_M_take 32 = .ok (.iadd, 1) := by decide +kernel
theorem d_M_take_33 : decode c_M_take 33 = .ok (.laload, 1) := by decide +kernel
theorem d_M_take_34 : decode c_M_take 34 = .ok (.lastore, 1) := by decide +kernel
theorem d_M_take_35 : decode c_M_take 35 = .ok (.iinc 2 1, 3) := by decide +kernel
theorem d_M_take_38 : decode c_M_take 38 = .ok (.goto (-26), 3) := by decide +kernel
theorem d_M_take_41 : decode c_M_take 41 = .ok (.return_, 1) := by decide +kernel
theorem d_M_series_0 : decode c_M_series 0 = .ok (.iload 9, 2) := by decide +kernel
theorem d_M_series_2 : decode c_M_series 2 = .ok (.i2l, 1) := by decide +kernel
theorem d_M_series_3 : decode c_M_series 3 = .ok (.lconst 0, 1) := by decide +kernel
theorem d_M_series_4 : decode c_M_series 4 = .ok (.ldc2_w 123, 3) := by decide +kernel
theorem d_M_series_7 : decode c_M_series 7 = .ok (.invokestatic 51, 3) := by decide +kernel
theorem d_M_series_10 : decode c_M_series 10 = .ok (.ifCond .ne 9, 3) := by decide +kernel
theorem d_M_series_13 : decode c_M_series 13 = .ok (.aload_n 0, 1) := by decide +kernel
theorem d_M_series_14 : decode c_M_series 14 = .ok (.iconst 1, 1) := by decide +kernel
theorem d_M_series_15 : decode c_M_series 15 = .ok (.invokevirtual 93, 3) := by decide +kernel
theorem d_M_series_18 : decode c_M_series 18 = .ok (.ireturn, 1) := by decide +kernel
theorem d_M_series_19 : decode c_M_series 19 = .ok (.aload_n 0, 1) := by decide +kernel
theorem d_M_series_20 : decode c_M_series 20 = .ok (.lload_n 1, 1) := by decide +kernel
theorem d_M_series_21 : decode c_M_series 21 = .ok (.invokestatic 47, 3) := by decide +kernel
theorem d_M_series_24 : decode c_M_series 24 = .ok (.invokevirtual 61, 3) := by decide +kernel
theorem d_M_series_27 : decode c_M_series 27 = .ok (.aload_n 0, 1) := by decide +kernel
theorem d_M_series_28 : decode c_M_series 28 = .ok (.aload_n 0, 1) := by decide +kernel
theorem d_M_series_29 : decode c_M_series 29 = .ok (.getfield 19, 3) := by decide +kernel
theorem d_M_series_32 : decode c_M_series 32 = .ok (.iconst 5, 1) := by decide +kernel
theorem d_M_series_33 : decode c_M_series 33 = .ok (.aload_n 0, 1) := by decide +kernel
theorem d_M_series_34 : decode c_M_series 34 = .ok (.getfield 38, 3) := by decide +kernel
theorem d_M_series_37 : decode c_M_series 37 = .ok (.imul, 1) := by decide +kernel
theorem d_M_series_38 : decode c_M_series 38 = .ok (.laload, 1) := by decide +kernel
theorem d_M_series_39 : decode c_M_series 39 = .ok (.lconst 0, 1) := by decide +kernel
theorem d_M_series_40 : decode c_M_series 40 = .ok (.lcmp, 1) := by decide +kernel
theorem d_M_series_41 : decode c_M_series 41 = .ok (.ifCond .ne 7, 3) := by decide +kernel
theorem d_M_series_44 : decode c_M_series 44 = .ok (.iconst 2, 1) := by decide +kernel
theorem d_M_series_45 : decode c_M_series 45 = .ok (.goto 4, 3) := by decide +kernel
theorem d_M_series_48 : decode c_M_series 48 = .ok (.iconst 0, 1) := by decide +kernel
theorem d_M_series_49 : decode c_M_series 49 = .ok (.putfield 42, 3) := by decide +kernel
theorem d_M_series_52 : decode c_M_series 52 = .ok (.aload_n 0, 1) := by decide +kernel
theorem d_M_series_53 : decode c_M_series 53 = .ok (.getfield 42, 3) := by decide +kernel
theorem d_M_series_56 : decode c_M_series 56 = .ok (.ifCond .le 5, 3) := by decide +kernel
theorem d_M_series_59 : decode c_M_series 59 = .ok (.iconst 0, 1) := by decide +kernel
theorem d_M_series_60 : decode c_M_series 60 = .ok (.ireturn, 1) := by decide +kernel
theorem d_M_series_61 : decode c_M_series 61 = .ok (.aload_n 0, 1) := by decide +kernel
theorem d_M_series_62 : decode c_M_series 62 = .ok (.getfield 32, 3) := by decide +kernel
theorem d_M_series_65 : decode c_M_series 65 = .ok (.iconst 0, 1) := by decide +kernel
theorem d_M_series_66 : decode c_M_series 66 = .ok (.lload_n 3, 1) := by decide +kernel
theorem d_M_series_67 : decode c_M_series 67 = .ok (.invokestatic 47, 3) := by decide +kernel
theorem d_M_series_70 : decode c_M_series 70 = .ok (.lastore, 1) := by decide +kernel
theorem d_M_series_71 : decode c_M_series 71 = .ok (.aload_n 0, 1) := by decide +kernel
theorem d_M_series_72 : decode c_M_series 72 = .ok (.getfield 32, 3) := by decide +kernel
theorem d_M_series_75 : decode c_M_series 75 = .ok (.iconst 1, 1) := by decide +kernel
theorem d_M_series_76 : decode c_M_series 76 = .ok (.lload 5, 2) := by decide +kernel
theorem d_M_series_78 : decode c_M_series 78 = .ok (.invokestatic 47, 3) := by decide +kernel
theorem d_M_series_81 : decode c_M_series 81 = .ok (.lastore, 1) := by decide +kernel
theorem d_M_series_82 : decode c_M_series 82 = .ok (.aload_n 0, 1) := by decide +kernel
theorem d_M_series_83 : decode c_M_series 83 = .ok (.getfield 32, 3) := by decide +kernel
theorem d_M_series_86 : decode c_M_series 86 = .ok (.iconst 2, 1) := by decide +kernel
theorem d_M_series_87 : decode c_M_series 87 = .ok (.lload 7, 2) := by decide +kernel
theorem d_M_series_89 : decode c_M_series 89 = .ok (.invokestatic 47, 3) := by decide +kernel
theorem d_M_series_92 : decode c_M_series 92 = .ok (.lastore, 1) := by decide +kernel
theorem d_M_series_93 : decode c_M_series 93 = .ok (.aload_n 0, 1) := by decide +kernel
theorem d_M_series_94 : decode c_M_series 94 = .ok (.getfield 38, 3) := by decide +kernel
theorem d_M_series_97 : decode c_M_series 97 = .ok (.istore 10, 2) := by decide +kernel
theorem d_M_series_99 : decode c_M_series 99 = .ok (.iload 10, 2) := by decide +kernel
theorem d_M_series_101 : decode c_M_series 101 = .ok (.bipush 30, 2) := by decide +kernel
theorem d_M_series_103 : decode c_M_series 103 = .ok (.if_icmp .gt 171, 3) := by decide +kernel
theorem d_M_series_106 : decode c_M_series 106 = .ok (.lconst 0, 1) := by decide +kernel
theorem d_M_series_107 : decode c_M_series 107 = .ok (.lstore 11, 2) := by decide +kernel
theorem d_M_series_109 : decode c_M_series 109 = .ok (.aload_n 0, 1) := by decide +kernel
theorem d_M_series_110 : decode c_M_series 110 = .ok (.getfield 32, 3) := by decide +kernel
theorem d_M_series_113 : decode c_M_series 113 = .ok (.iload 10, 2) := by decide +kernel
theorem d_M_series_115 : decode c_M_series 115 = .ok (.lconst 0, 1) := by decide +kernel
theorem d_M_series_116 : decode c_M_series 116 = .ok (.lastore, 1) := by decide +kernel
theorem d_M_series_117 : decode c_M_series 117 = .ok (.iconst 0, 1) := by decide +kernel
theorem d_M_series_118 : decode c_M_series 118 = .ok (.istore 13, 2) := by decide +kernel
theorem d_M_series_120 : decode c_M_series 120 = .ok (.iload 13, 2) := by decide +kernel
theorem d_M_series_122 : decode c_M_series 122 = .ok (.aload_n 0, 1) := by decide +kernel
theorem d_M_series_123 : decode c_M_series 123 = .ok (.getfield 38, 3) := by decide +kernel
theorem d_M_series_126 : decode c_M_series 126 = .ok (.if_icmp .gt 95, 3) := by decide +kernel
theorem d_M_series_129 : decode c_M_series 129 = .ok (.iconst 0, 1) := by decide +kernel
theorem d_M_series_130 : decode c_M_series 130 = .ok (.istore 14, 2) := by decide +kernel
theorem d_M_series_132 : decode c_M_series 132 = .ok (.iload 14, 2) := by decide +kernel
theorem d_M_series_134 : decode c_M_series 134 = .ok (.iconst 5, 1) := by decide +kernel
theorem d_M_series_135 : decode c_M_series 135 = .ok (.if_icmp .ge 80, 3) := by decide +kernel
theorem d_M_series_138 : decode c_M_series 138 = .ok (.iload 10, 2) := by decide +kernel
theorem d_M_series_140 : decode c_M_series 140 = .ok (.aload_n 0, 1) := by decide +kernel
theorem d_M_series_141 : decode c_M_series 141 = .ok (.getfield 38, 3) := by decide +kernel
theorem d_M_series_144 : decode c_M_series 144 = .ok (.isub, 1) := by decide +kernel
theorem d_M_series_145 : decode c_M_series 145 = .ok (.iload 14, 2) := by decide +kernel
theorem d_M_series_147 : decode c_M_series 147 = .ok (.isub, 1) := by decide +kernel
theorem d_M_series_148 : decode c_M_series 148 = .ok (.iload 13, 2) := by decide +kernel
theorem d_M_series_150 : decode c_M_series 150 = .ok (.iadd, 1) := by decide +kernel
theorem d_M_series_151 : decode c_M_series 151 = .ok (.istore 15, 2) := by decide +kernel
theorem d_M_series_153 : decode c_M_series 153 = .ok (.iload 15, 2) := by decide +kernel
theorem d_M_series_155 : decode c_M_series 155 = .ok (.iload 13, 2) := by decide +kernel
theorem d_M_series_157 : decode c_M_series 157 = .ok (.if_icmp .lt 52, 3) := by decide +kernel
theorem d_M_series_160 : decode c_M_series 160 = .ok (.iload 15, 2) := by decide +kernel
theorem d_M_series_162 : decode c_M_series 162 = .ok (.iload 10, 2) := by decide +kernel
theorem d_M_series_164 : decode c_M_series 164 = .ok (.if_icmp .ge 45, 3) := by decide +kernel
theorem d_M_series_167 : decode c_M_series 167 = .ok (.lload 11, 2) := by decide +kernel
theorem d_M_series_169 : decode c_M_series 169 = .ok (.aload_n 0, 1) := by decide +kernel
theorem d_M_series_170 : decode c_M_series 170 = .ok (.getfield 19, 3) := by decide +kernel
theorem d_M_series_173 : decode c_M_series 173 = .ok (.iconst 5, 1) := by decide +kernel
theorem d_M_series_174 : decode c_M_series 174 = .ok (.iload 13, 2) := by decide +kernel
theorem d_M_series_176 : decode c_M_series 176 = .ok (.imul, 1) := by decide +kernel
theorem d_M_series_177 : decode c_M_series 177 = .ok (.iload 14, 2) := by decide +kernel
theorem d_M_series_179 : decode c_M_series 179 = .ok (.iadd, 1) := by decide +kernel
theorem d_M_series_180 : decode c_M_series 180 = .ok (.laload, 1) := by decide +kernel
theorem d_M_series_181 : decode c_M_series 181 = .ok (.iload 15, 2) := by decide +kernel
theorem d_M_series_183 : decode c_M_series 183 = .ok (.i2l, 1) := by decide +kernel
theorem d_M_series_184 : decode c_M_series 184 = .ok (.iload 13, 2) := by decide +kernel
theorem d_M_series_186 : decode c_M_series 186 = .ok (.invokestatic 67, 3) := by decide +kernel
theorem d_M_series_189 : decode c_M_series 189 = .ok (.lmul, 1) := by decide +kernel
theorem d_M_series_190 : decode c_M_series 190 = .ok (.ldc2_w 45, 3) := by decide +kernel
theorem d_M_series_193 : decode c_M_series 193 = .ok (.lrem, 1) := by decide +kernel
theorem d_M_series_194 : decode c_M_series 194 = .ok (.aload_n 0, 1) := by decide +kernel
theorem d_M_series_195 : decode c_M_series 195 = .ok (.getfield 32, 3) := by decide +kernel
theorem d_M_series_198 : decode c_M_series 198 = .ok (.iload 15, 2) := by decide +kernel
theorem d_M_series_200 : decode c_M_series 200 = .ok (.laload, 1) := by decide +kernel
theorem d_M_series_201 : decode c_M_series 201 = .ok (.lmul, 1) := by decide +kernel
theorem d_M_series_202 : decode c_M_series 202 = .ok (.ladd, 1) := by decide +kernel
theorem d_M_series_203 : decode c_M_series 203 = .ok (.ldc2_w 45, 3) := by decide +kernel
theorem d_M_series_206 : decode c_M_series 206 = .ok (.lrem, 1) := by decide +kernel
theorem d_M_series_207 : decode c_M_series 207 = .ok (.lstore 11, 2) := by decide +kernel
theorem d_M_series_209 : decode c_M_series 209 = .ok (.iinc 14 1, 3) := by decide +kernel
theorem d_M_series_212 : decode c_M_series 212 = .ok (.goto (-80), 3) := by decide +kernel
theorem d_M_series_215 : decode c_M_series 215 = .ok (.iinc 13 1, 3) := by decide +kernel
theorem d_M_series_218 : decode c_M_series 218 = .ok (.goto (-98), 3) := by decide +kernel
theorem d_M_series_221 : decode c_M_series 221 = .ok (.aload_n 0, 1) := by decide +kernel
theorem d_M_series_222 : decode c_M_series 222 = .ok (.getfield 32, 3) := by decide +kernel
theorem d_M_series_225 : decode c_M_series 225 = .ok (.iload 10, 2) := by decide +kernel
theorem d_M_series_227 : decode c_M_series 227 = .ok (.lload 11, 2) := by decide +kernel
theorem d_M_series_229 : decode c_M_series 229 = .ok (.lneg, 1) := by decide +kernel
theorem d_M_series_230 : decode c_M_series 230 = .ok (.invokestatic 47, 3) := by decide +kernel
theorem d_M_series_233 : decode c_M_series 233 = .ok (.aload_n 0, 1) := by decide +kernel
theorem d_M_series_234 : decode c_M_series 234 = .ok (.getfield 19, 3) := by decide +kernel
theorem d_M_series_237 : decode c_M_series 237 = .ok (.iconst 5, 1) := by decide +kernel
theorem d_M_series_238 : decode c_M_series 238 = .ok (.aload_n 0, 1) := by decide +kernel
theorem d_M_series_239 : decode c_M_series 239 = .ok (.getfield 38, 3) := by decide +kernel
theorem d_M_series_242 : decode c_M_series 242 = .ok (.imul, 1) := by decide +kernel
theorem d_M_series_243 : decode c_M_series 243 = .ok (.laload, 1) := by decide +kernel
theorem d_M_series_244 : decode c_M_series 244 = .ok (.iload 10, 2) := by decide +kernel
theorem d_M_series_246 : decode c_M_series 246 = .ok (.i2l, 1) := by decide +kernel
theorem d_M_series_247 : decode c_M_series 247 = .ok (.aload_n 0, 1) := by decide +kernel
theorem d_M_series_248 : decode c_M_series 248 = .ok (.getfield 38, 3) := by decide +kernel
theorem d_M_series_251 : decode c_M_series 251 = .ok (.invokestatic 67, 3) := by decide +kernel
theorem d_M_series_254 : decode c_M_series 254 = .ok (.lmul, 1) := by decide +kernel
theorem d_M_series_255 : decode c_M_series 255 = .ok (.ldc2_w 45, 3) := by decide +kernel
theorem d_M_series_258 : decode c_M_series 258 = .ok (.lrem, 1) := by decide +kernel
theorem d_M_series_259 : decode c_M_series 259 = .ok (.invokestatic 114, 3) := by decide +kernel
theorem d_M_series_262 : decode c_M_series 262 = .ok (.lmul, 1) := by decide +kernel
theorem d_M_series_263 : decode c_M_series 263 = .ok (.ldc2_w 45, 3) := by decide +kernel
theorem d_M_series_266 : decode c_M_series 266 = .ok (.lrem, 1) := by decide +kernel
theorem d_M_series_267 : decode c_M_series 267 = .ok (.lastore, 1) := by decide +kernel
theorem d_M_series_268 : decode c_M_series 268 = .ok (.iinc 10 1, 3) := by decide +kernel
theorem d_M_series_271 : decode c_M_series 271 = .ok (.goto (-172), 3) := by decide +kernel
theorem d_M_series_274 : decode c_M_series 274 = .ok (.aload_n 0, 1) := by decide +kernel
theorem d_M_series_275 : decode c_M_series 275 = .ok (.getfield 32, 3) := by decide +kernel
theorem d_M_series_278 : decode c_M_series 278 = .ok (.iload 9, 2) := by decide +kernel
theorem d_M_series_280 : decode c_M_series 280 = .ok (.laload, 1) := by decide +kernel
theorem d_M_series_281 : decode c_M_series 281 = .ok (.l2i, 1) := by decide +kernel
theorem d_M_series_282 : decode c_M_series 282 = .ok (.ireturn, 1) := by decide +kernel
