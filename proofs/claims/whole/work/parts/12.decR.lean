theorem d_R_init_0 : decode c_R_init 0 = .ok (.aload_n 0, 1) := by decide +kernel
theorem d_R_init_1 : decode c_R_init 1 = .ok (.invokespecial 3, 3) := by decide +kernel
theorem d_R_init_4 : decode c_R_init 4 = .ok (.aload_n 0, 1) := by decide +kernel
theorem d_R_init_5 : decode c_R_init 5 = .ok (.iconst 4, 1) := by decide +kernel
theorem d_R_init_6 : decode c_R_init 6 = .ok (.newarray .long, 2) := by decide +kernel
theorem d_R_init_8 : decode c_R_init 8 = .ok (.putfield 9, 3) := by decide +kernel
theorem d_R_init_11 : decode c_R_init 11 = .ok (.aload_n 0, 1) := by decide +kernel
theorem d_R_init_12 : decode c_R_init 12 = .ok (.iconst 0, 1) := by decide +kernel
theorem d_R_init_13 : decode c_R_init 13 = .ok (.putfield 15, 3) := by decide +kernel
theorem d_R_init_16 : decode c_R_init 16 = .ok (.aload_n 0, 1) := by decide +kernel
theorem d_R_init_17 : decode c_R_init 17 = .ok (.iconst 5, 1) := by decide +kernel
theorem d_R_init_18 : decode c_R_init 18 = .ok (.newarray .long, 2) := by decide +kernel
theorem d_R_init_20 : decode c_R_init 20 = .ok (.putfield 19, 3) := by decide +kernel
theorem d_R_init_23 : decode c_R_init 23 = .ok (.aload_n 0, 1) := by decide +kernel
theorem d_R_init_24 : decode c_R_init 24 = .ok (.iconst 5, 1) := by decide +kernel
theorem d_R_init_25 : decode c_R_init 25 = .ok (.newarray .long, 2) := by decide +kernel
theorem d_R_init_27 : decode c_R_init 27 = .ok (.putfield 22, 3) := by decide +kernel
theorem d_R_init_30 : decode c_R_init 30 = .ok (.aload_n 0, 1) := by decide +kernel
theorem d_R_init_31 : decode c_R_init 31 = .ok (.iconst 5, 1) := by decide +kernel
theorem d_R_init_32 : decode c_R_init 32 = .ok (.newarray .long, 2) := by decide +kernel
theorem d_R_init_34 : decode c_R_init 34 = .ok (.putfield 25, 3) := by decide +kernel
theorem d_R_init_37 : decode c_R_init 37 = .ok (.aload_n 0, 1) := by decide +kernel
theorem d_R_init_38 : decode c_R_init 38 = .ok (.bipush 8, 2) := by decide +kernel
theorem d_R_init_40 : decode c_R_init 40 = .ok (.newarray .long, 2) := by decide +kernel
theorem d_R_init_42 : decode c_R_init 42 = .ok (.putfield 28, 3) := by decide +kernel
theorem d_R_init_45 : decode c_R_init 45 = .ok (.aload_n 0, 1) := by decide +kernel
theorem d_R_init_46 : decode c_R_init 46 = .ok (.iconst 5, 1) := by decide +kernel
theorem d_R_init_47 : decode c_R_init 47 = .ok (.newarray .long, 2) := by decide +kernel
theorem d_R_init_49 : decode c_R_init 49 = .ok (.putfield 31, 3) := by decide +kernel
theorem d_R_init_52 : decode c_R_init 52 = .ok (.aload_n 0, 1) := by decide +kernel
theorem d_R_init_53 : decode c_R_init 53 = .ok (.iconst 5, 1) := by decide +kernel
theorem d_R_init_54 : decode c_R_init 54 = .ok (.newarray .long, 2) := by decide +kernel
theorem d_R_init_56 : decode c_R_init 56 = .ok (.putfield 34, 3) := by decide +kernel
theorem d_R_init_59 : decode c_R_init 59 = .ok (.return_, 1) := by decide +kernel
theorem d_R_howMany_0 : decode c_R_howMany 0 = .ok (.aload_n 0, 1) := by decide +kernel
theorem d_R_howMany_1 : decode c_R_howMany 1 = .ok (.getfield 15, 3) := by decide +kernel
theorem d_R_howMany_4 : decode c_R_howMany 4 = .ok (.ireturn, 1) := by decide +kernel
theorem d_R_orNone_0 : decode c_R_orNone 0 = .ok (.iload_n 1, 1) := by decide +kernel
theorem d_R_orNone_1 : decode c_R_orNone 1 = .ok (.ifCond .lt 11, 3) := by decide +kernel
theorem d_R_orNone_4 : decode c_R_orNone 4 = .ok (.iload_n 1, 1) := by decide +kernel
theorem d_R_orNone_5 : decode c_R_orNone 5 = .ok (.aload_n 0, 1) := by decide +kernel
theorem d_R_orNone_6 : decode c_R_orNone 6 = .ok (.getfield 15, 3) := by decide +kernel
theorem d_R_orNone_9 : decode c_R_orNone 9 = .ok (.if_icmp .lt 7, 3) := by decide +kernel
theorem d_R_orNone_12 : decode c_R_orNone 12 = .ok (.iconst (-1), 1) := by decide +kernel
theorem d_R_orNone_13 : decode c_R_orNone 13 = .ok (.goto 10, 3) := by decide +kernel
theorem d_R_orNone_16 : decode c_R_orNone 16 = .ok (.aload_n 0, 1) := by decide +kernel
theorem d_R_orNone_17 : decode c_R_orNone 17 = .ok (.getfield 9, 3) := by decide +kernel
theorem d_R_orNone_20 : decode c_R_orNone 20 = .ok (.iload_n 1, 1) := by decide +kernel
theorem d_R_orNone_21 : decode c_R_orNone 21 = .ok (.laload, 1) := by decide +kernel
theorem d_R_orNone_22 : decode c_R_orNone 22 = .ok (.l2i, 1) := by decide +kernel
theorem d_R_orNone_23 : decode c_R_orNone 23 = .ok (.ireturn, 1) := by decide +kernel
theorem d_R_find_0 : decode c_R_find 0 = .ok (.aload_n 0, 1) := by decide +kernel
theorem d_R_find_1 : decode c_R_find 1 = .ok (.iconst 0, 1) := by decide +kernel
theorem d_R_find_2 : decode c_R_find 2 = .ok (.putfield 15, 3) := by decide +kernel
theorem d_R_find_5 : decode c_R_find 5 = .ok (.aload_n 1, 1) := by decide +kernel
theorem d_R_find_6 : decode c_R_find 6 = .ok (.invokestatic 37, 3) := by decide +kernel
theorem d_R_find_9 : decode c_R_find 9 = .ok (.iconst 1, 1) := by decide +kernel
theorem d_R_find_10 : decode c_R_find 10 = .ok (.if_icmp .ge 4, 3) := by decide +kernel
theorem d_R_find_13 : decode c_R_find 13 = .ok (.return_, 1) := by decide +kernel
theorem d_R_find_14 : decode c_R_find 14 = .ok (.aload_n 1, 1) := by decide +kernel
theorem d_R_find_15 : decode c_R_find 15 = .ok (.aload_n 0, 1) := by decide +kernel
theorem d_R_find_16 : decode c_R_find 16 = .ok (.getfield 19, 3) := by decide +kernel
theorem d_R_find_19 : decode c_R_find 19 = .ok (.invokestatic 41, 3) := by decide +kernel
theorem d_R_find_22 : decode c_R_find 22 = .ok (.aload_n 0, 1) := by decide +kernel
theorem d_R_find_23 : decode c_R_find 23 = .ok (.getfield 19, 3) := by decide +kernel
theorem d_R_find_26 : decode c_R_find 26 = .ok (.invokestatic 45, 3) := by decide +kernel
theorem d_R_find_29 : decode c_R_find 29 = .ok (.aload_n 0, 1) := by decide +kernel
theorem d_R_find_30 : decode c_R_find 30 = .ok (.invokevirtual 49, 3) := by decide +kernel
theorem d_R_find_33 : decode c_R_find 33 = .ok (.aload_n 0, 1) := by decide +kernel
theorem d_R_find_34 : decode c_R_find 34 = .ok (.getfield 19, 3) := by decide +kernel
theorem d_R_find_37 : decode c_R_find 37 = .ok (.invokestatic 37, 3) := by decide +kernel
theorem d_R_find_40 : decode c_R_find 40 = .ok (.istore_n 2, 1) := by decide +kernel
theorem d_R_find_41 : decode c_R_find 41 = .ok (.iload_n 2, 1) := by decide +kernel
theorem d_R_find_42 : decode c_R_find 42 = .ok (.ifCond .le 24, 3) := by decide +kernel
theorem d_R_find_45 : decode c_R_find 45 = .ok (.aload_n 0, 1) := by decide +kernel
theorem d_R_find_46 : decode c_R_find 46 = .ok (.invokevirtual 52, 3) := by decide +kernel
theorem d_R_find_49 : decode c_R_find 49 = .ok (.lstore_n 3, 1) := by decide +kernel
theorem d_R_find_50 : decode c_R_find 50 = .ok (.aload_n 0, 1) := by decide +kernel
theorem d_R_find_51 : decode c_R_find 51 = .ok (.lload_n 3, 1) := by decide +kernel
theorem d_R_find_52 : decode c_R_find 52 = .ok (.invokevirtual 56, 3) := by decide +kernel
theorem d_R_find_55 : decode c_R_find 55 = .ok (.aload_n 0, 1) := by decide +kernel
theorem d_R_find_56 : decode c_R_find 56 = .ok (.lload_n 3, 1) := by decide +kernel
theorem d_R_find_57 : decode c_R_find 57 = .ok (.invokevirtual 60, 3) := by decide +kernel
theorem d_R_find_60 : decode c_R_find 60 = .ok (.iinc 2 (-1), 3) := by decide +kernel
theorem d_R_find_63 : decode c_R_find 63 = .ok (.goto (-22), 3) := by decide +kernel
theorem d_R_find_66 : decode c_R_find 66 = .ok (.return_, 1) := by decide +kernel
theorem d_R_keepRootsOnce_0 : decode c_R_keepRootsOnce 0 = .ok (.aload_n 0, 1) := by decide +kernel
theorem d_R_keepRootsOnce_1 : decode c_R_keepRootsOnce 1 = .ok (.lconst 0, 1) := by decide +kernel
theorem d_R_keepRootsOnce_2 : decode c_R_keepRootsOnce 2 = .ok (.sipush 32003, 3) := by decide +kernel
theorem d_R_keepRootsOnce_5 : decode c_R_keepRootsOnce 5 = .ok (.aload_n 0, 1) := by decide +kernel
theorem d_R_keepRootsOnce_6 : decode c_R_keepRootsOnce 6 = .ok (.getfield 19, 3) := by decide +kernel
theorem d_R_keepRootsOnce_9 : decode c_R_keepRootsOnce 9 = .ok (.invokevirtual 63, 3) := by decide +kernel
theorem d_R_keepRootsOnce_12 : decode c_R_keepRootsOnce 12 = .ok (.aload_n 0, 1) := by decide +kernel
theorem d_R_keepRootsOnce_13 : decode c_R_keepRootsOnce 13 = .ok (.getfield 25, 3) := by decide +kernel
theorem d_R_keepRootsOnce_16 : decode c_R_keepRootsOnce 16 = .ok (.iconst 1, 1) := by decide +kernel
theorem d_R_keepRootsOnce_17 : decode c_R_keepRootsOnce 17 = .ok (.aload_n 0, 1) := by decide +kernel
theorem d_R_keepRootsOnce_18 : decode c_R_keepRootsOnce 18 = .ok (.getfield 25, 3) := by decide +kernel
theorem d_R_keepRootsOnce_21 : decode c_R_keepRootsOnce 21 = .ok (.iconst 1, 1) := by decide +kernel
theorem d_R_keepRootsOnce_22 : decode c_R_keepRootsOnce 22 = .ok (.laload, 1) := by decide +kernel
theorem d_R_keepRootsOnce_23 : decode c_R_keepRootsOnce 23 = .ok (.lconst 1, 1) := by decide +kernel
theorem d_R_keepRootsOnce_24 : decode c_R_keepRootsOnce 24 = .ok (.lsub, 1) := by decide +kernel
theorem d_R_keepRootsOnce_25 : decode c_R_keepRootsOnce 25 = .ok (.invokestatic 67, 3) := by decide +kernel
theorem d_R_keepRootsOnce_28 : decode c_R_keepRootsOnce 28 = .ok (.lastore, 1) := by decide +kernel
theorem d_R_keepRootsOnce_29 : decode c_R_keepRootsOnce 29 = .ok (.aload_n 0, 1) := by decide +kernel
theorem d_R_keepRootsOnce_30 : decode c_R_keepRootsOnce 30 = .ok (.aload_n 0, 1) := by decide +kernel
theorem d_R_keepRootsOnce_31 : decode c_R_keepRootsOnce 31 = .ok (.getfield 19, 3) := by decide +kernel
theorem d_R_keepRootsOnce_34 : decode c_R_keepRootsOnce 34 = .ok (.invokevirtual 71, 3) := by decide +kernel
theorem d_R_keepRootsOnce_37 : decode c_R_keepRootsOnce 37 = .ok (.aload_n 0, 1) := by decide +kernel
theorem d_R_keepRootsOnce_38 : decode c_R_keepRootsOnce 38 = .ok (.getfield 19, 3) := by decide +kernel
theorem d_R_keepRootsOnce_41 : decode c_R_keepRootsOnce 41 = .ok (.invokestatic 41, 3) := by decide +kernel
theorem d_R_keepRootsOnce_44 : decode c_R_keepRootsOnce 44 = .ok (.return_, 1) := by decide +kernel
theorem d_R_oneRoot_0 : decode c_R_oneRoot 0 = .ok (.aload_n 0, 1) := by decide +kernel
theorem d_R_oneRoot_1 : decode c_R_oneRoot 1 = .ok (.getfield 19, 3) := by decide +kernel
theorem d_R_oneRoot_4 : decode c_R_oneRoot 4 = .ok (.aload_n 0, 1) := by decide +kernel
theorem d_R_oneRoot_5 : decode c_R_oneRoot 5 = .ok (.getfield 22, 3) := by decide +kernel
theorem d_R_oneRoot_8 : decode c_R_oneRoot 8 = .ok (.invokestatic 41, 3) := by decide +kernel
theorem d_R_oneRoot_11 : decode c_R_oneRoot 11 = .ok (.iconst 0, 1) := by decide +kernel
theorem d_R_oneRoot_12 : decode c_R_oneRoot 12 = .ok (.istore_n 1, 1) := by decide +kernel
theorem d_R_oneRoot_13 : decode c_R_oneRoot 13 = .ok (.iload_n 1, 1) := by decide +kernel
theorem d_R_oneRoot_14 : decode c_R_oneRoot 14 = .ok (.sipush 32003, 3) := by decide +kernel
theorem d_R_oneRoot_17 : decode c_R_oneRoot 17 = .ok (.if_icmp .ge 74, 3) := by decide +kernel
theorem d_R_oneRoot_20 : decode c_R_oneRoot 20 = .ok (.aload_n 0, 1) := by decide +kernel
theorem d_R_oneRoot_21 : decode c_R_oneRoot 21 = .ok (.getfield 22, 3) := by decide +kernel
theorem d_R_oneRoot_24 : decode c_R_oneRoot 24 = .ok (.invokestatic 37, 3) := by decide +kernel
theorem d_R_oneRoot_27 : decode c_R_oneRoot 27 = .ok (.iconst 1, 1) := by decide +kernel
theorem d_R_oneRoot_28 : decode c_R_oneRoot 28 = .ok (.if_icmp .le 63, 3) := by decide +kernel
theorem d_R_oneRoot_31 : decode c_R_oneRoot 31 = .ok (.aload_n 0, 1) := by decide +kernel
theorem d_R_oneRoot_32 : decode c_R_oneRoot 32 = .ok (.iload_n 1, 1) := by decide +kernel
theorem d_R_oneRoot_33 : decode c_R_oneRoot 33 = .ok (.i2l, 1) := by decide +kernel
theorem d_R_oneRoot_34 : decode c_R_oneRoot 34 = .ok (.sipush 16001, 3) := by decide +kernel
theorem d_R_oneRoot_37 : decode c_R_oneRoot 37 = .ok (.aload_n 0, 1) := by decide +kernel
theorem d_R_oneRoot_38 : decode c_R_oneRoot 38 = .ok (.getfield 22, 3) := by decide +kernel
theorem d_R_oneRoot_41 : decode c_R_oneRoot 41 = .ok (.invokevirtual 63, 3) := by decide +kernel
theorem d_R_oneRoot_44 : decode c_R_oneRoot 44 = .ok (.aload_n 0, 1) := by decide +kernel
theorem d_R_oneRoot_45 : decode c_R_oneRoot 45 = .ok (.getfield 25, 3) := by decide +kernel
theorem d_R_oneRoot_48 : decode c_R_oneRoot 48 = .ok (.iconst 0, 1) := by decide +kernel
theorem d_R_oneRoot_49 : decode c_R_oneRoot 49 = .ok (.aload_n 0, 1) := by decide +kernel
theorem d_R_oneRoot_50 : decode c_R_oneRoot 50 = .ok (.getfield 25, 3) := by decide +kernel
theorem d_R_oneRoot_53 : decode c_R_oneRoot 53 = .ok (.iconst 0, 1) := by decide +kernel
theorem d_R_oneRoot_54 : decode c_R_oneRoot 54 = .ok (.laload, 1) := by decide +kernel
theorem d_R_oneRoot_55 : decode c_R_oneRoot 55 = .ok (.lconst 1, 1) := by decide +kernel
theorem d_R_oneRoot_56 : decode c_R_oneRoot 56 = .ok (.lsub, 1) := by decide +kernel
theorem d_R_oneRoot_57 : decode c_R_oneRoot 57 = .ok (.invokestatic 67, 3) := by decide +kernel
theorem d_R_oneRoot_60 : decode c_R_oneRoot 60 = .ok (.lastore, 1) := by decide +kernel
theorem d_R_oneRoot_61 : decode c_R_oneRoot 61 = .ok (.aload_n 0, 1) := by decide +kernel
theorem d_R_oneRoot_62 : decode c_R_oneRoot 62 = .ok (.aload_n 0, 1) := by decide +kernel
theorem d_R_oneRoot_63 : decode c_R_oneRoot 63 = .ok (.getfield 22, 3) := by decide +kernel
theorem d_R_oneRoot_66 : decode c_R_oneRoot 66 = .ok (.invokevirtual 71, 3) := by decide +kernel
theorem d_R_oneRoot_69 : decode c_R_oneRoot 69 = .ok (.astore_n 2, 1) := by decide +kernel
theorem d_R_oneRoot_70 : decode c_R_oneRoot 70 = .ok (.aload_n 2, 1) := by decide +kernel
theorem d_R_oneRoot_71 : decode c_R_oneRoot 71 = .ok (.invokestatic 37, 3) := by decide +kernel
theorem d_R_oneRoot_74 : decode c_R_oneRoot 74 = .ok (.ifCond .le 11, 3) := by decide +kernel
theorem d_R_oneRoot_77 : decode c_R_oneRoot 77 = .ok (.aload_n 2, 1) := by decide +kernel
theorem d_R_oneRoot_78 : decode c_R_oneRoot 78 = .ok (.aload_n 0, 1) := by decide +kernel
theorem d_R_oneRoot_79 : decode c_R_oneRoot 79 = .ok (.getfield 22, 3) := by decide +kernel
theorem d_R_oneRoot_82 : decode c_R_oneRoot 82 = .ok (.invokestatic 41, 3) := by decide +kernel
theorem d_R_oneRoot_85 : decode c_R_oneRoot 85 = .ok (.iinc 1 1, 3) := by decide +kernel
theorem d_R_oneRoot_88 : decode c_R_oneRoot 88 = .ok (.goto (-75), 3) := by decide +kernel
theorem d_R_oneRoot_91 : decode c_R_oneRoot 91 = .ok (.aload_n 0, 1) := by decide +kernel
theorem d_R_oneRoot_92 : decode c_R_oneRoot 92 = .ok (.getfield 22, 3) := by decide +kernel
theorem d_R_oneRoot_95 : decode c_R_oneRoot 95 = .ok (.iconst 0, 1) := by decide +kernel
theorem d_R_oneRoot_96 : decode c_R_oneRoot 96 = .ok (.laload, 1) := by decide +kernel
theorem d_R_oneRoot_97 : decode c_R_oneRoot 97 = .ok (.lneg, 1) := by decide +kernel
theorem d_R_oneRoot_98 : decode c_R_oneRoot 98 = .ok (.invokestatic 67, 3) := by decide +kernel
theorem d_R_oneRoot_101 : decode c_R_oneRoot 101 = .ok (.lreturn, 1) := by decide +kernel
theorem d_R_insert_0 : decode c_R_insert 0 = .ok (.aload_n 0, 1) := by decide +kernel
theorem d_R_insert_1 : decode c_R_insert 1 = .ok (.getfield 15, 3) := by decide +kernel
theorem d_R_insert_4 : decode c_R_insert 4 = .ok (.aload_n 0, 1) := by decide +kernel
theorem d_R_insert_5 : decode c_R_insert 5 = .ok (.getfield 9, 3) := by decide +kernel
theorem d_R_insert_8 : decode c_R_insert 8 = .ok (.arraylength, 1) := by decide +kernel
theorem d_R_insert_9 : decode c_R_insert 9 = .ok (.if_icmp .lt 4, 3) := by decide +kernel
theorem d_R_insert_12 : decode c_R_insert 12 = .ok (.return_, 1) := by decide +kernel
theorem d_R_insert_13 : decode c_R_insert 13 = .ok (.aload_n 0, 1) := by decide +kernel
theorem d_R_insert_14 : decode c_R_insert 14 = .ok (.getfield 15, 3) := by decide +kernel
theorem d_R_insert_17 : decode c_R_insert 17 = .ok (.istore_n 3, 1) := by decide +kernel
theorem d_R_insert_18 : decode c_R_insert 18 = .ok (.iload_n 3, 1) := by decide +kernel
theorem d_R_insert_19 : decode c_R_insert 19 = .ok (.ifCond .le 36, 3) := by decide +kernel
theorem d_R_insert_22 : decode c_R_insert 22 = .ok (.aload_n 0, 1) := by decide +kernel
theorem d_R_insert_23 : decode c_R_insert 23 = .ok (.getfield 9, 3) := by decide +kernel
theorem d_R_insert_26 : decode c_R_insert 26 = .ok (.iload_n 3, 1) := by decide +kernel
theorem d_R_insert_27 : decode c_R_insert 27 = .ok (.iconst 1, 1) := by decide +kernel
theorem d_R_insert_28 : decode c_R_insert 28 = .ok (.isub, 1) := by decide +kernel
theorem d_R_insert_29 : decode c_R_insert 29 = .ok (.laload, 1) := by decide +kernel
theorem d_R_insert_30 : decode c_R_insert 30 = .ok (.lload_n 1, 1) := by decide +kernel
theorem d_R_insert_31 : decode c_R_insert 31 = .ok (.lcmp, 1) := by decide +kernel
theorem d_R_insert_32 : decode c_R_insert 32 = .ok (.ifCond .le 23, 3) := by decide +kernel
theorem d_R_insert_35 : decode c_R_insert 35 = .ok (.aload_n 0, 1) := by decide +kernel
theorem d_R_insert_36 : decode c_R_insert 36 = .ok (.getfield 9, 3) := by decide +kernel
theorem d_R_insert_39 : decode c_R_insert 39 = .ok (.iload_n 3, 1) := by decide +kernel
theorem d_R_insert_40 : decode c_R_insert 40 = .ok (.aload_n 0, 1) := by decide +kernel
theorem d_R_insert_41 : decode c_R_insert 41 = .ok (.getfield 9, 3) := by decide +kernel
theorem d_R_insert_44 : decode c_R_insert 44 = .ok (.iload_n 3, 1) := by decide +kernel
theorem d_R_insert_45 : decode c_R_insert 45 = .ok (.iconst 1, 1) := by decide +kernel
theorem d_R_insert_46 : decode c_R_insert 46 = .ok (.isub, 1) := by decide +kernel
theorem d_R_insert_47 : decode c_R_insert 47 = .ok (.laload, 1) := by decide +kernel
theorem d_R_insert_48 : decode c_R_insert 48 = .ok (.lastore, 1) := by decide +kernel
theorem d_R_insert_49 : decode c_R_insert 49 = .ok (.iinc 3 (-1), 3) := by decide +kernel
theorem d_R_insert_52 : decode c_R_insert 52 = .ok (.goto (-34), 3) := by decide +kernel
theorem d_R_insert_55 : decode c_R_insert 55 = .ok (.aload_n 0, 1) := by decide +kernel
theorem d_R_insert_56 : decode c_R_insert 56 = .ok (.getfield 9, 3) := by decide +kernel
theorem d_R_insert_59 : decode c_R_insert 59 = .ok (.iload_n 3, 1) := by decide +kernel
theorem d_R_insert_60 : decode c_R_insert 60 = .ok (.lload_n 1, 1) := by decide +kernel
theorem d_R_insert_61 : decode c_R_insert 61 = .ok (.lastore, 1) := by decide +kernel
theorem d_R_insert_62 : decode c_R_insert 62 = .ok (.aload_n 0, 1) := by decide +kernel
theorem d_R_insert_63 : decode c_R_insert 63 = .ok (.dup, 1) := by decide +kernel
theorem d_R_insert_64 : decode c_R_insert 64 = .ok (.getfield 15, 3) := by decide +kernel
theorem d_R_insert_67 : decode c_R_insert 67 = .ok (.iconst 1, 1) := by decide +kernel
theorem d_R_insert_68 : decode c_R_insert 68 = .ok (.iadd, 1) := by decide +kernel
theorem d_R_insert_69 : decode c_R_insert 69 = .ok (.putfield 15, 3) := by decide +kernel
theorem d_R_insert_72 : decode c_R_insert 72 = .ok (.return_, 1) := by decide +kernel
theorem d_R_divideOut_0 : decode c_R_divideOut 0 = .ok (.lconst 0, 1) := by decide +kernel
theorem d_R_divideOut_1 : decode c_R_divideOut 1 = .ok (.lstore_n 3, 1) := by decide +kernel
theorem d_R_divideOut_2 : decode c_R_divideOut 2 = .ok (.iconst 4, 1) := by decide +kernel
theorem d_R_divideOut_3 : decode c_R_divideOut 3 = .ok (.istore 5, 2) := by decide +kernel
theorem d_R_divideOut_5 : decode c_R_divideOut 5 = .ok (.iload 5, 2) := by decide +kernel
theorem d_R_divideOut_7 : decode c_R_divideOut 7 = .ok (.ifCond .lt 37, 3) := by decide +kernel
theorem d_R_divideOut_10 : decode c_R_divideOut 10 = .ok (.aload_n 0, 1) := by decide +kernel
theorem d_R_divideOut_11 : decode c_R_divideOut 11 = .ok (.getfield 19, 3) := by decide +kernel
theorem d_R_divideOut_14 : decode c_R_divideOut 14 = .ok (.iload 5, 2) := by decide +kernel
theorem d_R_divideOut_16 : decode c_R_divideOut 16 = .ok (.laload, 1) := by decide +kernel
theorem d_R_divideOut_17 : decode c_R_divideOut 17 = .ok (.lload_n 3, 1) := by decide +kernel
theorem d_R_divideOut_18 : decode c_R_divideOut 18 = .ok (.lload_n 1, 1) := by decide +kernel
theorem d_R_divideOut_19 : decode c_R_divideOut 19 = .ok (.lmul, 1) := by decide +kernel
theorem d_R_divideOut_20 : decode c_R_divideOut 20 = .ok (.ladd, 1) := by decide +kernel
theorem d_R_divideOut_21 : decode c_R_divideOut 21 = .ok (.ldc2_w 75, 3) := by decide +kernel
theorem d_R_divideOut_24 : decode c_R_divideOut 24 = .ok (.lrem, 1) := by decide +kernel
theorem d_R_divideOut_25 : decode c_R_divideOut 25 = .ok (.lstore 6, 2) := by decide +kernel
theorem d_R_divideOut_27 : decode c_R_divideOut 27 = .ok (.aload_n 0, 1) := by decide +kernel
theorem d_R_divideOut_28 : decode c_R_divideOut 28 = .ok (.getfield 19, 3) := by decide +kernel
theorem d_R_divideOut_31 : decode c_R_divideOut 31 = .ok (.iload 5, 2) := by decide +kernel
theorem d_R_divideOut_33 : decode c_R_divideOut 33 = .ok (.lload_n 3, 1) := by decide +kernel
theorem d_R_divideOut_34 : decode c_R_divideOut 34 = .ok (.lastore, 1) := by decide +kernel
theorem d_R_divideOut_35 : decode c_R_divideOut 35 = .ok (.lload 6, 2) := by decide +kernel
theorem d_R_divideOut_37 : decode c_R_divideOut 37 = .ok (.lstore_n 3, 1) := by decide +kernel
theorem d_R_divideOut_38 : decode c_R_divideOut 38 = .ok (.iinc 5 (-1), 3) := by decide +kernel
theorem d_R_divideOut_41 : decode c_R_divideOut 41 = .ok (.goto (-36), 3) := by decide +kernel
theorem d_R_divideOut_44 : decode c_R_divideOut 44 = .ok (.return_, 1) := by decide +kernel
theorem d_R_raise_0 : decode c_R_raise 0 = .ok (.aload 4, 2) := by decide +kernel
theorem d_R_raise_2 : decode c_R_raise 2 = .ok (.invokestatic 37, 3) := by decide +kernel
theorem d_R_raise_5 : decode c_R_raise 5 = .ok (.istore 5, 2) := by decide +kernel
theorem d_R_raise_7 : decode c_R_raise 7 = .ok (.aload_n 0, 1) := by decide +kernel
theorem d_R_raise_8 : decode c_R_raise 8 = .ok (.getfield 25, 3) := by decide +kernel
theorem d_R_raise_11 : decode c_R_raise 11 = .ok (.lconst 0, 1) := by decide +kernel
theorem d_R_raise_12 : decode c_R_raise 12 = .ok (.invokestatic 77, 3) := by decide +kernel
theorem d_R_raise_15 : decode c_R_raise 15 = .ok (.aload_n 0, 1) := by decide +kernel
theorem d_R_raise_16 : decode c_R_raise 16 = .ok (.getfield 25, 3) := by decide +kernel
theorem d_R_raise_19 : decode c_R_raise 19 = .ok (.iconst 0, 1) := by decide +kernel
theorem d_R_raise_20 : decode c_R_raise 20 = .ok (.lconst 1, 1) := by decide +kernel
theorem d_R_raise_21 : decode c_R_raise 21 = .ok (.lastore, 1) := by decide +kernel
theorem d_R_raise_22 : decode c_R_raise 22 = .ok (.bipush 14, 2) := by decide +kernel
theorem d_R_raise_24 : decode c_R_raise 24 = .ok (.istore 6, 2) := by decide +kernel
theorem d_R_raise_26 : decode c_R_raise 26 = .ok (.iload 6, 2) := by decide +kernel
theorem d_R_raise_28 : decode c_R_raise 28 = .ok (.ifCond .lt 50, 3) := by decide +kernel
theorem d_R_raise_31 : decode c_R_raise 31 = .ok (.aload_n 0, 1) := by decide +kernel
theorem d_R_raise_32 : decode c_R_raise 32 = .ok (.iload 5, 2) := by decide +kernel
theorem d_R_raise_34 : decode c_R_raise 34 = .ok (.invokevirtual 83, 3) := by decide +kernel
theorem d_R_raise_37 : decode c_R_raise 37 = .ok (.iload_n 3, 1) := by decide +kernel
theorem d_R_raise_38 : decode c_R_raise 38 = .ok (.iload 6, 2) := by decide +kernel
theorem d_R_raise_40 : decode c_R_raise 40 = .ok (.ishr, 1) := by decide +kernel
theorem d_R_raise_41 : decode c_R_raise 41 = .ok (.iconst 1, 1) := by decide +kernel
theorem d_R_raise_42 : decode c_R_raise 42 = .ok (.iand, 1) := by decide +kernel
theorem d_R_raise_43 : decode c_R_raise 43 = .ok (.iconst 1, 1) := by decide +kernel
theorem d_R_raise_44 : decode c_R_raise 44 = .ok (.if_icmp .ne 8, 3) := by decide +kernel
theorem d_R_raise_47 : decode c_R_raise 47 = .ok (.aload_n 0, 1) := by decide +kernel
theorem d_R_raise_48 : decode c_R_raise 48 = .ok (.lload_n 1, 1) := by decide +kernel
theorem d_R_raise_49 : decode c_R_raise 49 = .ok (.invokevirtual 87, 3) := by decide +kernel
theorem d_R_raise_52 : decode c_R_raise 52 = .ok (.aload_n 0, 1) := by decide +kernel
theorem d_R_raise_53 : decode c_R_raise 53 = .ok (.getfield 28, 3) := by decide +kernel
theorem d_R_raise_56 : decode c_R_raise 56 = .ok (.aload 4, 2) := by decide +kernel
theorem d_R_raise_58 : decode c_R_raise 58 = .ok (.invokestatic 90, 3) := by decide +kernel
theorem d_R_raise_61 : decode c_R_raise 61 = .ok (.aload_n 0, 1) := by decide +kernel
theorem d_R_raise_62 : decode c_R_raise 62 = .ok (.getfield 28, 3) := by decide +kernel
theorem d_R_raise_65 : decode c_R_raise 65 = .ok (.aload_n 0, 1) := by decide +kernel
theorem d_R_raise_66 : decode c_R_raise 66 = .ok (.getfield 25, 3) := by decide +kernel
theorem d_R_raise_69 : decode c_R_raise 69 = .ok (.invokestatic 41, 3) := by decide +kernel
theorem d_R_raise_72 : decode c_R_raise 72 = .ok (.iinc 6 (-1), 3) := by decide +kernel
theorem d_R_raise_75 : decode c_R_raise 75 = .ok (.goto (-49), 3) := by decide +kernel
theorem d_R_raise_78 : decode c_R_raise 78 = .ok (.return_, 1) := by decide +kernel
theorem d_R_squareRaised_0 : decode c_R_squareRaised 0 = .ok (.aload_n 0, 1) := by decide +kernel
theorem d_R_squareRaised_1 : decode c_R_squareRaised 1 = .ok (.getfield 28, 3) := by decide +kernel
theorem d_R_squareRaised_4 : decode c_R_squareRaised 4 = .ok (.lconst 0, 1) := by decide +kernel
theorem d_R_squareRaised_5 : decode c_R_squareRaised 5 = .ok (.invokestatic 77, 3) := by decide +kernel
theorem d_R_squareRaised_8 : decode c_R_squareRaised 8 = .ok (.iconst 0, 1) := by decide +kernel
theorem d_R_squareRaised_9 : decode c_R_squareRaised 9 = .ok (.istore_n 2, 1) := by decide +kernel
theorem d_R_squareRaised_10 : decode c_R_squareRaised 10 = .ok (.iload_n 2, 1) := by decide +kernel
theorem d_R_squareRaised_11 : decode c_R_squareRaised 11 = .ok (.iload_n 1, 1) := by decide +kernel
theorem d_R_squareRaised_12 : decode c_R_squareRaised 12 = .ok (.if_icmp .ge 56, 3) := by decide +kernel
theorem d_R_squareRaised_15 : decode c_R_squareRaised 15 = .ok (.iconst 0, 1) := by decide +kernel
theorem d_R_squareRaised_16 : decode c_R_squareRaised 16 = .ok (.istore_n 3, 1) := by decide +kernel
theorem d_R_squareRaised_17 : decode c_R_squareRaised 17 = .ok (.iload_n 3, 1) := by decide +kernel
theorem d_R_squareRaised_18 : decode c_R_squareRaised 18 = .ok (.iload_n 1, 1) := by decide +kernel
theorem d_R_squareRaised_19 : decode c_R_squareRaised 19 = .ok (.if_icmp .ge 43, 3) := by decide +kernel
theorem d_R_squareRaised_22 : decode c_R_squareRaised 22 = .ok (.aload_n 0, 1) := by decide +kernel
theorem d_R_squareRaised_23 : decode c_R_squareRaised 23 = .ok (.getfield 28, 3) := by decide +kernel
theorem d_R_squareRaised_26 : decode c_R_squareRaised 26 = .ok (.iload_n 2, 1) := by decide +kernel
theorem d_R_squareRaised_27 : decode c_R_squareRaised 27 = .ok (.iload_n 3, 1) := by decide +kernel
theorem d_R_squareRaised_28 : decode c_R_squareRaised 28 = .ok (.iadd, 1) := by decide +kernel
theorem d_R_squareRaised_29 : decode c_R_squareRaised 29 = .ok (.aload_n 0, 1) := by decide +kernel
theorem d_R_squareRaised_30 : decode c_R_squareRaised 30 = .ok (.getfield 28, 3) := by decide +kernel
theorem d_R_squareRaised_33 : decode c_R_squareRaised 33 = .ok (.iload_n 2, 1) := by decide +kernel
theorem d_R_squareRaised_34 : decode c_R_squareRaised 34 = .ok (.iload_n 3, 1) := by decide +kernel
theorem d_R_squareRaised_35 : decode c_R_squareRaised 35 = .ok (.iadd, 1) := by decide +kernel
theorem d_R_squareRaised_36 : decode c_R_squareRaised 36 = .ok (.laload, 1) := by decide +kernel
theorem d_R_squareRaised_37 : decode c_R_squareRaised 37 = .ok (.aload_n 0, 1) := by decide +kernel
theorem d_R_squareRaised_38 : decode c_R_squareRaised 38 = .ok (.getfield 25, 3) := by decide +kernel
theorem d_R_squareRaised_41 : decode c_R_squareRaised 41 = .ok (.iload_n 2, 1) := by decide +kernel
theorem d_R_squareRaised_42 : decode c_R_squareRaised 42 = .ok (.laload, 1) := by decide +kernel
theorem d_R_squareRaised_43 : decode c_R_squareRaised 43 = .ok (.aload_n 0, 1) := by decide +kernel
theorem d_R_squareRaised_44 : decode c_R_squareRaised 44 = .ok (.getfield 25, 3) := by decide +kernel
theorem d_R_squareRaised_47 : decode c_R_squareRaised 47 = .ok (.iload_n 3, 1) := by decide +kernel
theorem d_R_squareRaised_48 : decode c_R_squareRaised 48 = .ok (.laload, 1) := by decide +kernel
theorem d_R_squareRaised_49 : decode c_R_squareRaised 49 = .ok (.lmul, 1) := by decide +kernel
theorem d_R_squareRaised_50 : decode c_R_squareRaised 50 = .ok (.ladd, 1) := by decide +kernel
theorem d_R_squareRaised_51 : decode c_R_squareRaised 51 = .ok (.ldc2_w 75, 3) := by decide +kernel
theorem d_R_squareRaised_54 : decode c_R_squareRaised 54 = .ok (.lrem, 1) := by decide +kernel
theorem d_R_squareRaised_55 : decode c_R_squareRaised 55 = .ok (.lastore, 1) := by decide +kernel
theorem d_R_squareRaised_56 : decode c_R_squareRaised 56 = .ok (.iinc 3 1, 3) := by decide +kernel
theorem d_R_squareRaised_59 : decode c_R_squareRaised 59 = .ok (.goto (-42), 3) := by decide +kernel
theorem d_R_squareRaised_62 : decode c_R_squareRaised 62 = .ok (.iinc 2 1, 3) := by decide +kernel
theorem d_R_squareRaised_65 : decode c_R_squareRaised 65 = .ok (.goto (-55), 3) := by decide +kernel
theorem d_R_squareRaised_68 : decode c_R_squareRaised 68 = .ok (.return_, 1) := by decide +kernel
theorem d_R_timesLine_0 : decode c_R_timesLine 0 = .ok (.aload_n 0, 1) := by decide +kernel
theorem d_R_timesLine_1 : decode c_R_timesLine 1 = .ok (.getfield 28, 3) := by decide +kernel
theorem d_R_timesLine_4 : decode c_R_timesLine 4 = .ok (.arraylength, 1) := by decide +kernel
theorem d_R_timesLine_5 : decode c_R_timesLine 5 = .ok (.iconst 1, 1) := by decide +kernel
theorem d_R_timesLine_6 : decode c_R_timesLine 6 = .ok (.isub, 1) := by decide +kernel
theorem d_R_timesLine_7 : decode c_R_timesLine 7 = .ok (.istore_n 3, 1) := by decide +kernel
theorem d_R_timesLine_8 : decode c_R_timesLine 8 = .ok (.iload_n 3, 1) := by decide +kernel
theorem d_R_timesLine_9 : decode c_R_timesLine 9 = .ok (.ifCond .le 36, 3) := by decide +kernel
theorem d_R_timesLine_12 : decode c_R_timesLine 12 = .ok (.aload_n 0, 1) := by decide +kernel
theorem d_R_timesLine_13 : decode c_R_timesLine 13 = .ok (.getfield 28, 3) := by decide +kernel
theorem d_R_timesLine_16 : decode c_R_timesLine 16 = .ok (.iload_n 3, 1) := by decide +kernel
theorem d_R_timesLine_17 : decode c_R_timesLine 17 = .ok (.aload_n 0, 1) := by decide +kernel
theorem d_R_timesLine_18 : decode c_R_timesLine 18 = .ok (.getfield 28, 3) := by decide +kernel
theorem d_R_timesLine_21 : decode c_R_timesLine 21 = .ok (.iload_n 3, 1) := by decide +kernel
theorem d_R_timesLine_22 : decode c_R_timesLine 22 = .ok (.laload, 1) := by decide +kernel
theorem d_R_timesLine_23 : decode c_R_timesLine 23 = .ok (.lload_n 1, 1) := by decide +kernel
theorem d_R_timesLine_24 : decode c_R_timesLine 24 = .ok (.lmul, 1) := by decide +kernel
theorem d_R_timesLine_25 : decode c_R_timesLine 25 = .ok (.aload_n 0, 1) := by decide +kernel
theorem d_R_timesLine_26 : decode c_R_timesLine 26 = .ok (.getfield 28, 3) := by decide +kernel
theorem d_R_timesLine_29 : decode c_R_timesLine 29 = .ok (.iload_n 3, 1) := by decide +kernel
theorem d_R_timesLine_30 : decode c_R_timesLine 30 = .ok (.iconst 1, 1) := by decide +kernel
theorem d_R_timesLine_31 : decode c_R_timesLine 31 = .ok (.isub, 1) := by decide +kernel
theorem d_R_timesLine_32 : decode c_R_timesLine 32 = .ok (.laload, 1) := by decide +kernel
theorem d_R_timesLine_33 : decode c_R_timesLine 33 = .ok (.ladd, 1) := by decide +kernel
theorem d_R_timesLine_34 : decode c_R_timesLine 34 = .ok (.ldc2_w 75, 3) := by decide +kernel
theorem d_R_timesLine_37 : decode c_R_timesLine 37 = .ok (.lrem, 1) := by decide +kernel
theorem d_R_timesLine_38 : decode c_R_timesLine 38 = .ok (.lastore, 1) := by decide +kernel
theorem d_R_timesLine_39 : decode c_R_timesLine 39 = .ok (.iinc 3 (-1), 3) := by decide +kernel
theorem d_R_timesLine_42 : decode c_R_timesLine 42 = .ok (.goto (-34), 3) := by decide +kernel
theorem d_R_timesLine_45 : decode c_R_timesLine 45 = .ok (.aload_n 0, 1) := by decide +kernel
theorem d_R_timesLine_46 : decode c_R_timesLine 46 = .ok (.getfield 28, 3) := by decide +kernel
theorem d_R_timesLine_49 : decode c_R_timesLine 49 = .ok (.iconst 0, 1) := by decide +kernel
theorem d_R_timesLine_50 : decode c_R_timesLine 50 = .ok (.aload_n 0, 1) := by decide +kernel
theorem d_R_timesLine_51 : decode c_R_timesLine 51 = .ok (.getfield 28, 3) := by decide +kernel
theorem d_R_timesLine_54 : decode c_R_timesLine 54 = .ok (.iconst 0, 1) := by decide +kernel
theorem d_R_timesLine_55 : decode c_R_timesLine 55 = .ok (.laload, 1) := by decide +kernel
theorem d_R_timesLine_56 : decode c_R_timesLine 56 = .ok (.lload_n 1, 1) := by decide +kernel
theorem d_R_timesLine_57 : decode c_R_timesLine 57 = .ok (.lmul, 1) := by decide +kernel
theorem d_R_timesLine_58 : decode c_R_timesLine 58 = .ok (.ldc2_w 75, 3) := by decide +kernel
theorem d_R_timesLine_61 : decode c_R_timesLine 61 = .ok (.lrem, 1) := by decide +kernel
theorem d_R_timesLine_62 : decode c_R_timesLine 62 = .ok (.lastore, 1) := by decide +kernel
theorem d_R_timesLine_63 : decode c_R_timesLine 63 = .ok (.return_, 1) := by decide +kernel
theorem d_R_commonWithRaised_0 : decode c_R_commonWithRaised 0 = .ok (.aload_n 1, 1) := by decide +kernel
theorem d_R_commonWithRaised_1 : decode c_R_commonWithRaised 1 = .ok (.aload_n 0, 1) := by decide +kernel
theorem d_R_commonWithRaised_2 : decode c_R_commonWithRaised 2 = .ok (.getfield 31, 3) := by decide +kernel
theorem d_R_commonWithRaised_5 : decode c_R_commonWithRaised 5 = .ok (.invokestatic 41, 3) := by decide +kernel
theorem d_R_commonWithRaised_8 : decode c_R_commonWithRaised 8 = .ok (.aload_n 0, 1) := by decide +kernel
theorem d_R_commonWithRaised_9 : decode c_R_commonWithRaised 9 = .ok (.getfield 25, 3) := by decide +kernel
theorem d_R_commonWithRaised_12 : decode c_R_commonWithRaised 12 = .ok (.aload_n 0, 1) := by decide +kernel
theorem d_R_commonWithRaised_13 : decode c_R_commonWithRaised 13 = .ok (.getfield 34, 3) := by decide +kernel
theorem d_R_commonWithRaised_16 : decode c_R_commonWithRaised 16 = .ok (.invokestatic 41, 3) := by decide +kernel
theorem d_R_commonWithRaised_19 : decode c_R_commonWithRaised 19 = .ok (.aload_n 0, 1) := by decide +kernel
theorem d_R_commonWithRaised_20 : decode c_R_commonWithRaised 20 = .ok (.getfield 31, 3) := by decide +kernel
theorem d_R_commonWithRaised_23 : decode c_R_commonWithRaised 23 = .ok (.astore_n 2, 1) := by decide +kernel
theorem d_R_commonWithRaised_24 : decode c_R_commonWithRaised 24 = .ok (.aload_n 0, 1) := by decide +kernel
theorem d_R_commonWithRaised_25 : decode c_R_commonWithRaised 25 = .ok (.getfield 34, 3) := by decide +kernel
theorem d_R_commonWithRaised_28 : decode c_R_commonWithRaised 28 = .ok (.astore_n 3, 1) := by decide +kernel
theorem d_R_commonWithRaised_29 : decode c_R_commonWithRaised 29 = .ok (.iconst 0, 1) := by decide +kernel
theorem d_R_commonWithRaised_30 : decode c_R_commonWithRaised 30 = .ok (.istore 4, 2) := by decide +kernel
theorem d_R_commonWithRaised_32 : decode c_R_commonWithRaised 32 = .ok (.iload 4, 2) := by decide +kernel
theorem d_R_commonWithRaised_34 : decode c_R_commonWithRaised 34 = .ok (.iconst 5, 1) := by decide +kernel
theorem d_R_commonWithRaised_35 : decode c_R_commonWithRaised 35 = .ok (.if_icmp .ge 33, 3) := by decide +kernel
theorem d_R_commonWithRaised_38 : decode c_R_commonWithRaised 38 = .ok (.aload_n 3, 1) := by decide +kernel
theorem d_R_commonWithRaised_39 : decode c_R_commonWithRaised 39 = .ok (.invokestatic 93, 3) := by decide +kernel
theorem d_R_commonWithRaised_42 : decode c_R_commonWithRaised 42 = .ok (.ifCond .ne 26, 3) := by decide +kernel
theorem d_R_commonWithRaised_45 : decode c_R_commonWithRaised 45 = .ok (.aload_n 3, 1) := by decide +kernel
theorem d_R_commonWithRaised_46 : decode c_R_commonWithRaised 46 = .ok (.invokestatic 45, 3) := by decide +kernel
theorem d_R_commonWithRaised_49 : decode c_R_commonWithRaised 49 = .ok (.aload_n 2, 1) := by decide +kernel
theorem d_R_commonWithRaised_50 : decode c_R_commonWithRaised 50 = .ok (.aload_n 3, 1) := by decide +kernel
theorem d_R_commonWithRaised_51 : decode c_R_commonWithRaised 51 = .ok (.invokestatic 90, 3) := by decide +kernel
theorem d_R_commonWithRaised_54 : decode c_R_commonWithRaised 54 = .ok (.aload_n 2, 1) := by decide +kernel
theorem d_R_commonWithRaised_55 : decode c_R_commonWithRaised 55 = .ok (.astore 5, 2) := by decide +kernel
theorem d_R_commonWithRaised_57 : decode c_R_commonWithRaised 57 = .ok (.aload_n 3, 1) := by decide +kernel
theorem d_R_commonWithRaised_58 : decode c_R_commonWithRaised 58 = .ok (.astore_n 2, 1) := by decide +kernel
theorem d_R_commonWithRaised_59 : decode c_R_commonWithRaised 59 = .ok (.aload 5, 2) := by decide +kernel
theorem d_R_commonWithRaised_61 : decode c_R_commonWithRaised 61 = .ok (.astore_n 3, 1) := by decide +kernel
theorem d_R_commonWithRaised_62 : decode c_R_commonWithRaised 62 = .ok (.iinc 4 1, 3) := by decide +kernel
theorem d_R_commonWithRaised_65 : decode c_R_commonWithRaised 65 = .ok (.goto (-33), 3) := by decide +kernel
theorem d_R_commonWithRaised_68 : decode c_R_commonWithRaised 68 = .ok (.aload_n 2, 1) := by decide +kernel
theorem d_R_commonWithRaised_69 : decode c_R_commonWithRaised 69 = .ok (.areturn, 1) := by decide +kernel
theorem d_R_takeMultiples_0 : decode c_R_takeMultiples 0 = .ok (.aload_n 1, 1) := by decide +kernel
theorem d_R_takeMultiples_1 : decode c_R_takeMultiples 1 = .ok (.invokestatic 37, 3) := by decide +kernel
theorem d_R_takeMultiples_4 : decode c_R_takeMultiples 4 = .ok (.istore_n 2, 1) := by decide +kernel
theorem d_R_takeMultiples_5 : decode c_R_takeMultiples 5 = .ok (.iload_n 2, 1) := by decide +kernel
theorem d_R_takeMultiples_6 : decode c_R_takeMultiples 6 = .ok (.ifCond .ge 4, 3) := by decide +kernel
theorem d_R_takeMultiples_9 : decode c_R_takeMultiples 9 = .ok (.return_, 1) := by decide +kernel
theorem d_R_takeMultiples_10 : decode c_R_takeMultiples 10 = .ok (.aload_n 0, 1) := by decide +kernel
theorem d_R_takeMultiples_11 : decode c_R_takeMultiples 11 = .ok (.invokestatic 37, 3) := by decide +kernel
theorem d_R_takeMultiples_14 : decode c_R_takeMultiples 14 = .ok (.istore_n 3, 1) := by decide +kernel
theorem d_R_takeMultiples_15 : decode c_R_takeMultiples 15 = .ok (.iload_n 3, 1) := by decide +kernel
theorem d_R_takeMultiples_16 : decode c_R_takeMultiples 16 = .ok (.iload_n 2, 1) := by decide +kernel
theorem d_R_takeMultiples_17 : decode c_R_takeMultiples 17 = .ok (.if_icmp .lt 56, 3) := by decide +kernel
theorem d_R_takeMultiples_20 : decode c_R_takeMultiples 20 = .ok (.aload_n 0, 1) := by decide +kernel
theorem d_R_takeMultiples_21 : decode c_R_takeMultiples 21 = .ok (.iload_n 3, 1) := by decide +kernel
theorem d_R_takeMultiples_22 : decode c_R_takeMultiples 22 = .ok (.laload, 1) := by decide +kernel
theorem d_R_takeMultiples_23 : decode c_R_takeMultiples 23 = .ok (.lstore 4, 2) := by decide +kernel
theorem d_R_takeMultiples_25 : decode c_R_takeMultiples 25 = .ok (.iconst 0, 1) := by decide +kernel
theorem d_R_takeMultiples_26 : decode c_R_takeMultiples 26 = .ok (.istore 6, 2) := by decide +kernel
theorem d_R_takeMultiples_28 : decode c_R_takeMultiples 28 = .ok (.iload 6, 2) := by decide +kernel
theorem d_R_takeMultiples_30 : decode c_R_takeMultiples 30 = .ok (.iload_n 2, 1) := by decide +kernel
theorem d_R_takeMultiples_31 : decode c_R_takeMultiples 31 = .ok (.if_icmp .gt 36, 3) := by decide +kernel
theorem d_R_takeMultiples_34 : decode c_R_takeMultiples 34 = .ok (.iload_n 3, 1) := by decide +kernel
theorem d_R_takeMultiples_35 : decode c_R_takeMultiples 35 = .ok (.iload_n 2, 1) := by decide +kernel
theorem d_R_takeMultiples_36 : decode c_R_takeMultiples 36 = .ok (.isub, 1) := by decide +kernel
theorem d_R_takeMultiples_37 : decode c_R_takeMultiples 37 = .ok (.iload 6, 2) := by decide +kernel
theorem d_R_takeMultiples_39 : decode c_R_takeMultiples 39 = .ok (.iadd, 1) := by decide +kernel
theorem d_R_takeMultiples_40 : decode c_R_takeMultiples 40 = .ok (.istore 7, 2) := by decide +kernel
theorem d_R_takeMultiples_42 : decode c_R_takeMultiples 42 = .ok (.aload_n 0, 1) := by decide +kernel
theorem d_R_takeMultiples_43 : decode c_R_takeMultiples 43 = .ok (.iload 7, 2) := by decide +kernel
theorem d_R_takeMultiples_45 : decode c_R_takeMultiples 45 = .ok (.aload_n 0, 1) := by decide +kernel
theorem d_R_takeMultiples_46 : decode c_R_takeMultiples 46 = .ok (.iload 7, 2) := by decide +kernel
theorem d_R_takeMultiples_48 : decode c_R_takeMultiples 48 = .ok (.laload, 1) := by decide +kernel
theorem d_R_takeMultiples_49 : decode c_R_takeMultiples 49 = .ok (.lload 4, 2) := by decide +kernel
theorem d_R_takeMultiples_51 : decode c_R_takeMultiples 51 = .ok (.aload_n 1, 1) := by decide +kernel
theorem d_R_takeMultiples_52 : decode c_R_takeMultiples 52 = .ok (.iload 6, 2) := by decide +kernel
theorem d_R_takeMultiples_54 : decode c_R_takeMultiples 54 = .ok (.laload, 1) := by decide +kernel
theorem d_R_takeMultiples_55 : decode c_R_takeMultiples 55 = .ok (.lmul, 1) := by decide +kernel
theorem d_R_takeMultiples_56 : decode c_R_takeMultiples 56 = .ok (.lsub, 1) := by decide +kernel
theorem d_R_takeMultiples_57 : decode c_R_takeMultiples 57 = .ok (.invokestatic 67, 3) := by decide +kernel
theorem d_R_takeMultiples_60 : decode c_R_takeMultiples 60 = .ok (.lastore, 1) := by decide +kernel
theorem d_R_takeMultiples_61 : decode c_R_takeMultiples 61 = .ok (.iinc 6 1, 3) := by decide +kernel
theorem d_R_takeMultiples_64 : decode c_R_takeMultiples 64 = .ok (.goto (-36), 3) := by decide +kernel
theorem d_R_takeMultiples_67 : decode c_R_takeMultiples 67 = .ok (.iinc 3 (-1), 3) := by decide +kernel
theorem d_R_takeMultiples_70 : decode c_R_takeMultiples 70 = .ok (.goto (-55), 3) := by decide +kernel
theorem d_R_takeMultiples_73 : decode c_R_takeMultiples 73 = .ok (.return_, 1) := by decide +kernel
theorem d_R_makeMonic_0 : decode c_R_makeMonic 0 = .ok (.aload_n 0, 1) := by decide +kernel
theorem d_R_makeMonic_1 : decode c_R_makeMonic 1 = .ok (.invokestatic 37, 3) := by decide +kernel
theorem d_R_makeMonic_4 : decode c_R_makeMonic 4 = .ok (.istore_n 1, 1) := by decide +kernel
theorem d_R_makeMonic_5 : decode c_R_makeMonic 5 = .ok (.iload_n 1, 1) := by decide +kernel
theorem d_R_makeMonic_6 : decode c_R_makeMonic 6 = .ok (.ifCond .ge 4, 3) := by decide +kernel
theorem d_R_makeMonic_9 : decode c_R_makeMonic 9 = .ok (.return_, 1) := by decide +kernel
theorem d_R_makeMonic_10 : decode c_R_makeMonic 10 = .ok (.aload_n 0, 1) := by decide +kernel
theorem d_R_makeMonic_11 : decode c_R_makeMonic 11 = .ok (.iload_n 1, 1) := by decide +kernel
theorem d_R_makeMonic_12 : decode c_R_makeMonic 12 = .ok (.laload, 1) := by decide +kernel
theorem d_R_makeMonic_13 : decode c_R_makeMonic 13 = .ok (.invokestatic 97, 3) := by decide +kernel
theorem d_R_makeMonic_16 : decode c_R_makeMonic 16 = .ok (.lstore_n 2, 1) := by decide +kernel
theorem d_R_makeMonic_17 : decode c_R_makeMonic 17 = .ok (.iconst 0, 1) := by decide +kernel
theorem d_R_makeMonic_18 : decode c_R_makeMonic 18 = .ok (.istore 4, 2) := by decide +kernel
theorem d_R_makeMonic_20 : decode c_R_makeMonic 20 = .ok (.iload 4, 2) := by decide +kernel
theorem d_R_makeMonic_22 : decode c_R_makeMonic 22 = .ok (.iload_n 1, 1) := by decide +kernel
theorem d_R_makeMonic_23 : decode c_R_makeMonic 23 = .ok (.if_icmp .gt 23, 3) := by decide +kernel
theorem d_R_makeMonic_26 : decode c_R_makeMonic 26 = .ok (.aload_n 0, 1) := by decide +kernel
theorem d_R_makeMonic_27 : decode c_R_makeMonic 27 = .ok (.iload 4, 2) := by decide +kernel
theorem d_R_makeMonic_29 : decode c_R_makeMonic 29 = .ok (.aload_n 0, 1) := by decide +kernel
theorem d_R_makeMonic_30 : decode c_R_makeMonic 30 = .ok (.iload 4, 2) := by decide +kernel
theorem d_R_makeMonic_32 : decode c_R_makeMonic 32 = .ok (.laload, 1) := by decide +kernel
theorem d_R_makeMonic_33 : decode c_R_makeMonic 33 = .ok (.lload_n 2, 1) := by decide +kernel
theorem d_R_makeMonic_34 : decode c_R_makeMonic 34 = .ok (.lmul, 1) := by decide +kernel
theorem d_R_makeMonic_35 : decode c_R_makeMonic 35 = .ok (.ldc2_w 75, 3) := by decide +kernel
theorem d_R_makeMonic_38 : decode c_R_makeMonic 38 = .ok (.lrem, 1) := by decide +kernel
theorem d_R_makeMonic_39 : decode c_R_makeMonic 39 = .ok (.lastore, 1) := by decide +kernel
theorem d_R_makeMonic_40 : decode c_R_makeMonic 40 = .ok (.iinc 4 1, 3) := by decide +kernel
theorem d_R_makeMonic_43 : decode c_R_makeMonic 43 = .ok (.goto (-23), 3) := by decide +kernel
theorem d_R_makeMonic_46 : decode c_R_makeMonic 46 = .ok (.return_, 1) := by decide +kernel
theorem d_R_copy_0 : decode c_R_copy 0 = .ok (.aload_n 0, 1) := by decide +kernel
theorem d_R_copy_1 : decode c_R_copy 1 = .ok (.iconst 0, 1) := by decide +kernel
theorem d_R_copy_2 : decode c_R_copy 2 = .ok (.aload_n 1, 1) := by decide +kernel
theorem d_R_copy_3 : decode c_R_copy 3 = .ok (.iconst 0, 1) := by decide +kernel
theorem d_R_copy_4 : decode c_R_copy 4 = .ok (.iconst 5, 1) := by decide +kernel
theorem d_R_copy_5 : decode c_R_copy 5 = .ok (.invokestatic 100, 3) := by decide +kernel
theorem d_R_copy_8 : decode c_R_copy 8 = .ok (.return_, 1) := by decide +kernel
