theorem dX0_init_0 : decode cX0_init 0 = .ok (.aload_n 0, 1) := by decide +kernel
theorem dX0_init_1 : decode cX0_init 1 = .ok (.invokespecial 3, 3) := by decide +kernel
theorem dX0_init_4 : decode cX0_init 4 = .ok (.aload_n 0, 1) := by decide +kernel
theorem dX0_init_5 : decode cX0_init 5 = .ok (.bipush 10, 2) := by decide +kernel
theorem dX0_init_7 : decode cX0_init 7 = .ok (.newarray .int, 2) := by decide +kernel
theorem dX0_init_9 : decode cX0_init 9 = .ok (.putfield 9, 3) := by decide +kernel
theorem dX0_init_12 : decode cX0_init 12 = .ok (.return_, 1) := by decide +kernel
theorem dX0_clear_0 : decode cX0_clear 0 = .ok (.aload_n 0, 1) := by decide +kernel
theorem dX0_clear_1 : decode cX0_clear 1 = .ok (.iconst 0, 1) := by decide +kernel
theorem dX0_clear_2 : decode cX0_clear 2 = .ok (.putfield 15, 3) := by decide +kernel
theorem dX0_clear_5 : decode cX0_clear 5 = .ok (.return_, 1) := by decide +kernel
theorem dX0_insert_0 : decode cX0_insert 0 = .ok (.aload_n 0, 1) := by decide +kernel
theorem dX0_insert_1 : decode cX0_insert 1 = .ok (.getfield 15, 3) := by decide +kernel
theorem dX0_insert_4 : decode cX0_insert 4 = .ok (.aload_n 0, 1) := by decide +kernel
theorem dX0_insert_5 : decode cX0_insert 5 = .ok (.getfield 9, 3) := by decide +kernel
theorem dX0_insert_8 : decode cX0_insert 8 = .ok (.arraylength, 1) := by decide +kernel
theorem dX0_insert_9 : decode cX0_insert 9 = .ok (.if_icmp .lt 4, 3) := by decide +kernel
theorem dX0_insert_12 : decode cX0_insert 12 = .ok (.return_, 1) := by decide +kernel
theorem dX0_insert_13 : decode cX0_insert 13 = .ok (.aload_n 0, 1) := by decide +kernel
theorem dX0_insert_14 : decode cX0_insert 14 = .ok (.getfield 15, 3) := by decide +kernel
theorem dX0_insert_17 : decode cX0_insert 17 = .ok (.istore_n 2, 1) := by decide +kernel
theorem dX0_insert_18 : decode cX0_insert 18 = .ok (.iload_n 2, 1) := by decide +kernel
theorem dX0_insert_19 : decode cX0_insert 19 = .ok (.ifCond .le 35, 3) := by decide +kernel
theorem dX0_insert_22 : decode cX0_insert 22 = .ok (.aload_n 0, 1) := by decide +kernel
theorem dX0_insert_23 : decode cX0_insert 23 = .ok (.getfield 9, 3) := by decide +kernel
theorem dX0_insert_26 : decode cX0_insert 26 = .ok (.iload_n 2, 1) := by decide +kernel
theorem dX0_insert_27 : decode cX0_insert 27 = .ok (.iconst 1, 1) := by decide +kernel
theorem dX0_insert_28 : decode cX0_insert 28 = .ok (.isub, 1) := by decide +kernel
theorem dX0_insert_29 : decode cX0_insert 29 = .ok (.iaload, 1) := by decide +kernel
theorem dX0_insert_30 : decode cX0_insert 30 = .ok (.iload_n 1, 1) := by decide +kernel
theorem dX0_insert_31 : decode cX0_insert 31 = .ok (.if_icmp .le 23, 3) := by decide +kernel
theorem dX0_insert_34 : decode cX0_insert 34 = .ok (.aload_n 0, 1) := by decide +kernel
theorem dX0_insert_35 : decode cX0_insert 35 = .ok (.getfield 9, 3) := by decide +kernel
theorem dX0_insert_38 : decode cX0_insert 38 = .ok (.iload_n 2, 1) := by decide +kernel
theorem dX0_insert_39 : decode cX0_insert 39 = .ok (.aload_n 0, 1) := by decide +kernel
theorem dX0_insert_40 : decode cX0_insert 40 = .ok (.getfield 9, 3) := by decide +kernel
theorem dX0_insert_43 : decode cX0_insert 43 = .ok (.iload_n 2, 1) := by decide +kernel
theorem dX0_insert_44 : decode cX0_insert 44 = .ok (.iconst 1, 1) := by decide +kernel
theorem dX0_insert_45 : decode cX0_insert 45 = .ok (.isub, 1) := by decide +kernel
theorem dX0_insert_46 : decode cX0_insert 46 = .ok (.iaload, 1) := by decide +kernel
theorem dX0_insert_47 : decode cX0_insert 47 = .ok (.iastore, 1) := by decide +kernel
theorem dX0_insert_48 : decode cX0_insert 48 = .ok (.iinc 2 (-1), 3) := by decide +kernel
theorem dX0_insert_51 : decode cX0_insert 51 = .ok (.goto (-33), 3) := by decide +kernel
theorem dX0_insert_54 : decode cX0_insert 54 = .ok (.aload_n 0, 1) := by decide +kernel
theorem dX0_insert_55 : decode cX0_insert 55 = .ok (.getfield 9, 3) := by decide +kernel
theorem dX0_insert_58 : decode cX0_insert 58 = .ok (.iload_n 2, 1) := by decide +kernel
theorem dX0_insert_59 : decode cX0_insert 59 = .ok (.iload_n 1, 1) := by decide +kernel
theorem dX0_insert_60 : decode cX0_insert 60 = .ok (.iastore, 1) := by decide +kernel
theorem dX0_insert_61 : decode cX0_insert 61 = .ok (.aload_n 0, 1) := by decide +kernel
theorem dX0_insert_62 : decode cX0_insert 62 = .ok (.dup, 1) := by decide +kernel
theorem dX0_insert_63 : decode cX0_insert 63 = .ok (.getfield 15, 3) := by decide +kernel
theorem dX0_insert_66 : decode cX0_insert 66 = .ok (.iconst 1, 1) := by decide +kernel
theorem dX0_insert_67 : decode cX0_insert 67 = .ok (.iadd, 1) := by decide +kernel
theorem dX0_insert_68 : decode cX0_insert 68 = .ok (.putfield 15, 3) := by decide +kernel
theorem dX0_insert_71 : decode cX0_insert 71 = .ok (.return_, 1) := by decide +kernel
theorem dX0_middle_0 : decode cX0_middle 0 = .ok (.aload_n 0, 1) := by decide +kernel
theorem dX0_middle_1 : decode cX0_middle 1 = .ok (.getfield 15, 3) := by decide +kernel
theorem dX0_middle_4 : decode cX0_middle 4 = .ok (.iconst 1, 1) := by decide +kernel
theorem dX0_middle_5 : decode cX0_middle 5 = .ok (.isub, 1) := by decide +kernel
theorem dX0_middle_6 : decode cX0_middle 6 = .ok (.iconst 2, 1) := by decide +kernel
theorem dX0_middle_7 : decode cX0_middle 7 = .ok (.idiv, 1) := by decide +kernel
theorem dX0_middle_8 : decode cX0_middle 8 = .ok (.istore_n 1, 1) := by decide +kernel
theorem dX0_middle_9 : decode cX0_middle 9 = .ok (.aload_n 0, 1) := by decide +kernel
theorem dX0_middle_10 : decode cX0_middle 10 = .ok (.getfield 15, 3) := by decide +kernel
theorem dX0_middle_13 : decode cX0_middle 13 = .ok (.ifCond .le 21, 3) := by decide +kernel
theorem dX0_middle_16 : decode cX0_middle 16 = .ok (.iload_n 1, 1) := by decide +kernel
theorem dX0_middle_17 : decode cX0_middle 17 = .ok (.aload_n 0, 1) := by decide +kernel
theorem dX0_middle_18 : decode cX0_middle 18 = .ok (.getfield 9, 3) := by decide +kernel
theorem dX0_middle_21 : decode cX0_middle 21 = .ok (.arraylength, 1) := by decide +kernel
theorem dX0_middle_22 : decode cX0_middle 22 = .ok (.if_icmp .ge 12, 3) := by decide +kernel
theorem dX0_middle_25 : decode cX0_middle 25 = .ok (.aload_n 0, 1) := by decide +kernel
theorem dX0_middle_26 : decode cX0_middle 26 = .ok (.getfield 9, 3) := by decide +kernel
theorem dX0_middle_29 : decode cX0_middle 29 = .ok (.iload_n 1, 1) := by decide +kernel
theorem dX0_middle_30 : decode cX0_middle 30 = .ok (.iaload, 1) := by decide +kernel
theorem dX0_middle_31 : decode cX0_middle 31 = .ok (.goto 5, 3) := by decide +kernel
theorem dX0_middle_34 : decode cX0_middle 34 = .ok (.ldc 19, 2) := by decide +kernel
theorem dX0_middle_36 : decode cX0_middle 36 = .ok (.ireturn, 1) := by decide +kernel
theorem dX1_init_0 : decode cX1_init 0 = .ok (.aload_n 0, 1) := by decide +kernel
theorem dX1_init_1 : decode cX1_init 1 = .ok (.invokespecial 3, 3) := by decide +kernel
theorem dX1_init_4 : decode cX1_init 4 = .ok (.aload_n 0, 1) := by decide +kernel
theorem dX1_init_5 : decode cX1_init 5 = .ok (.bipush 6, 2) := by decide +kernel
theorem dX1_init_7 : decode cX1_init 7 = .ok (.anewarray 9, 3) := by decide +kernel
theorem dX1_init_10 : decode cX1_init 10 = .ok (.putfield 11, 3) := by decide +kernel
theorem dX1_init_13 : decode cX1_init 13 = .ok (.aload_n 0, 1) := by decide +kernel
theorem dX1_init_14 : decode cX1_init 14 = .ok (.new 9, 3) := by decide +kernel
theorem dX1_init_17 : decode cX1_init 17 = .ok (.dup, 1) := by decide +kernel
theorem dX1_init_18 : decode cX1_init 18 = .ok (.invokespecial 17, 3) := by decide +kernel
theorem dX1_init_21 : decode cX1_init 21 = .ok (.putfield 18, 3) := by decide +kernel
theorem dX1_init_24 : decode cX1_init 24 = .ok (.iconst 0, 1) := by decide +kernel
theorem dX1_init_25 : decode cX1_init 25 = .ok (.istore_n 1, 1) := by decide +kernel
theorem dX1_init_26 : decode cX1_init 26 = .ok (.iload_n 1, 1) := by decide +kernel
theorem dX1_init_27 : decode cX1_init 27 = .ok (.aload_n 0, 1) := by decide +kernel
theorem dX1_init_28 : decode cX1_init 28 = .ok (.getfield 11, 3) := by decide +kernel
theorem dX1_init_31 : decode cX1_init 31 = .ok (.arraylength, 1) := by decide +kernel
theorem dX1_init_32 : decode cX1_init 32 = .ok (.if_icmp .ge 22, 3) := by decide +kernel
theorem dX1_init_35 : decode cX1_init 35 = .ok (.aload_n 0, 1) := by decide +kernel
theorem dX1_init_36 : decode cX1_init 36 = .ok (.getfield 11, 3) := by decide +kernel
theorem dX1_init_39 : decode cX1_init 39 = .ok (.iload_n 1, 1) := by decide +kernel
theorem dX1_init_40 : decode cX1_init 40 = .ok (.new 9, 3) := by decide +kernel
theorem dX1_init_43 : decode cX1_init 43 = .ok (.dup, 1) := by decide +kernel
theorem dX1_init_44 : decode cX1_init 44 = .ok (.invokespecial 17, 3) := by decide +kernel
theorem dX1_init_47 : decode cX1_init 47 = .ok (.aastore, 1) := by decide +kernel
theorem dX1_init_48 : decode cX1_init 48 = .ok (.iinc 1 1, 3) := by decide +kernel
theorem dX1_init_51 : decode cX1_init 51 = .ok (.goto (-25), 3) := by decide +kernel
theorem dX1_init_54 : decode cX1_init 54 = .ok (.return_, 1) := by decide +kernel
theorem dX1_save_0 : decode cX1_save 0 = .ok (.aload_n 0, 1) := by decide +kernel
theorem dX1_save_1 : decode cX1_save 1 = .ok (.aload_n 0, 1) := by decide +kernel
theorem dX1_save_2 : decode cX1_save 2 = .ok (.getfield 22, 3) := by decide +kernel
theorem dX1_save_5 : decode cX1_save 5 = .ok (.invokevirtual 26, 3) := by decide +kernel
theorem dX1_save_8 : decode cX1_save 8 = .ok (.aload_n 1, 1) := by decide +kernel
theorem dX1_save_9 : decode cX1_save 9 = .ok (.invokevirtual 30, 3) := by decide +kernel
theorem dX1_save_12 : decode cX1_save 12 = .ok (.aload_n 0, 1) := by decide +kernel
theorem dX1_save_13 : decode cX1_save 13 = .ok (.aload_n 0, 1) := by decide +kernel
theorem dX1_save_14 : decode cX1_save 14 = .ok (.getfield 22, 3) := by decide +kernel
theorem dX1_save_17 : decode cX1_save 17 = .ok (.iconst 1, 1) := by decide +kernel
theorem dX1_save_18 : decode cX1_save 18 = .ok (.iadd, 1) := by decide +kernel
theorem dX1_save_19 : decode cX1_save 19 = .ok (.bipush 6, 2) := by decide +kernel
theorem dX1_save_21 : decode cX1_save 21 = .ok (.irem, 1) := by decide +kernel
theorem dX1_save_22 : decode cX1_save 22 = .ok (.putfield 22, 3) := by decide +kernel
theorem dX1_save_25 : decode cX1_save 25 = .ok (.aload_n 0, 1) := by decide +kernel
theorem dX1_save_26 : decode cX1_save 26 = .ok (.aload_n 0, 1) := by decide +kernel
theorem dX1_save_27 : decode cX1_save 27 = .ok (.getfield 34, 3) := by decide +kernel
theorem dX1_save_30 : decode cX1_save 30 = .ok (.iconst 1, 1) := by decide +kernel
theorem dX1_save_31 : decode cX1_save 31 = .ok (.iadd, 1) := by decide +kernel
theorem dX1_save_32 : decode cX1_save 32 = .ok (.bipush 6, 2) := by decide +kernel
theorem dX1_save_34 : decode cX1_save 34 = .ok (.invokestatic 37, 3) := by decide +kernel
theorem dX1_save_37 : decode cX1_save 37 = .ok (.putfield 34, 3) := by decide +kernel
theorem dX1_save_40 : decode cX1_save 40 = .ok (.return_, 1) := by decide +kernel
theorem dX1_stateAt_0 : decode cX1_stateAt 0 = .ok (.iload_n 1, 1) := by decide +kernel
theorem dX1_stateAt_1 : decode cX1_stateAt 1 = .ok (.ifCond .lt 12, 3) := by decide +kernel
theorem dX1_stateAt_4 : decode cX1_stateAt 4 = .ok (.iload_n 1, 1) := by decide +kernel
theorem dX1_stateAt_5 : decode cX1_stateAt 5 = .ok (.aload_n 0, 1) := by decide +kernel
theorem dX1_stateAt_6 : decode cX1_stateAt 6 = .ok (.getfield 11, 3) := by decide +kernel
theorem dX1_stateAt_9 : decode cX1_stateAt 9 = .ok (.arraylength, 1) := by decide +kernel
theorem dX1_stateAt_10 : decode cX1_stateAt 10 = .ok (.if_icmp .lt 8, 3) := by decide +kernel
theorem dX1_stateAt_13 : decode cX1_stateAt 13 = .ok (.aload_n 0, 1) := by decide +kernel
theorem dX1_stateAt_14 : decode cX1_stateAt 14 = .ok (.getfield 18, 3) := by decide +kernel
theorem dX1_stateAt_17 : decode cX1_stateAt 17 = .ok (.areturn, 1) := by decide +kernel
theorem dX1_stateAt_18 : decode cX1_stateAt 18 = .ok (.aload_n 0, 1) := by decide +kernel
theorem dX1_stateAt_19 : decode cX1_stateAt 19 = .ok (.getfield 11, 3) := by decide +kernel
theorem dX1_stateAt_22 : decode cX1_stateAt 22 = .ok (.iload_n 1, 1) := by decide +kernel
theorem dX1_stateAt_23 : decode cX1_stateAt 23 = .ok (.aaload, 1) := by decide +kernel
theorem dX1_stateAt_24 : decode cX1_stateAt 24 = .ok (.astore_n 2, 1) := by decide +kernel
theorem dX1_stateAt_25 : decode cX1_stateAt 25 = .ok (.aload_n 2, 1) := by decide +kernel
theorem dX1_stateAt_26 : decode cX1_stateAt 26 = .ok (.ifnonnull 10, 3) := by decide +kernel
theorem dX1_stateAt_29 : decode cX1_stateAt 29 = .ok (.aload_n 0, 1) := by decide +kernel
theorem dX1_stateAt_30 : decode cX1_stateAt 30 = .ok (.getfield 18, 3) := by decide +kernel
theorem dX1_stateAt_33 : decode cX1_stateAt 33 = .ok (.goto 4, 3) := by decide +kernel
theorem dX1_stateAt_36 : decode cX1_stateAt 36 = .ok (.aload_n 2, 1) := by decide +kernel
theorem dX1_stateAt_37 : decode cX1_stateAt 37 = .ok (.areturn, 1) := by decide +kernel
theorem dX2_init_0 : decode cX2_init 0 = .ok (.aload_n 0, 1) := by decide +kernel
theorem dX2_init_1 : decode cX2_init 1 = .ok (.invokespecial 3, 3) := by decide +kernel
theorem dX2_init_4 : decode cX2_init 4 = .ok (.aload_n 0, 1) := by decide +kernel
theorem dX2_init_5 : decode cX2_init 5 = .ok (.bipush 60, 2) := by decide +kernel
theorem dX2_init_7 : decode cX2_init 7 = .ok (.newarray .char, 2) := by decide +kernel
theorem dX2_init_9 : decode cX2_init 9 = .ok (.putfield 9, 3) := by decide +kernel
theorem dX2_init_12 : decode cX2_init 12 = .ok (.return_, 1) := by decide +kernel
theorem dX3_init_0 : decode cX3_init 0 = .ok (.aload_n 0, 1) := by decide +kernel
theorem dX3_init_1 : decode cX3_init 1 = .ok (.invokespecial 3, 3) := by decide +kernel
theorem dX3_init_4 : decode cX3_init 4 = .ok (.aload_n 0, 1) := by decide +kernel
theorem dX3_init_5 : decode cX3_init 5 = .ok (.bipush 10, 2) := by decide +kernel
theorem dX3_init_7 : decode cX3_init 7 = .ok (.anewarray 9, 3) := by decide +kernel
theorem dX3_init_10 : decode cX3_init 10 = .ok (.putfield 11, 3) := by decide +kernel
theorem dX3_init_13 : decode cX3_init 13 = .ok (.aload_n 0, 1) := by decide +kernel
theorem dX3_init_14 : decode cX3_init 14 = .ok (.new 9, 3) := by decide +kernel
theorem dX3_init_17 : decode cX3_init 17 = .ok (.dup, 1) := by decide +kernel
theorem dX3_init_18 : decode cX3_init 18 = .ok (.invokespecial 17, 3) := by decide +kernel
theorem dX3_init_21 : decode cX3_init 21 = .ok (.putfield 18, 3) := by decide +kernel
theorem dX3_init_24 : decode cX3_init 24 = .ok (.aload_n 0, 1) := by decide +kernel
theorem dX3_init_25 : decode cX3_init 25 = .ok (.iconst 4, 1) := by decide +kernel
theorem dX3_init_26 : decode cX3_init 26 = .ok (.newarray .int, 2) := by decide +kernel
theorem dX3_init_28 : decode cX3_init 28 = .ok (.putfield 22, 3) := by decide +kernel
theorem dX3_init_31 : decode cX3_init 31 = .ok (.aload_n 0, 1) := by decide +kernel
theorem dX3_init_32 : decode cX3_init 32 = .ok (.iconst 4, 1) := by decide +kernel
theorem dX3_init_33 : decode cX3_init 33 = .ok (.newarray .int, 2) := by decide +kernel
theorem dX3_init_35 : decode cX3_init 35 = .ok (.putfield 26, 3) := by decide +kernel
theorem dX3_init_38 : decode cX3_init 38 = .ok (.aload_n 0, 1) := by decide +kernel
theorem dX3_init_39 : decode cX3_init 39 = .ok (.new 29, 3) := by decide +kernel
theorem dX3_init_42 : decode cX3_init 42 = .ok (.dup, 1) := by decide +kernel
theorem dX3_init_43 : decode cX3_init 43 = .ok (.invokespecial 31, 3) := by decide +kernel
theorem dX3_init_46 : decode cX3_init 46 = .ok (.putfield 32, 3) := by decide +kernel
theorem dX3_init_49 : decode cX3_init 49 = .ok (.aload_n 0, 1) := by decide +kernel
theorem dX3_init_50 : decode cX3_init 50 = .ok (.ldc 36, 2) := by decide +kernel
theorem dX3_init_52 : decode cX3_init 52 = .ok (.putfield 37, 3) := by decide +kernel
theorem dX3_init_55 : decode cX3_init 55 = .ok (.aload_n 0, 1) := by decide +kernel
theorem dX3_init_56 : decode cX3_init 56 = .ok (.sipush 1000, 3) := by decide +kernel
theorem dX3_init_59 : decode cX3_init 59 = .ok (.putfield 41, 3) := by decide +kernel
theorem dX3_init_62 : decode cX3_init 62 = .ok (.aload_n 0, 1) := by decide +kernel
theorem dX3_init_63 : decode cX3_init 63 = .ok (.sipush 300, 3) := by decide +kernel
theorem dX3_init_66 : decode cX3_init 66 = .ok (.putfield 44, 3) := by decide +kernel
theorem dX3_init_69 : decode cX3_init 69 = .ok (.aload_n 0, 1) := by decide +kernel
theorem dX3_init_70 : decode cX3_init 70 = .ok (.iconst 2, 1) := by decide +kernel
theorem dX3_init_71 : decode cX3_init 71 = .ok (.putfield 47, 3) := by decide +kernel
theorem dX3_init_74 : decode cX3_init 74 = .ok (.iconst 0, 1) := by decide +kernel
theorem dX3_init_75 : decode cX3_init 75 = .ok (.istore_n 1, 1) := by decide +kernel
theorem dX3_init_76 : decode cX3_init 76 = .ok (.iload_n 1, 1) := by decide +kernel
theorem dX3_init_77 : decode cX3_init 77 = .ok (.aload_n 0, 1) := by decide +kernel
theorem dX3_init_78 : decode cX3_init 78 = .ok (.getfield 11, 3) := by decide +kernel
theorem dX3_init_81 : decode cX3_init 81 = .ok (.arraylength, 1) := by decide +kernel
theorem dX3_init_82 : decode cX3_init 82 = .ok (.if_icmp .ge 22, 3) := by decide +kernel
theorem dX3_init_85 : decode cX3_init 85 = .ok (.aload_n 0, 1) := by decide +kernel
theorem dX3_init_86 : decode cX3_init 86 = .ok (.getfield 11, 3) := by decide +kernel
theorem dX3_init_89 : decode cX3_init 89 = .ok (.iload_n 1, 1) := by decide +kernel
theorem dX3_init_90 : decode cX3_init 90 = .ok (.new 9, 3) := by decide +kernel
theorem dX3_init_93 : decode cX3_init 93 = .ok (.dup, 1) := by decide +kernel
theorem dX3_init_94 : decode cX3_init 94 = .ok (.invokespecial 17, 3) := by decide +kernel
theorem dX3_init_97 : decode cX3_init 97 = .ok (.aastore, 1) := by decide +kernel
theorem dX3_init_98 : decode cX3_init 98 = .ok (.iinc 1 1, 3) := by decide +kernel
theorem dX3_init_101 : decode cX3_init 101 = .ok (.goto (-25), 3) := by decide +kernel
theorem dX3_init_104 : decode cX3_init 104 = .ok (.iconst 0, 1) := by decide +kernel
theorem dX3_init_105 : decode cX3_init 105 = .ok (.istore_n 1, 1) := by decide +kernel
theorem dX3_init_106 : decode cX3_init 106 = .ok (.iload_n 1, 1) := by decide +kernel
theorem dX3_init_107 : decode cX3_init 107 = .ok (.aload_n 0, 1) := by decide +kernel
theorem dX3_init_108 : decode cX3_init 108 = .ok (.getfield 22, 3) := by decide +kernel
theorem dX3_init_111 : decode cX3_init 111 = .ok (.arraylength, 1) := by decide +kernel
theorem dX3_init_112 : decode cX3_init 112 = .ok (.if_icmp .ge 16, 3) := by decide +kernel
theorem dX3_init_115 : decode cX3_init 115 = .ok (.aload_n 0, 1) := by decide +kernel
theorem dX3_init_116 : decode cX3_init 116 = .ok (.getfield 22, 3) := by decide +kernel
theorem dX3_init_119 : decode cX3_init 119 = .ok (.iload_n 1, 1) := by decide +kernel
theorem dX3_init_120 : decode cX3_init 120 = .ok (.iconst 1, 1) := by decide +kernel
theorem dX3_init_121 : decode cX3_init 121 = .ok (.iastore, 1) := by decide +kernel
theorem dX3_init_122 : decode cX3_init 122 = .ok (.iinc 1 1, 3) := by decide +kernel
theorem dX3_init_125 : decode cX3_init 125 = .ok (.goto (-19), 3) := by decide +kernel
theorem dX3_init_128 : decode cX3_init 128 = .ok (.return_, 1) := by decide +kernel
theorem dX3_copyFrom_0 : decode cX3_copyFrom 0 = .ok (.iconst 0, 1) := by decide +kernel
theorem dX3_copyFrom_1 : decode cX3_copyFrom 1 = .ok (.istore_n 2, 1) := by decide +kernel
theorem dX3_copyFrom_2 : decode cX3_copyFrom 2 = .ok (.iload_n 2, 1) := by decide +kernel
theorem dX3_copyFrom_3 : decode cX3_copyFrom 3 = .ok (.aload_n 1, 1) := by decide +kernel
theorem dX3_copyFrom_4 : decode cX3_copyFrom 4 = .ok (.getfield 50, 3) := by decide +kernel
theorem dX3_copyFrom_7 : decode cX3_copyFrom 7 = .ok (.if_icmp .ge 22, 3) := by decide +kernel
theorem dX3_copyFrom_10 : decode cX3_copyFrom 10 = .ok (.aload_n 0, 1) := by decide +kernel
theorem dX3_copyFrom_11 : decode cX3_copyFrom 11 = .ok (.iload_n 2, 1) := by decide +kernel
theorem dX3_copyFrom_12 : decode cX3_copyFrom 12 = .ok (.invokevirtual 53, 3) := by decide +kernel
theorem dX3_copyFrom_15 : decode cX3_copyFrom 15 = .ok (.aload_n 1, 1) := by decide +kernel
theorem dX3_copyFrom_16 : decode cX3_copyFrom 16 = .ok (.iload_n 2, 1) := by decide +kernel
theorem dX3_copyFrom_17 : decode cX3_copyFrom 17 = .ok (.invokevirtual 53, 3) := by decide +kernel
theorem dX3_copyFrom_20 : decode cX3_copyFrom 20 = .ok (.invokevirtual 57, 3) := by decide +kernel
theorem dX3_copyFrom_23 : decode cX3_copyFrom 23 = .ok (.iinc 2 1, 3) := by decide +kernel
theorem dX3_copyFrom_26 : decode cX3_copyFrom 26 = .ok (.goto (-24), 3) := by decide +kernel
theorem dX3_copyFrom_29 : decode cX3_copyFrom 29 = .ok (.aload_n 0, 1) := by decide +kernel
theorem dX3_copyFrom_30 : decode cX3_copyFrom 30 = .ok (.getfield 22, 3) := by decide +kernel
theorem dX3_copyFrom_33 : decode cX3_copyFrom 33 = .ok (.aload_n 1, 1) := by decide +kernel
theorem dX3_copyFrom_34 : decode cX3_copyFrom 34 = .ok (.getfield 22, 3) := by decide +kernel
theorem dX3_copyFrom_37 : decode cX3_copyFrom 37 = .ok (.invokestatic 61, 3) := by decide +kernel
theorem dX3_copyFrom_40 : decode cX3_copyFrom 40 = .ok (.aload_n 0, 1) := by decide +kernel
theorem dX3_copyFrom_41 : decode cX3_copyFrom 41 = .ok (.getfield 26, 3) := by decide +kernel
theorem dX3_copyFrom_44 : decode cX3_copyFrom 44 = .ok (.aload_n 1, 1) := by decide +kernel
theorem dX3_copyFrom_45 : decode cX3_copyFrom 45 = .ok (.getfield 26, 3) := by decide +kernel
theorem dX3_copyFrom_48 : decode cX3_copyFrom 48 = .ok (.invokestatic 61, 3) := by decide +kernel
theorem dX3_copyFrom_51 : decode cX3_copyFrom 51 = .ok (.aload_n 0, 1) := by decide +kernel
theorem dX3_copyFrom_52 : decode cX3_copyFrom 52 = .ok (.aload_n 1, 1) := by decide +kernel
theorem dX3_copyFrom_53 : decode cX3_copyFrom 53 = .ok (.getfield 37, 3) := by decide +kernel
theorem dX3_copyFrom_56 : decode cX3_copyFrom 56 = .ok (.putfield 37, 3) := by decide +kernel
theorem dX3_copyFrom_59 : decode cX3_copyFrom 59 = .ok (.aload_n 0, 1) := by decide +kernel
theorem dX3_copyFrom_60 : decode cX3_copyFrom 60 = .ok (.aload_n 1, 1) := by decide +kernel
theorem dX3_copyFrom_61 : decode cX3_copyFrom 61 = .ok (.getfield 50, 3) := by decide +kernel
theorem dX3_copyFrom_64 : decode cX3_copyFrom 64 = .ok (.putfield 50, 3) := by decide +kernel
theorem dX3_copyFrom_67 : decode cX3_copyFrom 67 = .ok (.aload_n 0, 1) := by decide +kernel
theorem dX3_copyFrom_68 : decode cX3_copyFrom 68 = .ok (.aload_n 1, 1) := by decide +kernel
theorem dX3_copyFrom_69 : decode cX3_copyFrom 69 = .ok (.getfield 65, 3) := by decide +kernel
theorem dX3_copyFrom_72 : decode cX3_copyFrom 72 = .ok (.putfield 65, 3) := by decide +kernel
theorem dX3_copyFrom_75 : decode cX3_copyFrom 75 = .ok (.aload_n 0, 1) := by decide +kernel
theorem dX3_copyFrom_76 : decode cX3_copyFrom 76 = .ok (.aload_n 1, 1) := by decide +kernel
theorem dX3_copyFrom_77 : decode cX3_copyFrom 77 = .ok (.getfield 41, 3) := by decide +kernel
theorem dX3_copyFrom_80 : decode cX3_copyFrom 80 = .ok (.putfield 41, 3) := by decide +kernel
theorem dX3_copyFrom_83 : decode cX3_copyFrom 83 = .ok (.aload_n 0, 1) := by decide +kernel
theorem dX3_copyFrom_84 : decode cX3_copyFrom 84 = .ok (.aload_n 1, 1) := by decide +kernel
theorem dX3_copyFrom_85 : decode cX3_copyFrom 85 = .ok (.getfield 68, 3) := by decide +kernel
theorem dX3_copyFrom_88 : decode cX3_copyFrom 88 = .ok (.putfield 68, 3) := by decide +kernel
theorem dX3_copyFrom_91 : decode cX3_copyFrom 91 = .ok (.aload_n 0, 1) := by decide +kernel
theorem dX3_copyFrom_92 : decode cX3_copyFrom 92 = .ok (.aload_n 1, 1) := by decide +kernel
theorem dX3_copyFrom_93 : decode cX3_copyFrom 93 = .ok (.getfield 71, 3) := by decide +kernel
theorem dX3_copyFrom_96 : decode cX3_copyFrom 96 = .ok (.putfield 71, 3) := by decide +kernel
theorem dX3_copyFrom_99 : decode cX3_copyFrom 99 = .ok (.aload_n 0, 1) := by decide +kernel
theorem dX3_copyFrom_100 : decode cX3_copyFrom 100 = .ok (.aload_n 1, 1) := by decide +kernel
theorem dX3_copyFrom_101 : decode cX3_copyFrom 101 = .ok (.getfield 44, 3) := by decide +kernel
theorem dX3_copyFrom_104 : decode cX3_copyFrom 104 = .ok (.putfield 44, 3) := by decide +kernel
theorem dX3_copyFrom_107 : decode cX3_copyFrom 107 = .ok (.aload_n 0, 1) := by decide +kernel
theorem dX3_copyFrom_108 : decode cX3_copyFrom 108 = .ok (.aload_n 1, 1) := by decide +kernel
theorem dX3_copyFrom_109 : decode cX3_copyFrom 109 = .ok (.getfield 47, 3) := by decide +kernel
theorem dX3_copyFrom_112 : decode cX3_copyFrom 112 = .ok (.putfield 47, 3) := by decide +kernel
theorem dX3_copyFrom_115 : decode cX3_copyFrom 115 = .ok (.return_, 1) := by decide +kernel
theorem dX3_has_0 : decode cX3_has 0 = .ok (.iload_n 1, 1) := by decide +kernel
theorem dX3_has_1 : decode cX3_has 1 = .ok (.ifCond .lt 15, 3) := by decide +kernel
theorem dX3_has_4 : decode cX3_has 4 = .ok (.iload_n 1, 1) := by decide +kernel
theorem dX3_has_5 : decode cX3_has 5 = .ok (.aload_n 0, 1) := by decide +kernel
theorem dX3_has_6 : decode cX3_has 6 = .ok (.getfield 50, 3) := by decide +kernel
theorem dX3_has_9 : decode cX3_has 9 = .ok (.if_icmp .ge 7, 3) := by decide +kernel
theorem dX3_has_12 : decode cX3_has 12 = .ok (.iconst 1, 1) := by decide +kernel
theorem dX3_has_13 : decode cX3_has 13 = .ok (.goto 4, 3) := by decide +kernel
theorem dX3_has_16 : decode cX3_has 16 = .ok (.iconst 0, 1) := by decide +kernel
theorem dX3_has_17 : decode cX3_has 17 = .ok (.ireturn, 1) := by decide +kernel
theorem dX3_hasRoom_0 : decode cX3_hasRoom 0 = .ok (.aload_n 0, 1) := by decide +kernel
theorem dX3_hasRoom_1 : decode cX3_hasRoom 1 = .ok (.getfield 50, 3) := by decide +kernel
theorem dX3_hasRoom_4 : decode cX3_hasRoom 4 = .ok (.bipush 10, 2) := by decide +kernel
theorem dX3_hasRoom_6 : decode cX3_hasRoom 6 = .ok (.if_icmp .ge 7, 3) := by decide +kernel
theorem dX3_hasRoom_9 : decode cX3_hasRoom 9 = .ok (.iconst 1, 1) := by decide +kernel
theorem dX3_hasRoom_10 : decode cX3_hasRoom 10 = .ok (.goto 4, 3) := by decide +kernel
theorem dX3_hasRoom_13 : decode cX3_hasRoom 13 = .ok (.iconst 0, 1) := by decide +kernel
theorem dX3_hasRoom_14 : decode cX3_hasRoom 14 = .ok (.ireturn, 1) := by decide +kernel
theorem dX3_hasHoursLeft_0 : decode cX3_hasHoursLeft 0 = .ok (.aload_n 0, 1) := by decide +kernel
theorem dX3_hasHoursLeft_1 : decode cX3_hasHoursLeft 1 = .ok (.getfield 65, 3) := by decide +kernel
theorem dX3_hasHoursLeft_4 : decode cX3_hasHoursLeft 4 = .ok (.sipush 9999, 3) := by decide +kernel
theorem dX3_hasHoursLeft_7 : decode cX3_hasHoursLeft 7 = .ok (.iload_n 1, 1) := by decide +kernel
theorem dX3_hasHoursLeft_8 : decode cX3_hasHoursLeft 8 = .ok (.isub, 1) := by decide +kernel
theorem dX3_hasHoursLeft_9 : decode cX3_hasHoursLeft 9 = .ok (.if_icmp .gt 7, 3) := by decide +kernel
theorem dX3_hasHoursLeft_12 : decode cX3_hasHoursLeft 12 = .ok (.iconst 1, 1) := by decide +kernel
theorem dX3_hasHoursLeft_13 : decode cX3_hasHoursLeft 13 = .ok (.goto 4, 3) := by decide +kernel
theorem dX3_hasHoursLeft_16 : decode cX3_hasHoursLeft 16 = .ok (.iconst 0, 1) := by decide +kernel
theorem dX3_hasHoursLeft_17 : decode cX3_hasHoursLeft 17 = .ok (.ireturn, 1) := by decide +kernel
theorem dX3_at_0 : decode cX3_at 0 = .ok (.iload_n 1, 1) := by decide +kernel
theorem dX3_at_1 : decode cX3_at 1 = .ok (.ifCond .lt 12, 3) := by decide +kernel
theorem dX3_at_4 : decode cX3_at 4 = .ok (.iload_n 1, 1) := by decide +kernel
theorem dX3_at_5 : decode cX3_at 5 = .ok (.aload_n 0, 1) := by decide +kernel
theorem dX3_at_6 : decode cX3_at 6 = .ok (.getfield 11, 3) := by decide +kernel
theorem dX3_at_9 : decode cX3_at 9 = .ok (.arraylength, 1) := by decide +kernel
theorem dX3_at_10 : decode cX3_at 10 = .ok (.if_icmp .lt 8, 3) := by decide +kernel
theorem dX3_at_13 : decode cX3_at 13 = .ok (.aload_n 0, 1) := by decide +kernel
theorem dX3_at_14 : decode cX3_at 14 = .ok (.getfield 18, 3) := by decide +kernel
theorem dX3_at_17 : decode cX3_at 17 = .ok (.areturn, 1) := by decide +kernel
theorem dX3_at_18 : decode cX3_at 18 = .ok (.aload_n 0, 1) := by decide +kernel
theorem dX3_at_19 : decode cX3_at 19 = .ok (.getfield 11, 3) := by decide +kernel
theorem dX3_at_22 : decode cX3_at 22 = .ok (.iload_n 1, 1) := by decide +kernel
theorem dX3_at_23 : decode cX3_at 23 = .ok (.aaload, 1) := by decide +kernel
theorem dX3_at_24 : decode cX3_at 24 = .ok (.astore_n 2, 1) := by decide +kernel
theorem dX3_at_25 : decode cX3_at 25 = .ok (.aload_n 2, 1) := by decide +kernel
theorem dX3_at_26 : decode cX3_at 26 = .ok (.ifnonnull 10, 3) := by decide +kernel
theorem dX3_at_29 : decode cX3_at 29 = .ok (.aload_n 0, 1) := by decide +kernel
theorem dX3_at_30 : decode cX3_at 30 = .ok (.getfield 18, 3) := by decide +kernel
theorem dX3_at_33 : decode cX3_at 33 = .ok (.goto 4, 3) := by decide +kernel
theorem dX3_at_36 : decode cX3_at 36 = .ok (.aload_n 2, 1) := by decide +kernel
theorem dX3_at_37 : decode cX3_at 37 = .ok (.areturn, 1) := by decide +kernel
theorem dX3_add_0 : decode cX3_add 0 = .ok (.aload_n 0, 1) := by decide +kernel
theorem dX3_add_1 : decode cX3_add 1 = .ok (.getfield 50, 3) := by decide +kernel
theorem dX3_add_4 : decode cX3_add 4 = .ok (.istore 5, 2) := by decide +kernel
theorem dX3_add_6 : decode cX3_add 6 = .ok (.aload_n 0, 1) := by decide +kernel
theorem dX3_add_7 : decode cX3_add 7 = .ok (.iload 5, 2) := by decide +kernel
theorem dX3_add_9 : decode cX3_add 9 = .ok (.invokevirtual 53, 3) := by decide +kernel
theorem dX3_add_12 : decode cX3_add 12 = .ok (.iload_n 1, 1) := by decide +kernel
theorem dX3_add_13 : decode cX3_add 13 = .ok (.iload_n 2, 1) := by decide +kernel
theorem dX3_add_14 : decode cX3_add 14 = .ok (.iload_n 3, 1) := by decide +kernel
theorem dX3_add_15 : decode cX3_add 15 = .ok (.iload 4, 2) := by decide +kernel
theorem dX3_add_17 : decode cX3_add 17 = .ok (.aload_n 0, 1) := by decide +kernel
theorem dX3_add_18 : decode cX3_add 18 = .ok (.getfield 41, 3) := by decide +kernel
theorem dX3_add_21 : decode cX3_add 21 = .ok (.invokevirtual 74, 3) := by decide +kernel
theorem dX3_add_24 : decode cX3_add 24 = .ok (.aload_n 0, 1) := by decide +kernel
theorem dX3_add_25 : decode cX3_add 25 = .ok (.dup, 1) := by decide +kernel
theorem dX3_add_26 : decode cX3_add 26 = .ok (.getfield 50, 3) := by decide +kernel
theorem dX3_add_29 : decode cX3_add 29 = .ok (.iconst 1, 1) := by decide +kernel
theorem dX3_add_30 : decode cX3_add 30 = .ok (.iadd, 1) := by decide +kernel
theorem dX3_add_31 : decode cX3_add 31 = .ok (.putfield 50, 3) := by decide +kernel
theorem dX3_add_34 : decode cX3_add 34 = .ok (.iload 5, 2) := by decide +kernel
theorem dX3_add_36 : decode cX3_add 36 = .ok (.ireturn, 1) := by decide +kernel
theorem dX3_changePeriod_0 : decode cX3_changePeriod 0 = .ok (.iload_n 1, 1) := by decide +kernel
theorem dX3_changePeriod_1 : decode cX3_changePeriod 1 = .ok (.ifCond .lt 19, 3) := by decide +kernel
theorem dX3_changePeriod_4 : decode cX3_changePeriod 4 = .ok (.iload_n 1, 1) := by decide +kernel
theorem dX3_changePeriod_5 : decode cX3_changePeriod 5 = .ok (.aload_n 0, 1) := by decide +kernel
theorem dX3_changePeriod_6 : decode cX3_changePeriod 6 = .ok (.getfield 22, 3) := by decide +kernel
theorem dX3_changePeriod_9 : decode cX3_changePeriod 9 = .ok (.arraylength, 1) := by decide +kernel
theorem dX3_changePeriod_10 : decode cX3_changePeriod 10 = .ok (.if_icmp .ge 10, 3) := by decide +kernel
theorem dX3_changePeriod_13 : decode cX3_changePeriod 13 = .ok (.aload_n 0, 1) := by decide +kernel
theorem dX3_changePeriod_14 : decode cX3_changePeriod 14 = .ok (.getfield 22, 3) := by decide +kernel
theorem dX3_changePeriod_17 : decode cX3_changePeriod 17 = .ok (.iload_n 1, 1) := by decide +kernel
theorem dX3_changePeriod_18 : decode cX3_changePeriod 18 = .ok (.iload_n 2, 1) := by decide +kernel
theorem dX3_changePeriod_19 : decode cX3_changePeriod 19 = .ok (.iastore, 1) := by decide +kernel
theorem dX3_changePeriod_20 : decode cX3_changePeriod 20 = .ok (.return_, 1) := by decide +kernel
theorem dX3_periodOf_0 : decode cX3_periodOf 0 = .ok (.aload_n 0, 1) := by decide +kernel
theorem dX3_periodOf_1 : decode cX3_periodOf 1 = .ok (.getfield 22, 3) := by decide +kernel
theorem dX3_periodOf_4 : decode cX3_periodOf 4 = .ok (.iload_n 1, 1) := by decide +kernel
theorem dX3_periodOf_5 : decode cX3_periodOf 5 = .ok (.invokestatic 78, 3) := by decide +kernel
theorem dX3_periodOf_8 : decode cX3_periodOf 8 = .ok (.ireturn, 1) := by decide +kernel
theorem dX3_timesReadOf_0 : decode cX3_timesReadOf 0 = .ok (.aload_n 0, 1) := by decide +kernel
theorem dX3_timesReadOf_1 : decode cX3_timesReadOf 1 = .ok (.getfield 26, 3) := by decide +kernel
theorem dX3_timesReadOf_4 : decode cX3_timesReadOf 4 = .ok (.iload_n 1, 1) := by decide +kernel
theorem dX3_timesReadOf_5 : decode cX3_timesReadOf 5 = .ok (.invokestatic 78, 3) := by decide +kernel
theorem dX3_timesReadOf_8 : decode cX3_timesReadOf 8 = .ok (.ireturn, 1) := by decide +kernel
theorem dX3_hoursUntilRead_0 : decode cX3_hoursUntilRead 0 = .ok (.aload_n 0, 1) := by decide +kernel
theorem dX3_hoursUntilRead_1 : decode cX3_hoursUntilRead 1 = .ok (.iload_n 1, 1) := by decide +kernel
theorem dX3_hoursUntilRead_2 : decode cX3_hoursUntilRead 2 = .ok (.invokevirtual 82, 3) := by decide +kernel
theorem dX3_hoursUntilRead_5 : decode cX3_hoursUntilRead 5 = .ok (.aload_n 0, 1) := by decide +kernel
theorem dX3_hoursUntilRead_6 : decode cX3_hoursUntilRead 6 = .ok (.getfield 65, 3) := by decide +kernel
theorem dX3_hoursUntilRead_9 : decode cX3_hoursUntilRead 9 = .ok (.aload_n 0, 1) := by decide +kernel
theorem dX3_hoursUntilRead_10 : decode cX3_hoursUntilRead 10 = .ok (.iload_n 1, 1) := by decide +kernel
theorem dX3_hoursUntilRead_11 : decode cX3_hoursUntilRead 11 = .ok (.invokevirtual 82, 3) := by decide +kernel
theorem dX3_hoursUntilRead_14 : decode cX3_hoursUntilRead 14 = .ok (.invokestatic 86, 3) := by decide +kernel
theorem dX3_hoursUntilRead_17 : decode cX3_hoursUntilRead 17 = .ok (.isub, 1) := by decide +kernel
theorem dX3_hoursUntilRead_18 : decode cX3_hoursUntilRead 18 = .ok (.ireturn, 1) := by decide +kernel
theorem dX3_countInRow_0 : decode cX3_countInRow 0 = .ok (.iconst 0, 1) := by decide +kernel
theorem dX3_countInRow_1 : decode cX3_countInRow 1 = .ok (.istore_n 2, 1) := by decide +kernel
theorem dX3_countInRow_2 : decode cX3_countInRow 2 = .ok (.iconst 0, 1) := by decide +kernel
theorem dX3_countInRow_3 : decode cX3_countInRow 3 = .ok (.istore_n 3, 1) := by decide +kernel
theorem dX3_countInRow_4 : decode cX3_countInRow 4 = .ok (.iload_n 3, 1) := by decide +kernel
theorem dX3_countInRow_5 : decode cX3_countInRow 5 = .ok (.aload_n 0, 1) := by decide +kernel
theorem dX3_countInRow_6 : decode cX3_countInRow 6 = .ok (.getfield 50, 3) := by decide +kernel
theorem dX3_countInRow_9 : decode cX3_countInRow 9 = .ok (.if_icmp .ge 24, 3) := by decide +kernel
theorem dX3_countInRow_12 : decode cX3_countInRow 12 = .ok (.aload_n 0, 1) := by decide +kernel
theorem dX3_countInRow_13 : decode cX3_countInRow 13 = .ok (.iload_n 3, 1) := by decide +kernel
theorem dX3_countInRow_14 : decode cX3_countInRow 14 = .ok (.invokevirtual 53, 3) := by decide +kernel
theorem dX3_countInRow_17 : decode cX3_countInRow 17 = .ok (.getfield 90, 3) := by decide +kernel
theorem dX3_countInRow_20 : decode cX3_countInRow 20 = .ok (.iload_n 1, 1) := by decide +kernel
theorem dX3_countInRow_21 : decode cX3_countInRow 21 = .ok (.if_icmp .ne 6, 3) := by decide +kernel
theorem dX3_countInRow_24 : decode cX3_countInRow 24 = .ok (.iinc 2 1, 3) := by decide +kernel
theorem dX3_countInRow_27 : decode cX3_countInRow 27 = .ok (.iinc 3 1, 3) := by decide +kernel
theorem dX3_countInRow_30 : decode cX3_countInRow 30 = .ok (.goto (-26), 3) := by decide +kernel
theorem dX3_countInRow_33 : decode cX3_countInRow 33 = .ok (.iload_n 2, 1) := by decide +kernel
theorem dX3_countInRow_34 : decode cX3_countInRow 34 = .ok (.ireturn, 1) := by decide +kernel
theorem dX3_passHours_0 : decode cX3_passHours 0 = .ok (.iconst 0, 1) := by decide +kernel
theorem dX3_passHours_1 : decode cX3_passHours 1 = .ok (.istore_n 3, 1) := by decide +kernel
theorem dX3_passHours_2 : decode cX3_passHours 2 = .ok (.iload_n 3, 1) := by decide +kernel
theorem dX3_passHours_3 : decode cX3_passHours 3 = .ok (.iload_n 1, 1) := by decide +kernel
theorem dX3_passHours_4 : decode cX3_passHours 4 = .ok (.if_icmp .ge 36, 3) := by decide +kernel
theorem dX3_passHours_7 : decode cX3_passHours 7 = .ok (.aload_n 0, 1) := by decide +kernel
theorem dX3_passHours_8 : decode cX3_passHours 8 = .ok (.getfield 41, 3) := by decide +kernel
theorem dX3_passHours_11 : decode cX3_passHours 11 = .ok (.iload_n 2, 1) := by decide +kernel
theorem dX3_passHours_12 : decode cX3_passHours 12 = .ok (.iadd, 1) := by decide +kernel
theorem dX3_passHours_13 : decode cX3_passHours 13 = .ok (.istore 4, 2) := by decide +kernel
theorem dX3_passHours_15 : decode cX3_passHours 15 = .ok (.aload_n 0, 1) := by decide +kernel
theorem dX3_passHours_16 : decode cX3_passHours 16 = .ok (.sipush (-5000), 3) := by decide +kernel
theorem dX3_passHours_19 : decode cX3_passHours 19 = .ok (.sipush 5000, 3) := by decide +kernel
theorem dX3_passHours_22 : decode cX3_passHours 22 = .ok (.iload 4, 2) := by decide +kernel
theorem dX3_passHours_24 : decode cX3_passHours 24 = .ok (.invokestatic 93, 3) := by decide +kernel
theorem dX3_passHours_27 : decode cX3_passHours 27 = .ok (.invokestatic 98, 3) := by decide +kernel
theorem dX3_passHours_30 : decode cX3_passHours 30 = .ok (.invokevirtual 101, 3) := by decide +kernel
theorem dX3_passHours_33 : decode cX3_passHours 33 = .ok (.pop, 1) := by decide +kernel
theorem dX3_passHours_34 : decode cX3_passHours 34 = .ok (.iinc 3 1, 3) := by decide +kernel
theorem dX3_passHours_37 : decode cX3_passHours 37 = .ok (.goto (-35), 3) := by decide +kernel
theorem dX3_passHours_40 : decode cX3_passHours 40 = .ok (.return_, 1) := by decide +kernel
theorem dX3_passHour_0 : decode cX3_passHour 0 = .ok (.aload_n 0, 1) := by decide +kernel
theorem dX3_passHour_1 : decode cX3_passHour 1 = .ok (.aload_n 0, 1) := by decide +kernel
theorem dX3_passHour_2 : decode cX3_passHour 2 = .ok (.invokevirtual 104, 3) := by decide +kernel
theorem dX3_passHour_5 : decode cX3_passHour 5 = .ok (.putfield 37, 3) := by decide +kernel
theorem dX3_passHour_8 : decode cX3_passHour 8 = .ok (.aload_n 0, 1) := by decide +kernel
theorem dX3_passHour_9 : decode cX3_passHour 9 = .ok (.dup, 1) := by decide +kernel
theorem dX3_passHour_10 : decode cX3_passHour 10 = .ok (.getfield 65, 3) := by decide +kernel
theorem dX3_passHour_13 : decode cX3_passHour 13 = .ok (.iconst 1, 1) := by decide +kernel
theorem dX3_passHour_14 : decode cX3_passHour 14 = .ok (.iadd, 1) := by decide +kernel
theorem dX3_passHour_15 : decode cX3_passHour 15 = .ok (.putfield 65, 3) := by decide +kernel
theorem dX3_passHour_18 : decode cX3_passHour 18 = .ok (.aload_n 0, 1) := by decide +kernel
theorem dX3_passHour_19 : decode cX3_passHour 19 = .ok (.iload_n 1, 1) := by decide +kernel
theorem dX3_passHour_20 : decode cX3_passHour 20 = .ok (.putfield 41, 3) := by decide +kernel
theorem dX3_passHour_23 : decode cX3_passHour 23 = .ok (.iconst 0, 1) := by decide +kernel
theorem dX3_passHour_24 : decode cX3_passHour 24 = .ok (.istore_n 2, 1) := by decide +kernel
theorem dX3_passHour_25 : decode cX3_passHour 25 = .ok (.iload_n 2, 1) := by decide +kernel
theorem dX3_passHour_26 : decode cX3_passHour 26 = .ok (.aload_n 0, 1) := by decide +kernel
theorem dX3_passHour_27 : decode cX3_passHour 27 = .ok (.getfield 50, 3) := by decide +kernel
theorem dX3_passHour_30 : decode cX3_passHour 30 = .ok (.if_icmp .ge 21, 3) := by decide +kernel
theorem dX3_passHour_33 : decode cX3_passHour 33 = .ok (.aload_n 0, 1) := by decide +kernel
theorem dX3_passHour_34 : decode cX3_passHour 34 = .ok (.iload_n 2, 1) := by decide +kernel
theorem dX3_passHour_35 : decode cX3_passHour 35 = .ok (.invokevirtual 53, 3) := by decide +kernel
theorem dX3_passHour_38 : decode cX3_passHour 38 = .ok (.aload_n 0, 1) := by decide +kernel
theorem dX3_passHour_39 : decode cX3_passHour 39 = .ok (.getfield 41, 3) := by decide +kernel
theorem dX3_passHour_42 : decode cX3_passHour 42 = .ok (.invokevirtual 108, 3) := by decide +kernel
theorem dX3_passHour_45 : decode cX3_passHour 45 = .ok (.iinc 2 1, 3) := by decide +kernel
theorem dX3_passHour_48 : decode cX3_passHour 48 = .ok (.goto (-23), 3) := by decide +kernel
theorem dX3_passHour_51 : decode cX3_passHour 51 = .ok (.aload_n 0, 1) := by decide +kernel
theorem dX3_passHour_52 : decode cX3_passHour 52 = .ok (.getfield 68, 3) := by decide +kernel
theorem dX3_passHour_55 : decode cX3_passHour 55 = .ok (.istore_n 2, 1) := by decide +kernel
theorem dX3_passHour_56 : decode cX3_passHour 56 = .ok (.aload_n 0, 1) := by decide +kernel
theorem dX3_passHour_57 : decode cX3_passHour 57 = .ok (.invokevirtual 112, 3) := by decide +kernel
theorem dX3_passHour_60 : decode cX3_passHour 60 = .ok (.aload_n 0, 1) := by decide +kernel
theorem dX3_passHour_61 : decode cX3_passHour 61 = .ok (.getfield 68, 3) := by decide +kernel
theorem dX3_passHour_64 : decode cX3_passHour 64 = .ok (.iload_n 2, 1) := by decide +kernel
theorem dX3_passHour_65 : decode cX3_passHour 65 = .ok (.if_icmp .le 7, 3) := by decide +kernel
theorem dX3_passHour_68 : decode cX3_passHour 68 = .ok (.aload_n 0, 1) := by decide +kernel
theorem dX3_passHour_69 : decode cX3_passHour 69 = .ok (.invokevirtual 115, 3) := by decide +kernel
theorem dX3_passHour_72 : decode cX3_passHour 72 = .ok (.aload_n 0, 1) := by decide +kernel
theorem dX3_passHour_73 : decode cX3_passHour 73 = .ok (.getfield 68, 3) := by decide +kernel
theorem dX3_passHour_76 : decode cX3_passHour 76 = .ok (.iload_n 2, 1) := by decide +kernel
theorem dX3_passHour_77 : decode cX3_passHour 77 = .ok (.isub, 1) := by decide +kernel
theorem dX3_passHour_78 : decode cX3_passHour 78 = .ok (.ireturn, 1) := by decide +kernel
theorem dX3_readRows_0 : decode cX3_readRows 0 = .ok (.iconst 0, 1) := by decide +kernel
theorem dX3_readRows_1 : decode cX3_readRows 1 = .ok (.istore_n 1, 1) := by decide +kernel
theorem dX3_readRows_2 : decode cX3_readRows 2 = .ok (.iload_n 1, 1) := by decide +kernel
theorem dX3_readRows_3 : decode cX3_readRows 3 = .ok (.aload_n 0, 1) := by decide +kernel
theorem dX3_readRows_4 : decode cX3_readRows 4 = .ok (.getfield 26, 3) := by decide +kernel
theorem dX3_readRows_7 : decode cX3_readRows 7 = .ok (.arraylength, 1) := by decide +kernel
theorem dX3_readRows_8 : decode cX3_readRows 8 = .ok (.if_icmp .ge 27, 3) := by decide +kernel
theorem dX3_readRows_11 : decode cX3_readRows 11 = .ok (.aload_n 0, 1) := by decide +kernel
theorem dX3_readRows_12 : decode cX3_readRows 12 = .ok (.iload_n 1, 1) := by decide +kernel
theorem dX3_readRows_13 : decode cX3_readRows 13 = .ok (.invokevirtual 118, 3) := by decide +kernel
theorem dX3_readRows_16 : decode cX3_readRows 16 = .ok (.ifCond .eq 13, 3) := by decide +kernel
theorem dX3_readRows_19 : decode cX3_readRows 19 = .ok (.aload_n 0, 1) := by decide +kernel
theorem dX3_readRows_20 : decode cX3_readRows 20 = .ok (.getfield 26, 3) := by decide +kernel
theorem dX3_readRows_23 : decode cX3_readRows 23 = .ok (.iload_n 1, 1) := by decide +kernel
theorem dX3_readRows_24 : decode cX3_readRows 24 = .ok (.dup2, 1) := by decide +kernel
theorem dX3_readRows_25 : decode cX3_readRows 25 = .ok (.iaload, 1) := by decide +kernel
theorem dX3_readRows_26 : decode cX3_readRows 26 = .ok (.iconst 1, 1) := by decide +kernel
theorem dX3_readRows_27 : decode cX3_readRows 27 = .ok (.iadd, 1) := by decide +kernel
theorem dX3_readRows_28 : decode cX3_readRows 28 = .ok (.iastore, 1) := by decide +kernel
theorem dX3_readRows_29 : decode cX3_readRows 29 = .ok (.iinc 1 1, 3) := by decide +kernel
theorem dX3_readRows_32 : decode cX3_readRows 32 = .ok (.goto (-30), 3) := by decide +kernel
theorem dX3_readRows_35 : decode cX3_readRows 35 = .ok (.iconst 0, 1) := by decide +kernel
theorem dX3_readRows_36 : decode cX3_readRows 36 = .ok (.istore_n 1, 1) := by decide +kernel
theorem dX3_readRows_37 : decode cX3_readRows 37 = .ok (.iload_n 1, 1) := by decide +kernel
theorem dX3_readRows_38 : decode cX3_readRows 38 = .ok (.aload_n 0, 1) := by decide +kernel
theorem dX3_readRows_39 : decode cX3_readRows 39 = .ok (.getfield 50, 3) := by decide +kernel
theorem dX3_readRows_42 : decode cX3_readRows 42 = .ok (.if_icmp .ge 46, 3) := by decide +kernel
theorem dX3_readRows_45 : decode cX3_readRows 45 = .ok (.aload_n 0, 1) := by decide +kernel
theorem dX3_readRows_46 : decode cX3_readRows 46 = .ok (.aload_n 0, 1) := by decide +kernel
theorem dX3_readRows_47 : decode cX3_readRows 47 = .ok (.iload_n 1, 1) := by decide +kernel
theorem dX3_readRows_48 : decode cX3_readRows 48 = .ok (.invokevirtual 53, 3) := by decide +kernel
theorem dX3_readRows_51 : decode cX3_readRows 51 = .ok (.getfield 90, 3) := by decide +kernel
theorem dX3_readRows_54 : decode cX3_readRows 54 = .ok (.invokevirtual 118, 3) := by decide +kernel
theorem dX3_readRows_57 : decode cX3_readRows 57 = .ok (.ifCond .eq 25, 3) := by decide +kernel
theorem dX3_readRows_60 : decode cX3_readRows 60 = .ok (.aload_n 0, 1) := by decide +kernel
theorem dX3_readRows_61 : decode cX3_readRows 61 = .ok (.iload_n 1, 1) := by decide +kernel
theorem dX3_readRows_62 : decode cX3_readRows 62 = .ok (.invokevirtual 53, 3) := by decide +kernel
theorem dX3_readRows_65 : decode cX3_readRows 65 = .ok (.aload_n 0, 1) := by decide +kernel
theorem dX3_readRows_66 : decode cX3_readRows 66 = .ok (.getfield 65, 3) := by decide +kernel
theorem dX3_readRows_69 : decode cX3_readRows 69 = .ok (.invokevirtual 122, 3) := by decide +kernel
theorem dX3_readRows_72 : decode cX3_readRows 72 = .ok (.aload_n 0, 1) := by decide +kernel
theorem dX3_readRows_73 : decode cX3_readRows 73 = .ok (.dup, 1) := by decide +kernel
theorem dX3_readRows_74 : decode cX3_readRows 74 = .ok (.getfield 68, 3) := by decide +kernel
theorem dX3_readRows_77 : decode cX3_readRows 77 = .ok (.iconst 1, 1) := by decide +kernel
theorem dX3_readRows_78 : decode cX3_readRows 78 = .ok (.iadd, 1) := by decide +kernel
theorem dX3_readRows_79 : decode cX3_readRows 79 = .ok (.putfield 68, 3) := by decide +kernel
theorem dX3_readRows_82 : decode cX3_readRows 82 = .ok (.iinc 1 1, 3) := by decide +kernel
theorem dX3_readRows_85 : decode cX3_readRows 85 = .ok (.goto (-48), 3) := by decide +kernel
theorem dX3_readRows_88 : decode cX3_readRows 88 = .ok (.return_, 1) := by decide +kernel
theorem dX3_isReadNow_0 : decode cX3_isReadNow 0 = .ok (.aload_n 0, 1) := by decide +kernel
theorem dX3_isReadNow_1 : decode cX3_isReadNow 1 = .ok (.getfield 65, 3) := by decide +kernel
theorem dX3_isReadNow_4 : decode cX3_isReadNow 4 = .ok (.aload_n 0, 1) := by decide +kernel
theorem dX3_isReadNow_5 : decode cX3_isReadNow 5 = .ok (.iload_n 1, 1) := by decide +kernel
theorem dX3_isReadNow_6 : decode cX3_isReadNow 6 = .ok (.invokevirtual 82, 3) := by decide +kernel
theorem dX3_isReadNow_9 : decode cX3_isReadNow 9 = .ok (.invokestatic 86, 3) := by decide +kernel
theorem dX3_isReadNow_12 : decode cX3_isReadNow 12 = .ok (.ifCond .ne 7, 3) := by decide +kernel
theorem dX3_isReadNow_15 : decode cX3_isReadNow 15 = .ok (.iconst 1, 1) := by decide +kernel
theorem dX3_isReadNow_16 : decode cX3_isReadNow 16 = .ok (.goto 4, 3) := by decide +kernel
theorem dX3_isReadNow_19 : decode cX3_isReadNow 19 = .ok (.iconst 0, 1) := by decide +kernel
theorem dX3_isReadNow_20 : decode cX3_isReadNow 20 = .ok (.ireturn, 1) := by decide +kernel
theorem dX3_lookForSpikes_0 : decode cX3_lookForSpikes 0 = .ok (.aload_n 0, 1) := by decide +kernel
theorem dX3_lookForSpikes_1 : decode cX3_lookForSpikes 1 = .ok (.invokevirtual 125, 3) := by decide +kernel
theorem dX3_lookForSpikes_4 : decode cX3_lookForSpikes 4 = .ok (.invokestatic 128, 3) := by decide +kernel
theorem dX3_lookForSpikes_7 : decode cX3_lookForSpikes 7 = .ok (.iconst 2, 1) := by decide +kernel
theorem dX3_lookForSpikes_8 : decode cX3_lookForSpikes 8 = .ok (.if_icmp .ge 4, 3) := by decide +kernel
theorem dX3_lookForSpikes_11 : decode cX3_lookForSpikes 11 = .ok (.return_, 1) := by decide +kernel
theorem dX3_lookForSpikes_12 : decode cX3_lookForSpikes 12 = .ok (.iconst 0, 1) := by decide +kernel
theorem dX3_lookForSpikes_13 : decode cX3_lookForSpikes 13 = .ok (.istore_n 1, 1) := by decide +kernel
theorem dX3_lookForSpikes_14 : decode cX3_lookForSpikes 14 = .ok (.iload_n 1, 1) := by decide +kernel
theorem dX3_lookForSpikes_15 : decode cX3_lookForSpikes 15 = .ok (.aload_n 0, 1) := by decide +kernel
theorem dX3_lookForSpikes_16 : decode cX3_lookForSpikes 16 = .ok (.getfield 50, 3) := by decide +kernel
theorem dX3_lookForSpikes_19 : decode cX3_lookForSpikes 19 = .ok (.if_icmp .ge 29, 3) := by decide +kernel
theorem dX3_lookForSpikes_22 : decode cX3_lookForSpikes 22 = .ok (.aload_n 0, 1) := by decide +kernel
theorem dX3_lookForSpikes_23 : decode cX3_lookForSpikes 23 = .ok (.iload_n 1, 1) := by decide +kernel
theorem dX3_lookForSpikes_24 : decode cX3_lookForSpikes 24 = .ok (.invokevirtual 53, 3) := by decide +kernel
theorem dX3_lookForSpikes_27 : decode cX3_lookForSpikes 27 = .ok (.aload_n 0, 1) := by decide +kernel
theorem dX3_lookForSpikes_28 : decode cX3_lookForSpikes 28 = .ok (.getfield 65, 3) := by decide +kernel
theorem dX3_lookForSpikes_31 : decode cX3_lookForSpikes 31 = .ok (.invokevirtual 133, 3) := by decide +kernel
theorem dX3_lookForSpikes_34 : decode cX3_lookForSpikes 34 = .ok (.ifCond .eq 8, 3) := by decide +kernel
theorem dX3_lookForSpikes_37 : decode cX3_lookForSpikes 37 = .ok (.aload_n 0, 1) := by decide +kernel
theorem dX3_lookForSpikes_38 : decode cX3_lookForSpikes 38 = .ok (.iload_n 1, 1) := by decide +kernel
theorem dX3_lookForSpikes_39 : decode cX3_lookForSpikes 39 = .ok (.invokevirtual 136, 3) := by decide +kernel
theorem dX3_lookForSpikes_42 : decode cX3_lookForSpikes 42 = .ok (.iinc 1 1, 3) := by decide +kernel
theorem dX3_lookForSpikes_45 : decode cX3_lookForSpikes 45 = .ok (.goto (-31), 3) := by decide +kernel
theorem dX3_lookForSpikes_48 : decode cX3_lookForSpikes 48 = .ok (.iconst 0, 1) := by decide +kernel
theorem dX3_lookForSpikes_49 : decode cX3_lookForSpikes 49 = .ok (.istore_n 1, 1) := by decide +kernel
theorem dX3_lookForSpikes_50 : decode cX3_lookForSpikes 50 = .ok (.iload_n 1, 1) := by decide +kernel
theorem dX3_lookForSpikes_51 : decode cX3_lookForSpikes 51 = .ok (.aload_n 0, 1) := by decide +kernel
theorem dX3_lookForSpikes_52 : decode cX3_lookForSpikes 52 = .ok (.getfield 50, 3) := by decide +kernel
theorem dX3_lookForSpikes_55 : decode cX3_lookForSpikes 55 = .ok (.if_icmp .ge 36, 3) := by decide +kernel
theorem dX3_lookForSpikes_58 : decode cX3_lookForSpikes 58 = .ok (.aload_n 0, 1) := by decide +kernel
theorem dX3_lookForSpikes_59 : decode cX3_lookForSpikes 59 = .ok (.iload_n 1, 1) := by decide +kernel
theorem dX3_lookForSpikes_60 : decode cX3_lookForSpikes 60 = .ok (.invokevirtual 53, 3) := by decide +kernel
theorem dX3_lookForSpikes_63 : decode cX3_lookForSpikes 63 = .ok (.aload_n 0, 1) := by decide +kernel
theorem dX3_lookForSpikes_64 : decode cX3_lookForSpikes 64 = .ok (.getfield 65, 3) := by decide +kernel
theorem dX3_lookForSpikes_67 : decode cX3_lookForSpikes 67 = .ok (.invokevirtual 133, 3) := by decide +kernel
theorem dX3_lookForSpikes_70 : decode cX3_lookForSpikes 70 = .ok (.ifCond .eq 15, 3) := by decide +kernel
theorem dX3_lookForSpikes_73 : decode cX3_lookForSpikes 73 = .ok (.aload_n 0, 1) := by decide +kernel
theorem dX3_lookForSpikes_74 : decode cX3_lookForSpikes 74 = .ok (.iload_n 1, 1) := by decide +kernel
theorem dX3_lookForSpikes_75 : decode cX3_lookForSpikes 75 = .ok (.invokevirtual 53, 3) := by decide +kernel
theorem dX3_lookForSpikes_78 : decode cX3_lookForSpikes 78 = .ok (.aload_n 0, 1) := by decide +kernel
theorem dX3_lookForSpikes_79 : decode cX3_lookForSpikes 79 = .ok (.getfield 47, 3) := by decide +kernel
theorem dX3_lookForSpikes_82 : decode cX3_lookForSpikes 82 = .ok (.invokevirtual 139, 3) := by decide +kernel
theorem dX3_lookForSpikes_85 : decode cX3_lookForSpikes 85 = .ok (.iinc 1 1, 3) := by decide +kernel
theorem dX3_lookForSpikes_88 : decode cX3_lookForSpikes 88 = .ok (.goto (-38), 3) := by decide +kernel
theorem dX3_lookForSpikes_91 : decode cX3_lookForSpikes 91 = .ok (.return_, 1) := by decide +kernel
theorem dX3_compareWithOthers_0 : decode cX3_compareWithOthers 0 = .ok (.aload_n 0, 1) := by decide +kernel
theorem dX3_compareWithOthers_1 : decode cX3_compareWithOthers 1 = .ok (.iload_n 1, 1) := by decide +kernel
theorem dX3_compareWithOthers_2 : decode cX3_compareWithOthers 2 = .ok (.invokevirtual 53, 3) := by decide +kernel
theorem dX3_compareWithOthers_5 : decode cX3_compareWithOthers 5 = .ok (.getfield 142, 3) := by decide +kernel
theorem dX3_compareWithOthers_8 : decode cX3_compareWithOthers 8 = .ok (.istore_n 2, 1) := by decide +kernel
theorem dX3_compareWithOthers_9 : decode cX3_compareWithOthers 9 = .ok (.aload_n 0, 1) := by decide +kernel
theorem dX3_compareWithOthers_10 : decode cX3_compareWithOthers 10 = .ok (.iload_n 1, 1) := by decide +kernel
theorem dX3_compareWithOthers_11 : decode cX3_compareWithOthers 11 = .ok (.invokevirtual 53, 3) := by decide +kernel
theorem dX3_compareWithOthers_14 : decode cX3_compareWithOthers 14 = .ok (.aload_n 0, 1) := by decide +kernel
theorem dX3_compareWithOthers_15 : decode cX3_compareWithOthers 15 = .ok (.iload_n 1, 1) := by decide +kernel
theorem dX3_compareWithOthers_16 : decode cX3_compareWithOthers 16 = .ok (.invokevirtual 143, 3) := by decide +kernel
theorem dX3_compareWithOthers_19 : decode cX3_compareWithOthers 19 = .ok (.aload_n 0, 1) := by decide +kernel
theorem dX3_compareWithOthers_20 : decode cX3_compareWithOthers 20 = .ok (.getfield 44, 3) := by decide +kernel
theorem dX3_compareWithOthers_23 : decode cX3_compareWithOthers 23 = .ok (.invokevirtual 146, 3) := by decide +kernel
theorem dX3_compareWithOthers_26 : decode cX3_compareWithOthers 26 = .ok (.aload_n 0, 1) := by decide +kernel
theorem dX3_compareWithOthers_27 : decode cX3_compareWithOthers 27 = .ok (.dup, 1) := by decide +kernel
theorem dX3_compareWithOthers_28 : decode cX3_compareWithOthers 28 = .ok (.getfield 71, 3) := by decide +kernel
theorem dX3_compareWithOthers_31 : decode cX3_compareWithOthers 31 = .ok (.aload_n 0, 1) := by decide +kernel
theorem dX3_compareWithOthers_32 : decode cX3_compareWithOthers 32 = .ok (.iload_n 1, 1) := by decide +kernel
theorem dX3_compareWithOthers_33 : decode cX3_compareWithOthers 33 = .ok (.invokevirtual 53, 3) := by decide +kernel
theorem dX3_compareWithOthers_36 : decode cX3_compareWithOthers 36 = .ok (.getfield 142, 3) := by decide +kernel
theorem dX3_compareWithOthers_39 : decode cX3_compareWithOthers 39 = .ok (.iload_n 2, 1) := by decide +kernel
theorem dX3_compareWithOthers_40 : decode cX3_compareWithOthers 40 = .ok (.isub, 1) := by decide +kernel
theorem dX3_compareWithOthers_41 : decode cX3_compareWithOthers 41 = .ok (.iadd, 1) := by decide +kernel
theorem dX3_compareWithOthers_42 : decode cX3_compareWithOthers 42 = .ok (.putfield 71, 3) := by decide +kernel
theorem dX3_compareWithOthers_45 : decode cX3_compareWithOthers 45 = .ok (.return_, 1) := by decide +kernel
theorem dX3_middleWithout_0 : decode cX3_middleWithout 0 = .ok (.aload_n 0, 1) := by decide +kernel
theorem dX3_middleWithout_1 : decode cX3_middleWithout 1 = .ok (.getfield 32, 3) := by decide +kernel
theorem dX3_middleWithout_4 : decode cX3_middleWithout 4 = .ok (.invokevirtual 150, 3) := by decide +kernel
theorem dX3_middleWithout_7 : decode cX3_middleWithout 7 = .ok (.iconst 0, 1) := by decide +kernel
theorem dX3_middleWithout_8 : decode cX3_middleWithout 8 = .ok (.istore_n 2, 1) := by decide +kernel
theorem dX3_middleWithout_9 : decode cX3_middleWithout 9 = .ok (.iload_n 2, 1) := by decide +kernel
theorem dX3_middleWithout_10 : decode cX3_middleWithout 10 = .ok (.aload_n 0, 1) := by decide +kernel
theorem dX3_middleWithout_11 : decode cX3_middleWithout 11 = .ok (.getfield 50, 3) := by decide +kernel
theorem dX3_middleWithout_14 : decode cX3_middleWithout 14 = .ok (.if_icmp .ge 40, 3) := by decide +kernel
theorem dX3_middleWithout_17 : decode cX3_middleWithout 17 = .ok (.iload_n 2, 1) := by decide +kernel
theorem dX3_middleWithout_18 : decode cX3_middleWithout 18 = .ok (.iload_n 1, 1) := by decide +kernel
theorem dX3_middleWithout_19 : decode cX3_middleWithout 19 = .ok (.if_icmp .eq 29, 3) := by decide +kernel
theorem dX3_middleWithout_22 : decode cX3_middleWithout 22 = .ok (.aload_n 0, 1) := by decide +kernel
theorem dX3_middleWithout_23 : decode cX3_middleWithout 23 = .ok (.iload_n 2, 1) := by decide +kernel
theorem dX3_middleWithout_24 : decode cX3_middleWithout 24 = .ok (.invokevirtual 53, 3) := by decide +kernel
theorem dX3_middleWithout_27 : decode cX3_middleWithout 27 = .ok (.invokevirtual 153, 3) := by decide +kernel
theorem dX3_middleWithout_30 : decode cX3_middleWithout 30 = .ok (.ifCond .eq 18, 3) := by decide +kernel
theorem dX3_middleWithout_33 : decode cX3_middleWithout 33 = .ok (.aload_n 0, 1) := by decide +kernel
theorem dX3_middleWithout_34 : decode cX3_middleWithout 34 = .ok (.getfield 32, 3) := by decide +kernel
theorem dX3_middleWithout_37 : decode cX3_middleWithout 37 = .ok (.aload_n 0, 1) := by decide +kernel
theorem dX3_middleWithout_38 : decode cX3_middleWithout 38 = .ok (.iload_n 2, 1) := by decide +kernel
theorem dX3_middleWithout_39 : decode cX3_middleWithout 39 = .ok (.invokevirtual 53, 3) := by decide +kernel
theorem dX3_middleWithout_42 : decode cX3_middleWithout 42 = .ok (.getfield 157, 3) := by decide +kernel
theorem dX3_middleWithout_45 : decode cX3_middleWithout 45 = .ok (.invokevirtual 160, 3) := by decide +kernel
theorem dX3_middleWithout_48 : decode cX3_middleWithout 48 = .ok (.iinc 2 1, 3) := by decide +kernel
theorem dX3_middleWithout_51 : decode cX3_middleWithout 51 = .ok (.goto (-42), 3) := by decide +kernel
theorem dX3_middleWithout_54 : decode cX3_middleWithout 54 = .ok (.aload_n 0, 1) := by decide +kernel
theorem dX3_middleWithout_55 : decode cX3_middleWithout 55 = .ok (.getfield 32, 3) := by decide +kernel
theorem dX3_middleWithout_58 : decode cX3_middleWithout 58 = .ok (.invokevirtual 163, 3) := by decide +kernel
theorem dX3_middleWithout_61 : decode cX3_middleWithout 61 = .ok (.ireturn, 1) := by decide +kernel
theorem dX3_maskOfAsked_0 : decode cX3_maskOfAsked 0 = .ok (.iconst 0, 1) := by decide +kernel
theorem dX3_maskOfAsked_1 : decode cX3_maskOfAsked 1 = .ok (.istore_n 1, 1) := by decide +kernel
theorem dX3_maskOfAsked_2 : decode cX3_maskOfAsked 2 = .ok (.iconst 0, 1) := by decide +kernel
theorem dX3_maskOfAsked_3 : decode cX3_maskOfAsked 3 = .ok (.istore_n 2, 1) := by decide +kernel
theorem dX3_maskOfAsked_4 : decode cX3_maskOfAsked 4 = .ok (.iload_n 2, 1) := by decide +kernel
theorem dX3_maskOfAsked_5 : decode cX3_maskOfAsked 5 = .ok (.aload_n 0, 1) := by decide +kernel
theorem dX3_maskOfAsked_6 : decode cX3_maskOfAsked 6 = .ok (.getfield 50, 3) := by decide +kernel
theorem dX3_maskOfAsked_9 : decode cX3_maskOfAsked 9 = .ok (.if_icmp .ge 26, 3) := by decide +kernel
theorem dX3_maskOfAsked_12 : decode cX3_maskOfAsked 12 = .ok (.aload_n 0, 1) := by decide +kernel
theorem dX3_maskOfAsked_13 : decode cX3_maskOfAsked 13 = .ok (.iload_n 2, 1) := by decide +kernel
theorem dX3_maskOfAsked_14 : decode cX3_maskOfAsked 14 = .ok (.invokevirtual 53, 3) := by decide +kernel
theorem dX3_maskOfAsked_17 : decode cX3_maskOfAsked 17 = .ok (.invokevirtual 153, 3) := by decide +kernel
theorem dX3_maskOfAsked_20 : decode cX3_maskOfAsked 20 = .ok (.ifCond .eq 9, 3) := by decide +kernel
theorem dX3_maskOfAsked_23 : decode cX3_maskOfAsked 23 = .ok (.iload_n 1, 1) := by decide +kernel
theorem dX3_maskOfAsked_24 : decode cX3_maskOfAsked 24 = .ok (.iconst 1, 1) := by decide +kernel
theorem dX3_maskOfAsked_25 : decode cX3_maskOfAsked 25 = .ok (.iload_n 2, 1) := by decide +kernel
theorem dX3_maskOfAsked_26 : decode cX3_maskOfAsked 26 = .ok (.ishl, 1) := by decide +kernel
theorem dX3_maskOfAsked_27 : decode cX3_maskOfAsked 27 = .ok (.ior, 1) := by decide +kernel
theorem dX3_maskOfAsked_28 : decode cX3_maskOfAsked 28 = .ok (.istore_n 1, 1) := by decide +kernel
theorem dX3_maskOfAsked_29 : decode cX3_maskOfAsked 29 = .ok (.iinc 2 1, 3) := by decide +kernel
theorem dX3_maskOfAsked_32 : decode cX3_maskOfAsked 32 = .ok (.goto (-28), 3) := by decide +kernel
theorem dX3_maskOfAsked_35 : decode cX3_maskOfAsked 35 = .ok (.iload_n 1, 1) := by decide +kernel
theorem dX3_maskOfAsked_36 : decode cX3_maskOfAsked 36 = .ok (.ireturn, 1) := by decide +kernel
theorem dX3_maskOfShutOut_0 : decode cX3_maskOfShutOut 0 = .ok (.iconst 0, 1) := by decide +kernel
theorem dX3_maskOfShutOut_1 : decode cX3_maskOfShutOut 1 = .ok (.istore_n 1, 1) := by decide +kernel
theorem dX3_maskOfShutOut_2 : decode cX3_maskOfShutOut 2 = .ok (.iconst 0, 1) := by decide +kernel
theorem dX3_maskOfShutOut_3 : decode cX3_maskOfShutOut 3 = .ok (.istore_n 2, 1) := by decide +kernel
theorem dX3_maskOfShutOut_4 : decode cX3_maskOfShutOut 4 = .ok (.iload_n 2, 1) := by decide +kernel
theorem dX3_maskOfShutOut_5 : decode cX3_maskOfShutOut 5 = .ok (.aload_n 0, 1) := by decide +kernel
theorem dX3_maskOfShutOut_6 : decode cX3_maskOfShutOut 6 = .ok (.getfield 50, 3) := by decide +kernel
theorem dX3_maskOfShutOut_9 : decode cX3_maskOfShutOut 9 = .ok (.if_icmp .ge 26, 3) := by decide +kernel
theorem dX3_maskOfShutOut_12 : decode cX3_maskOfShutOut 12 = .ok (.aload_n 0, 1) := by decide +kernel
theorem dX3_maskOfShutOut_13 : decode cX3_maskOfShutOut 13 = .ok (.iload_n 2, 1) := by decide +kernel
theorem dX3_maskOfShutOut_14 : decode cX3_maskOfShutOut 14 = .ok (.invokevirtual 53, 3) := by decide +kernel
theorem dX3_maskOfShutOut_17 : decode cX3_maskOfShutOut 17 = .ok (.getfield 166, 3) := by decide +kernel
theorem dX3_maskOfShutOut_20 : decode cX3_maskOfShutOut 20 = .ok (.ifCond .eq 9, 3) := by decide +kernel
theorem dX3_maskOfShutOut_23 : decode cX3_maskOfShutOut 23 = .ok (.iload_n 1, 1) := by decide +kernel
theorem dX3_maskOfShutOut_24 : decode cX3_maskOfShutOut 24 = .ok (.iconst 1, 1) := by decide +kernel
theorem dX3_maskOfShutOut_25 : decode cX3_maskOfShutOut 25 = .ok (.iload_n 2, 1) := by decide +kernel
theorem dX3_maskOfShutOut_26 : decode cX3_maskOfShutOut 26 = .ok (.ishl, 1) := by decide +kernel
theorem dX3_maskOfShutOut_27 : decode cX3_maskOfShutOut 27 = .ok (.ior, 1) := by decide +kernel
theorem dX3_maskOfShutOut_28 : decode cX3_maskOfShutOut 28 = .ok (.istore_n 1, 1) := by decide +kernel
theorem dX3_maskOfShutOut_29 : decode cX3_maskOfShutOut 29 = .ok (.iinc 2 1, 3) := by decide +kernel
theorem dX3_maskOfShutOut_32 : decode cX3_maskOfShutOut 32 = .ok (.goto (-28), 3) := by decide +kernel
theorem dX3_maskOfShutOut_35 : decode cX3_maskOfShutOut 35 = .ok (.iload_n 1, 1) := by decide +kernel
theorem dX3_maskOfShutOut_36 : decode cX3_maskOfShutOut 36 = .ok (.ireturn, 1) := by decide +kernel
theorem dX3_mean_0 : decode cX3_mean 0 = .ok (.iconst 0, 1) := by decide +kernel
theorem dX3_mean_1 : decode cX3_mean 1 = .ok (.istore_n 1, 1) := by decide +kernel
theorem dX3_mean_2 : decode cX3_mean 2 = .ok (.iconst 0, 1) := by decide +kernel
theorem dX3_mean_3 : decode cX3_mean 3 = .ok (.istore_n 2, 1) := by decide +kernel
theorem dX3_mean_4 : decode cX3_mean 4 = .ok (.iconst 0, 1) := by decide +kernel
theorem dX3_mean_5 : decode cX3_mean 5 = .ok (.istore_n 3, 1) := by decide +kernel
theorem dX3_mean_6 : decode cX3_mean 6 = .ok (.iload_n 3, 1) := by decide +kernel
theorem dX3_mean_7 : decode cX3_mean 7 = .ok (.aload_n 0, 1) := by decide +kernel
theorem dX3_mean_8 : decode cX3_mean 8 = .ok (.getfield 50, 3) := by decide +kernel
theorem dX3_mean_11 : decode cX3_mean 11 = .ok (.if_icmp .ge 51, 3) := by decide +kernel
theorem dX3_mean_14 : decode cX3_mean 14 = .ok (.aload_n 0, 1) := by decide +kernel
theorem dX3_mean_15 : decode cX3_mean 15 = .ok (.iload_n 3, 1) := by decide +kernel
theorem dX3_mean_16 : decode cX3_mean 16 = .ok (.invokevirtual 53, 3) := by decide +kernel
theorem dX3_mean_19 : decode cX3_mean 19 = .ok (.invokevirtual 153, 3) := by decide +kernel
theorem dX3_mean_22 : decode cX3_mean 22 = .ok (.ifCond .eq 34, 3) := by decide +kernel
theorem dX3_mean_25 : decode cX3_mean 25 = .ok (.iload_n 1, 1) := by decide +kernel
theorem dX3_mean_26 : decode cX3_mean 26 = .ok (.aload_n 0, 1) := by decide +kernel
theorem dX3_mean_27 : decode cX3_mean 27 = .ok (.iload_n 3, 1) := by decide +kernel
theorem dX3_mean_28 : decode cX3_mean 28 = .ok (.invokevirtual 53, 3) := by decide +kernel
theorem dX3_mean_31 : decode cX3_mean 31 = .ok (.getfield 157, 3) := by decide +kernel
theorem dX3_mean_34 : decode cX3_mean 34 = .ok (.aload_n 0, 1) := by decide +kernel
theorem dX3_mean_35 : decode cX3_mean 35 = .ok (.iload_n 3, 1) := by decide +kernel
theorem dX3_mean_36 : decode cX3_mean 36 = .ok (.invokevirtual 53, 3) := by decide +kernel
theorem dX3_mean_39 : decode cX3_mean 39 = .ok (.getfield 170, 3) := by decide +kernel
theorem dX3_mean_42 : decode cX3_mean 42 = .ok (.imul, 1) := by decide +kernel
theorem dX3_mean_43 : decode cX3_mean 43 = .ok (.iadd, 1) := by decide +kernel
theorem dX3_mean_44 : decode cX3_mean 44 = .ok (.istore_n 1, 1) := by decide +kernel
theorem dX3_mean_45 : decode cX3_mean 45 = .ok (.iload_n 2, 1) := by decide +kernel
theorem dX3_mean_46 : decode cX3_mean 46 = .ok (.aload_n 0, 1) := by decide +kernel
theorem dX3_mean_47 : decode cX3_mean 47 = .ok (.iload_n 3, 1) := by decide +kernel
theorem dX3_mean_48 : decode cX3_mean 48 = .ok (.invokevirtual 53, 3) := by decide +kernel
theorem dX3_mean_51 : decode cX3_mean 51 = .ok (.getfield 170, 3) := by decide +kernel
theorem dX3_mean_54 : decode cX3_mean 54 = .ok (.iadd, 1) := by decide +kernel
theorem dX3_mean_55 : decode cX3_mean 55 = .ok (.istore_n 2, 1) := by decide +kernel
theorem dX3_mean_56 : decode cX3_mean 56 = .ok (.iinc 3 1, 3) := by decide +kernel
theorem dX3_mean_59 : decode cX3_mean 59 = .ok (.goto (-53), 3) := by decide +kernel
theorem dX3_mean_62 : decode cX3_mean 62 = .ok (.iload_n 2, 1) := by decide +kernel
theorem dX3_mean_63 : decode cX3_mean 63 = .ok (.ifCond .ne 8, 3) := by decide +kernel
theorem dX3_mean_66 : decode cX3_mean 66 = .ok (.ldc 36, 2) := by decide +kernel
theorem dX3_mean_68 : decode cX3_mean 68 = .ok (.goto 8, 3) := by decide +kernel
theorem dX3_mean_71 : decode cX3_mean 71 = .ok (.iload_n 1, 1) := by decide +kernel
theorem dX3_mean_72 : decode cX3_mean 72 = .ok (.iload_n 2, 1) := by decide +kernel
theorem dX3_mean_73 : decode cX3_mean 73 = .ok (.invokestatic 173, 3) := by decide +kernel
theorem dX3_mean_76 : decode cX3_mean 76 = .ok (.ireturn, 1) := by decide +kernel
theorem dX3_slope_0 : decode cX3_slope 0 = .ok (.aload_n 0, 1) := by decide +kernel
theorem dX3_slope_1 : decode cX3_slope 1 = .ok (.invokevirtual 104, 3) := by decide +kernel
theorem dX3_slope_4 : decode cX3_slope 4 = .ok (.istore_n 1, 1) := by decide +kernel
theorem dX3_slope_5 : decode cX3_slope 5 = .ok (.iload_n 1, 1) := by decide +kernel
theorem dX3_slope_6 : decode cX3_slope 6 = .ok (.ldc 36, 2) := by decide +kernel
theorem dX3_slope_8 : decode cX3_slope 8 = .ok (.if_icmp .eq 12, 3) := by decide +kernel
theorem dX3_slope_11 : decode cX3_slope 11 = .ok (.aload_n 0, 1) := by decide +kernel
theorem dX3_slope_12 : decode cX3_slope 12 = .ok (.getfield 37, 3) := by decide +kernel
theorem dX3_slope_15 : decode cX3_slope 15 = .ok (.ldc 36, 2) := by decide +kernel
theorem dX3_slope_17 : decode cX3_slope 17 = .ok (.if_icmp .ne 8, 3) := by decide +kernel
theorem dX3_slope_20 : decode cX3_slope 20 = .ok (.ldc 36, 2) := by decide +kernel
theorem dX3_slope_22 : decode cX3_slope 22 = .ok (.goto 9, 3) := by decide +kernel
theorem dX3_slope_25 : decode cX3_slope 25 = .ok (.iload_n 1, 1) := by decide +kernel
theorem dX3_slope_26 : decode cX3_slope 26 = .ok (.aload_n 0, 1) := by decide +kernel
theorem dX3_slope_27 : decode cX3_slope 27 = .ok (.getfield 37, 3) := by decide +kernel
theorem dX3_slope_30 : decode cX3_slope 30 = .ok (.isub, 1) := by decide +kernel
theorem dX3_slope_31 : decode cX3_slope 31 = .ok (.ireturn, 1) := by decide +kernel
theorem dX3_atRank_0 : decode cX3_atRank 0 = .ok (.iconst 0, 1) := by decide +kernel
theorem dX3_atRank_1 : decode cX3_atRank 1 = .ok (.istore_n 3, 1) := by decide +kernel
theorem dX3_atRank_2 : decode cX3_atRank 2 = .ok (.iload_n 3, 1) := by decide +kernel
theorem dX3_atRank_3 : decode cX3_atRank 3 = .ok (.aload_n 0, 1) := by decide +kernel
theorem dX3_atRank_4 : decode cX3_atRank 4 = .ok (.getfield 50, 3) := by decide +kernel
theorem dX3_atRank_7 : decode cX3_atRank 7 = .ok (.if_icmp .ge 32, 3) := by decide +kernel
theorem dX3_atRank_10 : decode cX3_atRank 10 = .ok (.aload_n 0, 1) := by decide +kernel
theorem dX3_atRank_11 : decode cX3_atRank 11 = .ok (.iload_n 3, 1) := by decide +kernel
theorem dX3_atRank_12 : decode cX3_atRank 12 = .ok (.invokevirtual 53, 3) := by decide +kernel
theorem dX3_atRank_15 : decode cX3_atRank 15 = .ok (.invokevirtual 176, 3) := by decide +kernel
theorem dX3_atRank_18 : decode cX3_atRank 18 = .ok (.ifCond .eq 15, 3) := by decide +kernel
theorem dX3_atRank_21 : decode cX3_atRank 21 = .ok (.aload_n 0, 1) := by decide +kernel
theorem dX3_atRank_22 : decode cX3_atRank 22 = .ok (.iload_n 3, 1) := by decide +kernel
theorem dX3_atRank_23 : decode cX3_atRank 23 = .ok (.iload_n 1, 1) := by decide +kernel
theorem dX3_atRank_24 : decode cX3_atRank 24 = .ok (.invokevirtual 179, 3) := by decide +kernel
theorem dX3_atRank_27 : decode cX3_atRank 27 = .ok (.iload_n 2, 1) := by decide +kernel
theorem dX3_atRank_28 : decode cX3_atRank 28 = .ok (.if_icmp .ne 5, 3) := by decide +kernel
theorem dX3_atRank_31 : decode cX3_atRank 31 = .ok (.iload_n 3, 1) := by decide +kernel
theorem dX3_atRank_32 : decode cX3_atRank 32 = .ok (.ireturn, 1) := by decide +kernel
theorem dX3_atRank_33 : decode cX3_atRank 33 = .ok (.iinc 3 1, 3) := by decide +kernel
theorem dX3_atRank_36 : decode cX3_atRank 36 = .ok (.goto (-34), 3) := by decide +kernel
theorem dX3_atRank_39 : decode cX3_atRank 39 = .ok (.ldc 36, 2) := by decide +kernel
theorem dX3_atRank_41 : decode cX3_atRank 41 = .ok (.ireturn, 1) := by decide +kernel
theorem dX3_countAheadOf_0 : decode cX3_countAheadOf 0 = .ok (.aload_n 0, 1) := by decide +kernel
theorem dX3_countAheadOf_1 : decode cX3_countAheadOf 1 = .ok (.iload_n 1, 1) := by decide +kernel
theorem dX3_countAheadOf_2 : decode cX3_countAheadOf 2 = .ok (.iload_n 2, 1) := by decide +kernel
theorem dX3_countAheadOf_3 : decode cX3_countAheadOf 3 = .ok (.invokevirtual 182, 3) := by decide +kernel
theorem dX3_countAheadOf_6 : decode cX3_countAheadOf 6 = .ok (.istore_n 3, 1) := by decide +kernel
theorem dX3_countAheadOf_7 : decode cX3_countAheadOf 7 = .ok (.iconst 0, 1) := by decide +kernel
theorem dX3_countAheadOf_8 : decode cX3_countAheadOf 8 = .ok (.istore 4, 2) := by decide +kernel
theorem dX3_countAheadOf_10 : decode cX3_countAheadOf 10 = .ok (.iconst 0, 1) := by decide +kernel
theorem dX3_countAheadOf_11 : decode cX3_countAheadOf 11 = .ok (.istore 5, 2) := by decide +kernel
theorem dX3_countAheadOf_13 : decode cX3_countAheadOf 13 = .ok (.iload 5, 2) := by decide +kernel
theorem dX3_countAheadOf_15 : decode cX3_countAheadOf 15 = .ok (.aload_n 0, 1) := by decide +kernel
theorem dX3_countAheadOf_16 : decode cX3_countAheadOf 16 = .ok (.getfield 50, 3) := by decide +kernel
theorem dX3_countAheadOf_19 : decode cX3_countAheadOf 19 = .ok (.if_icmp .ge 51, 3) := by decide +kernel
theorem dX3_countAheadOf_22 : decode cX3_countAheadOf 22 = .ok (.aload_n 0, 1) := by decide +kernel
theorem dX3_countAheadOf_23 : decode cX3_countAheadOf 23 = .ok (.iload 5, 2) := by decide +kernel
theorem dX3_countAheadOf_25 : decode cX3_countAheadOf 25 = .ok (.iload_n 2, 1) := by decide +kernel
theorem dX3_countAheadOf_26 : decode cX3_countAheadOf 26 = .ok (.invokevirtual 182, 3) := by decide +kernel
theorem dX3_countAheadOf_29 : decode cX3_countAheadOf 29 = .ok (.istore 6, 2) := by decide +kernel
theorem dX3_countAheadOf_31 : decode cX3_countAheadOf 31 = .ok (.aload_n 0, 1) := by decide +kernel
theorem dX3_countAheadOf_32 : decode cX3_countAheadOf 32 = .ok (.iload 5, 2) := by decide +kernel
theorem dX3_countAheadOf_34 : decode cX3_countAheadOf 34 = .ok (.invokevirtual 53, 3) := by decide +kernel
theorem dX3_countAheadOf_37 : decode cX3_countAheadOf 37 = .ok (.invokevirtual 176, 3) := by decide +kernel
theorem dX3_countAheadOf_40 : decode cX3_countAheadOf 40 = .ok (.ifCond .eq 24, 3) := by decide +kernel
theorem dX3_countAheadOf_43 : decode cX3_countAheadOf 43 = .ok (.iload 6, 2) := by decide +kernel
theorem dX3_countAheadOf_45 : decode cX3_countAheadOf 45 = .ok (.iload_n 3, 1) := by decide +kernel
theorem dX3_countAheadOf_46 : decode cX3_countAheadOf 46 = .ok (.if_icmp .lt 15, 3) := by decide +kernel
theorem dX3_countAheadOf_49 : decode cX3_countAheadOf 49 = .ok (.iload 6, 2) := by decide +kernel
theorem dX3_countAheadOf_51 : decode cX3_countAheadOf 51 = .ok (.iload_n 3, 1) := by decide +kernel
theorem dX3_countAheadOf_52 : decode cX3_countAheadOf 52 = .ok (.if_icmp .ne 12, 3) := by decide +kernel
theorem dX3_countAheadOf_55 : decode cX3_countAheadOf 55 = .ok (.iload 5, 2) := by decide +kernel
theorem dX3_countAheadOf_57 : decode cX3_countAheadOf 57 = .ok (.iload_n 1, 1) := by decide +kernel
theorem dX3_countAheadOf_58 : decode cX3_countAheadOf 58 = .ok (.if_icmp .ge 6, 3) := by decide +kernel
theorem dX3_countAheadOf_61 : decode cX3_countAheadOf 61 = .ok (.iinc 4 1, 3) := by decide +kernel
theorem dX3_countAheadOf_64 : decode cX3_countAheadOf 64 = .ok (.iinc 5 1, 3) := by decide +kernel
theorem dX3_countAheadOf_67 : decode cX3_countAheadOf 67 = .ok (.goto (-54), 3) := by decide +kernel
theorem dX3_countAheadOf_70 : decode cX3_countAheadOf 70 = .ok (.iload 4, 2) := by decide +kernel
theorem dX3_countAheadOf_72 : decode cX3_countAheadOf 72 = .ok (.ireturn, 1) := by decide +kernel
theorem dX3_sortKey_0 : decode cX3_sortKey 0 = .ok (.iload_n 2, 1) := by decide +kernel
theorem dX3_sortKey_1 : decode cX3_sortKey 1 = .ok (.iconst 1, 1) := by decide +kernel
theorem dX3_sortKey_2 : decode cX3_sortKey 2 = .ok (.if_icmp .ne 19, 3) := by decide +kernel
theorem dX3_sortKey_5 : decode cX3_sortKey 5 = .ok (.aload_n 0, 1) := by decide +kernel
theorem dX3_sortKey_6 : decode cX3_sortKey 6 = .ok (.iload_n 1, 1) := by decide +kernel
theorem dX3_sortKey_7 : decode cX3_sortKey 7 = .ok (.invokevirtual 53, 3) := by decide +kernel
theorem dX3_sortKey_10 : decode cX3_sortKey 10 = .ok (.aload_n 0, 1) := by decide +kernel
theorem dX3_sortKey_11 : decode cX3_sortKey 11 = .ok (.getfield 41, 3) := by decide +kernel
theorem dX3_sortKey_14 : decode cX3_sortKey 14 = .ok (.invokevirtual 185, 3) := by decide +kernel
theorem dX3_sortKey_17 : decode cX3_sortKey 17 = .ok (.ineg, 1) := by decide +kernel
theorem dX3_sortKey_18 : decode cX3_sortKey 18 = .ok (.goto 11, 3) := by decide +kernel
theorem dX3_sortKey_21 : decode cX3_sortKey 21 = .ok (.aload_n 0, 1) := by decide +kernel
theorem dX3_sortKey_22 : decode cX3_sortKey 22 = .ok (.iload_n 1, 1) := by decide +kernel
theorem dX3_sortKey_23 : decode cX3_sortKey 23 = .ok (.invokevirtual 53, 3) := by decide +kernel
theorem dX3_sortKey_26 : decode cX3_sortKey 26 = .ok (.getfield 157, 3) := by decide +kernel
theorem dX3_sortKey_29 : decode cX3_sortKey 29 = .ok (.ireturn, 1) := by decide +kernel
theorem dX3_countMended_0 : decode cX3_countMended 0 = .ok (.iconst 0, 1) := by decide +kernel
theorem dX3_countMended_1 : decode cX3_countMended 1 = .ok (.istore_n 1, 1) := by decide +kernel
theorem dX3_countMended_2 : decode cX3_countMended 2 = .ok (.iconst 0, 1) := by decide +kernel
theorem dX3_countMended_3 : decode cX3_countMended 3 = .ok (.istore_n 2, 1) := by decide +kernel
theorem dX3_countMended_4 : decode cX3_countMended 4 = .ok (.iload_n 2, 1) := by decide +kernel
theorem dX3_countMended_5 : decode cX3_countMended 5 = .ok (.aload_n 0, 1) := by decide +kernel
theorem dX3_countMended_6 : decode cX3_countMended 6 = .ok (.getfield 50, 3) := by decide +kernel
theorem dX3_countMended_9 : decode cX3_countMended 9 = .ok (.if_icmp .ge 23, 3) := by decide +kernel
theorem dX3_countMended_12 : decode cX3_countMended 12 = .ok (.aload_n 0, 1) := by decide +kernel
theorem dX3_countMended_13 : decode cX3_countMended 13 = .ok (.iload_n 2, 1) := by decide +kernel
theorem dX3_countMended_14 : decode cX3_countMended 14 = .ok (.invokevirtual 53, 3) := by decide +kernel
theorem dX3_countMended_17 : decode cX3_countMended 17 = .ok (.invokevirtual 176, 3) := by decide +kernel
theorem dX3_countMended_20 : decode cX3_countMended 20 = .ok (.ifCond .eq 6, 3) := by decide +kernel
theorem dX3_countMended_23 : decode cX3_countMended 23 = .ok (.iinc 1 1, 3) := by decide +kernel
theorem dX3_countMended_26 : decode cX3_countMended 26 = .ok (.iinc 2 1, 3) := by decide +kernel
theorem dX3_countMended_29 : decode cX3_countMended 29 = .ok (.goto (-25), 3) := by decide +kernel
theorem dX3_countMended_32 : decode cX3_countMended 32 = .ok (.iload_n 1, 1) := by decide +kernel
theorem dX3_countMended_33 : decode cX3_countMended 33 = .ok (.ireturn, 1) := by decide +kernel
theorem dX3_countMendedIn_0 : decode cX3_countMendedIn 0 = .ok (.iconst 0, 1) := by decide +kernel
theorem dX3_countMendedIn_1 : decode cX3_countMendedIn 1 = .ok (.istore_n 3, 1) := by decide +kernel
theorem dX3_countMendedIn_2 : decode cX3_countMendedIn 2 = .ok (.iconst 0, 1) := by decide +kernel
theorem dX3_countMendedIn_3 : decode cX3_countMendedIn 3 = .ok (.istore 4, 2) := by decide +kernel
theorem dX3_countMendedIn_5 : decode cX3_countMendedIn 5 = .ok (.iload 4, 2) := by decide +kernel
theorem dX3_countMendedIn_7 : decode cX3_countMendedIn 7 = .ok (.aload_n 0, 1) := by decide +kernel
theorem dX3_countMendedIn_8 : decode cX3_countMendedIn 8 = .ok (.getfield 50, 3) := by decide +kernel
theorem dX3_countMendedIn_11 : decode cX3_countMendedIn 11 = .ok (.if_icmp .ge 50, 3) := by decide +kernel
theorem dX3_countMendedIn_14 : decode cX3_countMendedIn 14 = .ok (.aload_n 0, 1) := by decide +kernel
theorem dX3_countMendedIn_15 : decode cX3_countMendedIn 15 = .ok (.iload 4, 2) := by decide +kernel
theorem dX3_countMendedIn_17 : decode cX3_countMendedIn 17 = .ok (.invokevirtual 53, 3) := by decide +kernel
theorem dX3_countMendedIn_20 : decode cX3_countMendedIn 20 = .ok (.invokevirtual 176, 3) := by decide +kernel
theorem dX3_countMendedIn_23 : decode cX3_countMendedIn 23 = .ok (.ifCond .eq 32, 3) := by decide +kernel
theorem dX3_countMendedIn_26 : decode cX3_countMendedIn 26 = .ok (.aload_n 0, 1) := by decide +kernel
theorem dX3_countMendedIn_27 : decode cX3_countMendedIn 27 = .ok (.iload 4, 2) := by decide +kernel
theorem dX3_countMendedIn_29 : decode cX3_countMendedIn 29 = .ok (.invokevirtual 53, 3) := by decide +kernel
theorem dX3_countMendedIn_32 : decode cX3_countMendedIn 32 = .ok (.getfield 157, 3) := by decide +kernel
theorem dX3_countMendedIn_35 : decode cX3_countMendedIn 35 = .ok (.iload_n 1, 1) := by decide +kernel
theorem dX3_countMendedIn_36 : decode cX3_countMendedIn 36 = .ok (.if_icmp .lt 19, 3) := by decide +kernel
theorem dX3_countMendedIn_39 : decode cX3_countMendedIn 39 = .ok (.aload_n 0, 1) := by decide +kernel
theorem dX3_countMendedIn_40 : decode cX3_countMendedIn 40 = .ok (.iload 4, 2) := by decide +kernel
theorem dX3_countMendedIn_42 : decode cX3_countMendedIn 42 = .ok (.invokevirtual 53, 3) := by decide +kernel
theorem dX3_countMendedIn_45 : decode cX3_countMendedIn 45 = .ok (.getfield 157, 3) := by decide +kernel
theorem dX3_countMendedIn_48 : decode cX3_countMendedIn 48 = .ok (.iload_n 2, 1) := by decide +kernel
theorem dX3_countMendedIn_49 : decode cX3_countMendedIn 49 = .ok (.if_icmp .gt 6, 3) := by decide +kernel
theorem dX3_countMendedIn_52 : decode cX3_countMendedIn 52 = .ok (.iinc 3 1, 3) := by decide +kernel
theorem dX3_countMendedIn_55 : decode cX3_countMendedIn 55 = .ok (.iinc 4 1, 3) := by decide +kernel
theorem dX3_countMendedIn_58 : decode cX3_countMendedIn 58 = .ok (.goto (-53), 3) := by decide +kernel
theorem dX3_countMendedIn_61 : decode cX3_countMendedIn 61 = .ok (.iload_n 3, 1) := by decide +kernel
theorem dX3_countMendedIn_62 : decode cX3_countMendedIn 62 = .ok (.ireturn, 1) := by decide +kernel
theorem dX3_sumOfErrors_0 : decode cX3_sumOfErrors 0 = .ok (.iconst 0, 1) := by decide +kernel
theorem dX3_sumOfErrors_1 : decode cX3_sumOfErrors 1 = .ok (.istore_n 1, 1) := by decide +kernel
theorem dX3_sumOfErrors_2 : decode cX3_sumOfErrors 2 = .ok (.iconst 0, 1) := by decide +kernel
theorem dX3_sumOfErrors_3 : decode cX3_sumOfErrors 3 = .ok (.istore_n 2, 1) := by decide +kernel
theorem dX3_sumOfErrors_4 : decode cX3_sumOfErrors 4 = .ok (.iload_n 2, 1) := by decide +kernel
theorem dX3_sumOfErrors_5 : decode cX3_sumOfErrors 5 = .ok (.aload_n 0, 1) := by decide +kernel
theorem dX3_sumOfErrors_6 : decode cX3_sumOfErrors 6 = .ok (.getfield 50, 3) := by decide +kernel
theorem dX3_sumOfErrors_9 : decode cX3_sumOfErrors 9 = .ok (.if_icmp .ge 35, 3) := by decide +kernel
theorem dX3_sumOfErrors_12 : decode cX3_sumOfErrors 12 = .ok (.aload_n 0, 1) := by decide +kernel
theorem dX3_sumOfErrors_13 : decode cX3_sumOfErrors 13 = .ok (.iload_n 2, 1) := by decide +kernel
theorem dX3_sumOfErrors_14 : decode cX3_sumOfErrors 14 = .ok (.invokevirtual 53, 3) := by decide +kernel
theorem dX3_sumOfErrors_17 : decode cX3_sumOfErrors 17 = .ok (.invokevirtual 176, 3) := by decide +kernel
theorem dX3_sumOfErrors_20 : decode cX3_sumOfErrors 20 = .ok (.ifCond .eq 18, 3) := by decide +kernel
theorem dX3_sumOfErrors_23 : decode cX3_sumOfErrors 23 = .ok (.iload_n 1, 1) := by decide +kernel
theorem dX3_sumOfErrors_24 : decode cX3_sumOfErrors 24 = .ok (.aload_n 0, 1) := by decide +kernel
theorem dX3_sumOfErrors_25 : decode cX3_sumOfErrors 25 = .ok (.iload_n 2, 1) := by decide +kernel
theorem dX3_sumOfErrors_26 : decode cX3_sumOfErrors 26 = .ok (.invokevirtual 53, 3) := by decide +kernel
theorem dX3_sumOfErrors_29 : decode cX3_sumOfErrors 29 = .ok (.aload_n 0, 1) := by decide +kernel
theorem dX3_sumOfErrors_30 : decode cX3_sumOfErrors 30 = .ok (.getfield 41, 3) := by decide +kernel
theorem dX3_sumOfErrors_33 : decode cX3_sumOfErrors 33 = .ok (.invokevirtual 185, 3) := by decide +kernel
theorem dX3_sumOfErrors_36 : decode cX3_sumOfErrors 36 = .ok (.iadd, 1) := by decide +kernel
theorem dX3_sumOfErrors_37 : decode cX3_sumOfErrors 37 = .ok (.istore_n 1, 1) := by decide +kernel
theorem dX3_sumOfErrors_38 : decode cX3_sumOfErrors 38 = .ok (.iinc 2 1, 3) := by decide +kernel
theorem dX3_sumOfErrors_41 : decode cX3_sumOfErrors 41 = .ok (.goto (-37), 3) := by decide +kernel
theorem dX3_sumOfErrors_44 : decode cX3_sumOfErrors 44 = .ok (.iload_n 1, 1) := by decide +kernel
theorem dX3_sumOfErrors_45 : decode cX3_sumOfErrors 45 = .ok (.ireturn, 1) := by decide +kernel
theorem dX3_greatestDistance_0 : decode cX3_greatestDistance 0 = .ok (.iconst 0, 1) := by decide +kernel
theorem dX3_greatestDistance_1 : decode cX3_greatestDistance 1 = .ok (.istore_n 1, 1) := by decide +kernel
theorem dX3_greatestDistance_2 : decode cX3_greatestDistance 2 = .ok (.iconst 0, 1) := by decide +kernel
theorem dX3_greatestDistance_3 : decode cX3_greatestDistance 3 = .ok (.istore_n 2, 1) := by decide +kernel
theorem dX3_greatestDistance_4 : decode cX3_greatestDistance 4 = .ok (.iload_n 2, 1) := by decide +kernel
theorem dX3_greatestDistance_5 : decode cX3_greatestDistance 5 = .ok (.aload_n 0, 1) := by decide +kernel
theorem dX3_greatestDistance_6 : decode cX3_greatestDistance 6 = .ok (.getfield 50, 3) := by decide +kernel
theorem dX3_greatestDistance_9 : decode cX3_greatestDistance 9 = .ok (.if_icmp .ge 26, 3) := by decide +kernel
theorem dX3_greatestDistance_12 : decode cX3_greatestDistance 12 = .ok (.iload_n 1, 1) := by decide +kernel
theorem dX3_greatestDistance_13 : decode cX3_greatestDistance 13 = .ok (.aload_n 0, 1) := by decide +kernel
theorem dX3_greatestDistance_14 : decode cX3_greatestDistance 14 = .ok (.iload_n 2, 1) := by decide +kernel
theorem dX3_greatestDistance_15 : decode cX3_greatestDistance 15 = .ok (.invokevirtual 53, 3) := by decide +kernel
theorem dX3_greatestDistance_18 : decode cX3_greatestDistance 18 = .ok (.aload_n 0, 1) := by decide +kernel
theorem dX3_greatestDistance_19 : decode cX3_greatestDistance 19 = .ok (.getfield 41, 3) := by decide +kernel
theorem dX3_greatestDistance_22 : decode cX3_greatestDistance 22 = .ok (.invokevirtual 188, 3) := by decide +kernel
theorem dX3_greatestDistance_25 : decode cX3_greatestDistance 25 = .ok (.invokestatic 98, 3) := by decide +kernel
theorem dX3_greatestDistance_28 : decode cX3_greatestDistance 28 = .ok (.istore_n 1, 1) := by decide +kernel
theorem dX3_greatestDistance_29 : decode cX3_greatestDistance 29 = .ok (.iinc 2 1, 3) := by decide +kernel
theorem dX3_greatestDistance_32 : decode cX3_greatestDistance 32 = .ok (.goto (-28), 3) := by decide +kernel
theorem dX3_greatestDistance_35 : decode cX3_greatestDistance 35 = .ok (.iload_n 1, 1) := by decide +kernel
theorem dX3_greatestDistance_36 : decode cX3_greatestDistance 36 = .ok (.ireturn, 1) := by decide +kernel
theorem dX4_init_0 : decode cX4_init 0 = .ok (.aload_n 0, 1) := by decide +kernel
theorem dX4_init_1 : decode cX4_init 1 = .ok (.invokespecial 1, 3) := by decide +kernel
theorem dX4_init_4 : decode cX4_init 4 = .ok (.aload_n 0, 1) := by decide +kernel
theorem dX4_init_5 : decode cX4_init 5 = .ok (.new 7, 3) := by decide +kernel
theorem dX4_init_8 : decode cX4_init 8 = .ok (.dup, 1) := by decide +kernel
theorem dX4_init_9 : decode cX4_init 9 = .ok (.invokespecial 9, 3) := by decide +kernel
theorem dX4_init_12 : decode cX4_init 12 = .ok (.putfield 10, 3) := by decide +kernel
theorem dX4_init_15 : decode cX4_init 15 = .ok (.return_, 1) := by decide +kernel
theorem dX5_init_0 : decode cX5_init 0 = .ok (.aload_n 0, 1) := by decide +kernel
theorem dX5_init_1 : decode cX5_init 1 = .ok (.invokespecial 3, 3) := by decide +kernel
theorem dX5_init_4 : decode cX5_init 4 = .ok (.aload_n 0, 1) := by decide +kernel
theorem dX5_init_5 : decode cX5_init 5 = .ok (.bipush 6, 2) := by decide +kernel
theorem dX5_init_7 : decode cX5_init 7 = .ok (.newarray .int, 2) := by decide +kernel
theorem dX5_init_9 : decode cX5_init 9 = .ok (.putfield 9, 3) := by decide +kernel
theorem dX5_init_12 : decode cX5_init 12 = .ok (.aload_n 0, 1) := by decide +kernel
theorem dX5_init_13 : decode cX5_init 13 = .ok (.bipush 6, 2) := by decide +kernel
theorem dX5_init_15 : decode cX5_init 15 = .ok (.newarray .int, 2) := by decide +kernel
theorem dX5_init_17 : decode cX5_init 17 = .ok (.putfield 15, 3) := by decide +kernel
theorem dX5_init_20 : decode cX5_init 20 = .ok (.aload_n 0, 1) := by decide +kernel
theorem dX5_init_21 : decode cX5_init 21 = .ok (.iconst 1, 1) := by decide +kernel
theorem dX5_init_22 : decode cX5_init 22 = .ok (.putfield 18, 3) := by decide +kernel
theorem dX5_init_25 : decode cX5_init 25 = .ok (.aload_n 0, 1) := by decide +kernel
theorem dX5_init_26 : decode cX5_init 26 = .ok (.iconst 1, 1) := by decide +kernel
theorem dX5_init_27 : decode cX5_init 27 = .ok (.putfield 22, 3) := by decide +kernel
theorem dX5_init_30 : decode cX5_init 30 = .ok (.aload_n 0, 1) := by decide +kernel
theorem dX5_init_31 : decode cX5_init 31 = .ok (.ldc 25, 2) := by decide +kernel
theorem dX5_init_33 : decode cX5_init 33 = .ok (.putfield 26, 3) := by decide +kernel
theorem dX5_init_36 : decode cX5_init 36 = .ok (.return_, 1) := by decide +kernel
theorem dX5_begin_0 : decode cX5_begin 0 = .ok (.aload_n 0, 1) := by decide +kernel
theorem dX5_begin_1 : decode cX5_begin 1 = .ok (.iload_n 1, 1) := by decide +kernel
theorem dX5_begin_2 : decode cX5_begin 2 = .ok (.putfield 29, 3) := by decide +kernel
theorem dX5_begin_5 : decode cX5_begin 5 = .ok (.aload_n 0, 1) := by decide +kernel
theorem dX5_begin_6 : decode cX5_begin 6 = .ok (.iload_n 2, 1) := by decide +kernel
theorem dX5_begin_7 : decode cX5_begin 7 = .ok (.putfield 18, 3) := by decide +kernel
theorem dX5_begin_10 : decode cX5_begin 10 = .ok (.aload_n 0, 1) := by decide +kernel
theorem dX5_begin_11 : decode cX5_begin 11 = .ok (.iload_n 3, 1) := by decide +kernel
theorem dX5_begin_12 : decode cX5_begin 12 = .ok (.putfield 32, 3) := by decide +kernel
theorem dX5_begin_15 : decode cX5_begin 15 = .ok (.aload_n 0, 1) := by decide +kernel
theorem dX5_begin_16 : decode cX5_begin 16 = .ok (.iload 4, 2) := by decide +kernel
theorem dX5_begin_18 : decode cX5_begin 18 = .ok (.putfield 22, 3) := by decide +kernel
theorem dX5_begin_21 : decode cX5_begin 21 = .ok (.aload_n 0, 1) := by decide +kernel
theorem dX5_begin_22 : decode cX5_begin 22 = .ok (.iconst 0, 1) := by decide +kernel
theorem dX5_begin_23 : decode cX5_begin 23 = .ok (.putfield 35, 3) := by decide +kernel
theorem dX5_begin_26 : decode cX5_begin 26 = .ok (.aload_n 0, 1) := by decide +kernel
theorem dX5_begin_27 : decode cX5_begin 27 = .ok (.iload 5, 2) := by decide +kernel
theorem dX5_begin_29 : decode cX5_begin 29 = .ok (.invokevirtual 38, 3) := by decide +kernel
theorem dX5_begin_32 : decode cX5_begin 32 = .ok (.return_, 1) := by decide +kernel
theorem dX5_startAfresh_0 : decode cX5_startAfresh 0 = .ok (.aload_n 0, 1) := by decide +kernel
theorem dX5_startAfresh_1 : decode cX5_startAfresh 1 = .ok (.iload_n 1, 1) := by decide +kernel
theorem dX5_startAfresh_2 : decode cX5_startAfresh 2 = .ok (.aload_n 0, 1) := by decide +kernel
theorem dX5_startAfresh_3 : decode cX5_startAfresh 3 = .ok (.getfield 32, 3) := by decide +kernel
theorem dX5_startAfresh_6 : decode cX5_startAfresh 6 = .ok (.iadd, 1) := by decide +kernel
theorem dX5_startAfresh_7 : decode cX5_startAfresh 7 = .ok (.putfield 42, 3) := by decide +kernel
theorem dX5_startAfresh_10 : decode cX5_startAfresh 10 = .ok (.aload_n 0, 1) := by decide +kernel
theorem dX5_startAfresh_11 : decode cX5_startAfresh 11 = .ok (.iconst 0, 1) := by decide +kernel
theorem dX5_startAfresh_12 : decode cX5_startAfresh 12 = .ok (.putfield 45, 3) := by decide +kernel
theorem dX5_startAfresh_15 : decode cX5_startAfresh 15 = .ok (.aload_n 0, 1) := by decide +kernel
theorem dX5_startAfresh_16 : decode cX5_startAfresh 16 = .ok (.ldc 25, 2) := by decide +kernel
theorem dX5_startAfresh_18 : decode cX5_startAfresh 18 = .ok (.putfield 26, 3) := by decide +kernel
theorem dX5_startAfresh_21 : decode cX5_startAfresh 21 = .ok (.aload_n 0, 1) := by decide +kernel
theorem dX5_startAfresh_22 : decode cX5_startAfresh 22 = .ok (.iconst 0, 1) := by decide +kernel
theorem dX5_startAfresh_23 : decode cX5_startAfresh 23 = .ok (.putfield 48, 3) := by decide +kernel
theorem dX5_startAfresh_26 : decode cX5_startAfresh 26 = .ok (.aload_n 0, 1) := by decide +kernel
theorem dX5_startAfresh_27 : decode cX5_startAfresh 27 = .ok (.iconst 0, 1) := by decide +kernel
theorem dX5_startAfresh_28 : decode cX5_startAfresh 28 = .ok (.putfield 51, 3) := by decide +kernel
theorem dX5_startAfresh_31 : decode cX5_startAfresh 31 = .ok (.return_, 1) := by decide +kernel
theorem dX5_copyFrom_0 : decode cX5_copyFrom 0 = .ok (.aload_n 0, 1) := by decide +kernel
theorem dX5_copyFrom_1 : decode cX5_copyFrom 1 = .ok (.getfield 9, 3) := by decide +kernel
theorem dX5_copyFrom_4 : decode cX5_copyFrom 4 = .ok (.aload_n 1, 1) := by decide +kernel
theorem dX5_copyFrom_5 : decode cX5_copyFrom 5 = .ok (.getfield 9, 3) := by decide +kernel
theorem dX5_copyFrom_8 : decode cX5_copyFrom 8 = .ok (.invokestatic 55, 3) := by decide +kernel
theorem dX5_copyFrom_11 : decode cX5_copyFrom 11 = .ok (.aload_n 0, 1) := by decide +kernel
theorem dX5_copyFrom_12 : decode cX5_copyFrom 12 = .ok (.getfield 15, 3) := by decide +kernel
theorem dX5_copyFrom_15 : decode cX5_copyFrom 15 = .ok (.aload_n 1, 1) := by decide +kernel
theorem dX5_copyFrom_16 : decode cX5_copyFrom 16 = .ok (.getfield 15, 3) := by decide +kernel
theorem dX5_copyFrom_19 : decode cX5_copyFrom 19 = .ok (.invokestatic 55, 3) := by decide +kernel
theorem dX5_copyFrom_22 : decode cX5_copyFrom 22 = .ok (.aload_n 0, 1) := by decide +kernel
theorem dX5_copyFrom_23 : decode cX5_copyFrom 23 = .ok (.aload_n 1, 1) := by decide +kernel
theorem dX5_copyFrom_24 : decode cX5_copyFrom 24 = .ok (.getfield 45, 3) := by decide +kernel
theorem dX5_copyFrom_27 : decode cX5_copyFrom 27 = .ok (.putfield 45, 3) := by decide +kernel
theorem dX5_copyFrom_30 : decode cX5_copyFrom 30 = .ok (.aload_n 0, 1) := by decide +kernel
theorem dX5_copyFrom_31 : decode cX5_copyFrom 31 = .ok (.aload_n 1, 1) := by decide +kernel
theorem dX5_copyFrom_32 : decode cX5_copyFrom 32 = .ok (.getfield 18, 3) := by decide +kernel
theorem dX5_copyFrom_35 : decode cX5_copyFrom 35 = .ok (.putfield 18, 3) := by decide +kernel
theorem dX5_copyFrom_38 : decode cX5_copyFrom 38 = .ok (.aload_n 0, 1) := by decide +kernel
theorem dX5_copyFrom_39 : decode cX5_copyFrom 39 = .ok (.aload_n 1, 1) := by decide +kernel
theorem dX5_copyFrom_40 : decode cX5_copyFrom 40 = .ok (.getfield 32, 3) := by decide +kernel
theorem dX5_copyFrom_43 : decode cX5_copyFrom 43 = .ok (.putfield 32, 3) := by decide +kernel
theorem dX5_copyFrom_46 : decode cX5_copyFrom 46 = .ok (.aload_n 0, 1) := by decide +kernel
theorem dX5_copyFrom_47 : decode cX5_copyFrom 47 = .ok (.aload_n 1, 1) := by decide +kernel
theorem dX5_copyFrom_48 : decode cX5_copyFrom 48 = .ok (.getfield 51, 3) := by decide +kernel
theorem dX5_copyFrom_51 : decode cX5_copyFrom 51 = .ok (.putfield 51, 3) := by decide +kernel
theorem dX5_copyFrom_54 : decode cX5_copyFrom 54 = .ok (.aload_n 0, 1) := by decide +kernel
theorem dX5_copyFrom_55 : decode cX5_copyFrom 55 = .ok (.aload_n 1, 1) := by decide +kernel
theorem dX5_copyFrom_56 : decode cX5_copyFrom 56 = .ok (.getfield 29, 3) := by decide +kernel
theorem dX5_copyFrom_59 : decode cX5_copyFrom 59 = .ok (.putfield 29, 3) := by decide +kernel
theorem dX5_copyFrom_62 : decode cX5_copyFrom 62 = .ok (.aload_n 0, 1) := by decide +kernel
theorem dX5_copyFrom_63 : decode cX5_copyFrom 63 = .ok (.aload_n 1, 1) := by decide +kernel
theorem dX5_copyFrom_64 : decode cX5_copyFrom 64 = .ok (.getfield 22, 3) := by decide +kernel
theorem dX5_copyFrom_67 : decode cX5_copyFrom 67 = .ok (.putfield 22, 3) := by decide +kernel
theorem dX5_copyFrom_70 : decode cX5_copyFrom 70 = .ok (.aload_n 0, 1) := by decide +kernel
theorem dX5_copyFrom_71 : decode cX5_copyFrom 71 = .ok (.aload_n 1, 1) := by decide +kernel
theorem dX5_copyFrom_72 : decode cX5_copyFrom 72 = .ok (.getfield 42, 3) := by decide +kernel
theorem dX5_copyFrom_75 : decode cX5_copyFrom 75 = .ok (.putfield 42, 3) := by decide +kernel
theorem dX5_copyFrom_78 : decode cX5_copyFrom 78 = .ok (.aload_n 0, 1) := by decide +kernel
theorem dX5_copyFrom_79 : decode cX5_copyFrom 79 = .ok (.aload_n 1, 1) := by decide +kernel
theorem dX5_copyFrom_80 : decode cX5_copyFrom 80 = .ok (.getfield 48, 3) := by decide +kernel
theorem dX5_copyFrom_83 : decode cX5_copyFrom 83 = .ok (.putfield 48, 3) := by decide +kernel
theorem dX5_copyFrom_86 : decode cX5_copyFrom 86 = .ok (.aload_n 0, 1) := by decide +kernel
theorem dX5_copyFrom_87 : decode cX5_copyFrom 87 = .ok (.aload_n 1, 1) := by decide +kernel
theorem dX5_copyFrom_88 : decode cX5_copyFrom 88 = .ok (.getfield 35, 3) := by decide +kernel
theorem dX5_copyFrom_91 : decode cX5_copyFrom 91 = .ok (.putfield 35, 3) := by decide +kernel
theorem dX5_copyFrom_94 : decode cX5_copyFrom 94 = .ok (.aload_n 0, 1) := by decide +kernel
theorem dX5_copyFrom_95 : decode cX5_copyFrom 95 = .ok (.aload_n 1, 1) := by decide +kernel
theorem dX5_copyFrom_96 : decode cX5_copyFrom 96 = .ok (.getfield 26, 3) := by decide +kernel
theorem dX5_copyFrom_99 : decode cX5_copyFrom 99 = .ok (.putfield 26, 3) := by decide +kernel
theorem dX5_copyFrom_102 : decode cX5_copyFrom 102 = .ok (.return_, 1) := by decide +kernel
theorem dX5_follow_0 : decode cX5_follow 0 = .ok (.aload_n 0, 1) := by decide +kernel
theorem dX5_follow_1 : decode cX5_follow 1 = .ok (.dup, 1) := by decide +kernel
theorem dX5_follow_2 : decode cX5_follow 2 = .ok (.getfield 42, 3) := by decide +kernel
theorem dX5_follow_5 : decode cX5_follow 5 = .ok (.aload_n 0, 1) := by decide +kernel
theorem dX5_follow_6 : decode cX5_follow 6 = .ok (.aload_n 0, 1) := by decide +kernel
theorem dX5_follow_7 : decode cX5_follow 7 = .ok (.getfield 42, 3) := by decide +kernel
theorem dX5_follow_10 : decode cX5_follow 10 = .ok (.iload_n 1, 1) := by decide +kernel
theorem dX5_follow_11 : decode cX5_follow 11 = .ok (.invokevirtual 59, 3) := by decide +kernel
theorem dX5_follow_14 : decode cX5_follow 14 = .ok (.iadd, 1) := by decide +kernel
theorem dX5_follow_15 : decode cX5_follow 15 = .ok (.putfield 42, 3) := by decide +kernel
theorem dX5_follow_18 : decode cX5_follow 18 = .ok (.return_, 1) := by decide +kernel
theorem dX5_stepFrom_0 : decode cX5_stepFrom 0 = .ok (.iload_n 2, 1) := by decide +kernel
theorem dX5_stepFrom_1 : decode cX5_stepFrom 1 = .ok (.aload_n 0, 1) := by decide +kernel
theorem dX5_stepFrom_2 : decode cX5_stepFrom 2 = .ok (.getfield 32, 3) := by decide +kernel
theorem dX5_stepFrom_5 : decode cX5_stepFrom 5 = .ok (.iadd, 1) := by decide +kernel
theorem dX5_stepFrom_6 : decode cX5_stepFrom 6 = .ok (.iload_n 1, 1) := by decide +kernel
theorem dX5_stepFrom_7 : decode cX5_stepFrom 7 = .ok (.isub, 1) := by decide +kernel
theorem dX5_stepFrom_8 : decode cX5_stepFrom 8 = .ok (.aload_n 0, 1) := by decide +kernel
theorem dX5_stepFrom_9 : decode cX5_stepFrom 9 = .ok (.getfield 18, 3) := by decide +kernel
theorem dX5_stepFrom_12 : decode cX5_stepFrom 12 = .ok (.invokestatic 63, 3) := by decide +kernel
theorem dX5_stepFrom_15 : decode cX5_stepFrom 15 = .ok (.ireturn, 1) := by decide +kernel
theorem dX5_hoursUntilStill_0 : decode cX5_hoursUntilStill 0 = .ok (.aload_n 0, 1) := by decide +kernel
theorem dX5_hoursUntilStill_1 : decode cX5_hoursUntilStill 1 = .ok (.getfield 42, 3) := by decide +kernel
theorem dX5_hoursUntilStill_4 : decode cX5_hoursUntilStill 4 = .ok (.istore_n 2, 1) := by decide +kernel
theorem dX5_hoursUntilStill_5 : decode cX5_hoursUntilStill 5 = .ok (.iconst 0, 1) := by decide +kernel
theorem dX5_hoursUntilStill_6 : decode cX5_hoursUntilStill 6 = .ok (.istore_n 3, 1) := by decide +kernel
theorem dX5_hoursUntilStill_7 : decode cX5_hoursUntilStill 7 = .ok (.iload_n 3, 1) := by decide +kernel
theorem dX5_hoursUntilStill_8 : decode cX5_hoursUntilStill 8 = .ok (.ldc 66, 2) := by decide +kernel
theorem dX5_hoursUntilStill_10 : decode cX5_hoursUntilStill 10 = .ok (.if_icmp .ge 29, 3) := by decide +kernel
theorem dX5_hoursUntilStill_13 : decode cX5_hoursUntilStill 13 = .ok (.aload_n 0, 1) := by decide +kernel
theorem dX5_hoursUntilStill_14 : decode cX5_hoursUntilStill 14 = .ok (.iload_n 2, 1) := by decide +kernel
theorem dX5_hoursUntilStill_15 : decode cX5_hoursUntilStill 15 = .ok (.iload_n 1, 1) := by decide +kernel
theorem dX5_hoursUntilStill_16 : decode cX5_hoursUntilStill 16 = .ok (.invokevirtual 59, 3) := by decide +kernel
theorem dX5_hoursUntilStill_19 : decode cX5_hoursUntilStill 19 = .ok (.istore 4, 2) := by decide +kernel
theorem dX5_hoursUntilStill_21 : decode cX5_hoursUntilStill 21 = .ok (.iload 4, 2) := by decide +kernel
theorem dX5_hoursUntilStill_23 : decode cX5_hoursUntilStill 23 = .ok (.ifCond .ne 5, 3) := by decide +kernel
theorem dX5_hoursUntilStill_26 : decode cX5_hoursUntilStill 26 = .ok (.iload_n 3, 1) := by decide +kernel
theorem dX5_hoursUntilStill_27 : decode cX5_hoursUntilStill 27 = .ok (.ireturn, 1) := by decide +kernel
theorem dX5_hoursUntilStill_28 : decode cX5_hoursUntilStill 28 = .ok (.iload_n 2, 1) := by decide +kernel
theorem dX5_hoursUntilStill_29 : decode cX5_hoursUntilStill 29 = .ok (.iload 4, 2) := by decide +kernel
theorem dX5_hoursUntilStill_31 : decode cX5_hoursUntilStill 31 = .ok (.iadd, 1) := by decide +kernel
theorem dX5_hoursUntilStill_32 : decode cX5_hoursUntilStill 32 = .ok (.istore_n 2, 1) := by decide +kernel
theorem dX5_hoursUntilStill_33 : decode cX5_hoursUntilStill 33 = .ok (.iinc 3 1, 3) := by decide +kernel
theorem dX5_hoursUntilStill_36 : decode cX5_hoursUntilStill 36 = .ok (.goto (-29), 3) := by decide +kernel
theorem dX5_hoursUntilStill_39 : decode cX5_hoursUntilStill 39 = .ok (.ldc 66, 2) := by decide +kernel
theorem dX5_hoursUntilStill_41 : decode cX5_hoursUntilStill 41 = .ok (.ireturn, 1) := by decide +kernel
theorem dX5_takeReading_0 : decode cX5_takeReading 0 = .ok (.aload_n 0, 1) := by decide +kernel
theorem dX5_takeReading_1 : decode cX5_takeReading 1 = .ok (.getfield 9, 3) := by decide +kernel
theorem dX5_takeReading_4 : decode cX5_takeReading 4 = .ok (.iload_n 1, 1) := by decide +kernel
theorem dX5_takeReading_5 : decode cX5_takeReading 5 = .ok (.invokestatic 67, 3) := by decide +kernel
theorem dX5_takeReading_8 : decode cX5_takeReading 8 = .ok (.aload_n 0, 1) := by decide +kernel
theorem dX5_takeReading_9 : decode cX5_takeReading 9 = .ok (.getfield 15, 3) := by decide +kernel
theorem dX5_takeReading_12 : decode cX5_takeReading 12 = .ok (.aload_n 0, 1) := by decide +kernel
theorem dX5_takeReading_13 : decode cX5_takeReading 13 = .ok (.getfield 42, 3) := by decide +kernel
theorem dX5_takeReading_16 : decode cX5_takeReading 16 = .ok (.invokestatic 67, 3) := by decide +kernel
theorem dX5_takeReading_19 : decode cX5_takeReading 19 = .ok (.aload_n 0, 1) := by decide +kernel
theorem dX5_takeReading_20 : decode cX5_takeReading 20 = .ok (.aload_n 0, 1) := by decide +kernel
theorem dX5_takeReading_21 : decode cX5_takeReading 21 = .ok (.getfield 45, 3) := by decide +kernel
theorem dX5_takeReading_24 : decode cX5_takeReading 24 = .ok (.iconst 1, 1) := by decide +kernel
theorem dX5_takeReading_25 : decode cX5_takeReading 25 = .ok (.iadd, 1) := by decide +kernel
theorem dX5_takeReading_26 : decode cX5_takeReading 26 = .ok (.bipush 6, 2) := by decide +kernel
theorem dX5_takeReading_28 : decode cX5_takeReading 28 = .ok (.invokestatic 71, 3) := by decide +kernel
theorem dX5_takeReading_31 : decode cX5_takeReading 31 = .ok (.putfield 45, 3) := by decide +kernel
theorem dX5_takeReading_34 : decode cX5_takeReading 34 = .ok (.aload_n 0, 1) := by decide +kernel
theorem dX5_takeReading_35 : decode cX5_takeReading 35 = .ok (.aload_n 0, 1) := by decide +kernel
theorem dX5_takeReading_36 : decode cX5_takeReading 36 = .ok (.aload_n 0, 1) := by decide +kernel
theorem dX5_takeReading_37 : decode cX5_takeReading 37 = .ok (.getfield 18, 3) := by decide +kernel
theorem dX5_takeReading_40 : decode cX5_takeReading 40 = .ok (.invokevirtual 76, 3) := by decide +kernel
theorem dX5_takeReading_43 : decode cX5_takeReading 43 = .ok (.putfield 26, 3) := by decide +kernel
theorem dX5_takeReading_46 : decode cX5_takeReading 46 = .ok (.return_, 1) := by decide +kernel
theorem dX5_hourAgo_0 : decode cX5_hourAgo 0 = .ok (.iload_n 1, 1) := by decide +kernel
theorem dX5_hourAgo_1 : decode cX5_hourAgo 1 = .ok (.aload_n 0, 1) := by decide +kernel
theorem dX5_hourAgo_2 : decode cX5_hourAgo 2 = .ok (.getfield 45, 3) := by decide +kernel
theorem dX5_hourAgo_5 : decode cX5_hourAgo 5 = .ok (.if_icmp .ge 14, 3) := by decide +kernel
theorem dX5_hourAgo_8 : decode cX5_hourAgo 8 = .ok (.aload_n 0, 1) := by decide +kernel
theorem dX5_hourAgo_9 : decode cX5_hourAgo 9 = .ok (.getfield 9, 3) := by decide +kernel
theorem dX5_hourAgo_12 : decode cX5_hourAgo 12 = .ok (.iload_n 1, 1) := by decide +kernel
theorem dX5_hourAgo_13 : decode cX5_hourAgo 13 = .ok (.invokestatic 80, 3) := by decide +kernel
theorem dX5_hourAgo_16 : decode cX5_hourAgo 16 = .ok (.goto 5, 3) := by decide +kernel
theorem dX5_hourAgo_19 : decode cX5_hourAgo 19 = .ok (.ldc 25, 2) := by decide +kernel
theorem dX5_hourAgo_21 : decode cX5_hourAgo 21 = .ok (.ireturn, 1) := by decide +kernel
theorem dX5_valueAgo_0 : decode cX5_valueAgo 0 = .ok (.iload_n 1, 1) := by decide +kernel
theorem dX5_valueAgo_1 : decode cX5_valueAgo 1 = .ok (.aload_n 0, 1) := by decide +kernel
theorem dX5_valueAgo_2 : decode cX5_valueAgo 2 = .ok (.getfield 45, 3) := by decide +kernel
theorem dX5_valueAgo_5 : decode cX5_valueAgo 5 = .ok (.if_icmp .ge 14, 3) := by decide +kernel
theorem dX5_valueAgo_8 : decode cX5_valueAgo 8 = .ok (.aload_n 0, 1) := by decide +kernel
theorem dX5_valueAgo_9 : decode cX5_valueAgo 9 = .ok (.getfield 15, 3) := by decide +kernel
theorem dX5_valueAgo_12 : decode cX5_valueAgo 12 = .ok (.iload_n 1, 1) := by decide +kernel
theorem dX5_valueAgo_13 : decode cX5_valueAgo 13 = .ok (.invokestatic 80, 3) := by decide +kernel
theorem dX5_valueAgo_16 : decode cX5_valueAgo 16 = .ok (.goto 5, 3) := by decide +kernel
theorem dX5_valueAgo_19 : decode cX5_valueAgo 19 = .ok (.ldc 25, 2) := by decide +kernel
theorem dX5_valueAgo_21 : decode cX5_valueAgo 21 = .ok (.ireturn, 1) := by decide +kernel
theorem dX5_hasMended_0 : decode cX5_hasMended 0 = .ok (.aload_n 0, 1) := by decide +kernel
theorem dX5_hasMended_1 : decode cX5_hasMended 1 = .ok (.getfield 45, 3) := by decide +kernel
theorem dX5_hasMended_4 : decode cX5_hasMended 4 = .ok (.ifCond .le 7, 3) := by decide +kernel
theorem dX5_hasMended_7 : decode cX5_hasMended 7 = .ok (.iconst 1, 1) := by decide +kernel
theorem dX5_hasMended_8 : decode cX5_hasMended 8 = .ok (.goto 4, 3) := by decide +kernel
theorem dX5_hasMended_11 : decode cX5_hasMended 11 = .ok (.iconst 0, 1) := by decide +kernel
theorem dX5_hasMended_12 : decode cX5_hasMended 12 = .ok (.ireturn, 1) := by decide +kernel
theorem dX5_isAsked_0 : decode cX5_isAsked 0 = .ok (.aload_n 0, 1) := by decide +kernel
theorem dX5_isAsked_1 : decode cX5_isAsked 1 = .ok (.getfield 45, 3) := by decide +kernel
theorem dX5_isAsked_4 : decode cX5_isAsked 4 = .ok (.ifCond .le 14, 3) := by decide +kernel
theorem dX5_isAsked_7 : decode cX5_isAsked 7 = .ok (.aload_n 0, 1) := by decide +kernel
theorem dX5_isAsked_8 : decode cX5_isAsked 8 = .ok (.getfield 51, 3) := by decide +kernel
theorem dX5_isAsked_11 : decode cX5_isAsked 11 = .ok (.ifCond .ne 7, 3) := by decide +kernel
theorem dX5_isAsked_14 : decode cX5_isAsked 14 = .ok (.iconst 1, 1) := by decide +kernel
theorem dX5_isAsked_15 : decode cX5_isAsked 15 = .ok (.goto 4, 3) := by decide +kernel
theorem dX5_isAsked_18 : decode cX5_isAsked 18 = .ok (.iconst 0, 1) := by decide +kernel
theorem dX5_isAsked_19 : decode cX5_isAsked 19 = .ok (.ireturn, 1) := by decide +kernel
theorem dX5_isAskedAndReadIn_0 : decode cX5_isAskedAndReadIn 0 = .ok (.aload_n 0, 1) := by decide +kernel
theorem dX5_isAskedAndReadIn_1 : decode cX5_isAskedAndReadIn 1 = .ok (.invokevirtual 84, 3) := by decide +kernel
theorem dX5_isAskedAndReadIn_4 : decode cX5_isAskedAndReadIn 4 = .ok (.ifCond .eq 16, 3) := by decide +kernel
theorem dX5_isAskedAndReadIn_7 : decode cX5_isAskedAndReadIn 7 = .ok (.aload_n 0, 1) := by decide +kernel
theorem dX5_isAskedAndReadIn_8 : decode cX5_isAskedAndReadIn 8 = .ok (.iconst 0, 1) := by decide +kernel
theorem dX5_isAskedAndReadIn_9 : decode cX5_isAskedAndReadIn 9 = .ok (.invokevirtual 88, 3) := by decide +kernel
theorem dX5_isAskedAndReadIn_12 : decode cX5_isAskedAndReadIn 12 = .ok (.iload_n 1, 1) := by decide +kernel
theorem dX5_isAskedAndReadIn_13 : decode cX5_isAskedAndReadIn 13 = .ok (.if_icmp .ne 7, 3) := by decide +kernel
theorem dX5_isAskedAndReadIn_16 : decode cX5_isAskedAndReadIn 16 = .ok (.iconst 1, 1) := by decide +kernel
theorem dX5_isAskedAndReadIn_17 : decode cX5_isAskedAndReadIn 17 = .ok (.goto 4, 3) := by decide +kernel
theorem dX5_isAskedAndReadIn_20 : decode cX5_isAskedAndReadIn 20 = .ok (.iconst 0, 1) := by decide +kernel
theorem dX5_isAskedAndReadIn_21 : decode cX5_isAskedAndReadIn 21 = .ok (.ireturn, 1) := by decide +kernel
theorem dX5_mendedWith_0 : decode cX5_mendedWith 0 = .ok (.aload_n 0, 1) := by decide +kernel
theorem dX5_mendedWith_1 : decode cX5_mendedWith 1 = .ok (.getfield 45, 3) := by decide +kernel
theorem dX5_mendedWith_4 : decode cX5_mendedWith 4 = .ok (.ifCond .ne 6, 3) := by decide +kernel
theorem dX5_mendedWith_7 : decode cX5_mendedWith 7 = .ok (.ldc 25, 2) := by decide +kernel
theorem dX5_mendedWith_9 : decode cX5_mendedWith 9 = .ok (.ireturn, 1) := by decide +kernel
theorem dX5_mendedWith_10 : decode cX5_mendedWith 10 = .ok (.aload_n 0, 1) := by decide +kernel
theorem dX5_mendedWith_11 : decode cX5_mendedWith 11 = .ok (.getfield 15, 3) := by decide +kernel
theorem dX5_mendedWith_14 : decode cX5_mendedWith 14 = .ok (.iconst 0, 1) := by decide +kernel
theorem dX5_mendedWith_15 : decode cX5_mendedWith 15 = .ok (.invokestatic 80, 3) := by decide +kernel
theorem dX5_mendedWith_18 : decode cX5_mendedWith 18 = .ok (.istore_n 2, 1) := by decide +kernel
theorem dX5_mendedWith_19 : decode cX5_mendedWith 19 = .ok (.aload_n 0, 1) := by decide +kernel
theorem dX5_mendedWith_20 : decode cX5_mendedWith 20 = .ok (.getfield 45, 3) := by decide +kernel
theorem dX5_mendedWith_23 : decode cX5_mendedWith 23 = .ok (.iconst 1, 1) := by decide +kernel
theorem dX5_mendedWith_24 : decode cX5_mendedWith 24 = .ok (.if_icmp .ne 10, 3) := by decide +kernel
theorem dX5_mendedWith_27 : decode cX5_mendedWith 27 = .ok (.iload_n 2, 1) := by decide +kernel
theorem dX5_mendedWith_28 : decode cX5_mendedWith 28 = .ok (.aload_n 0, 1) := by decide +kernel
theorem dX5_mendedWith_29 : decode cX5_mendedWith 29 = .ok (.getfield 32, 3) := by decide +kernel
theorem dX5_mendedWith_32 : decode cX5_mendedWith 32 = .ok (.isub, 1) := by decide +kernel
theorem dX5_mendedWith_33 : decode cX5_mendedWith 33 = .ok (.ireturn, 1) := by decide +kernel
theorem dX5_mendedWith_34 : decode cX5_mendedWith 34 = .ok (.iload_n 2, 1) := by decide +kernel
theorem dX5_mendedWith_35 : decode cX5_mendedWith 35 = .ok (.aload_n 0, 1) := by decide +kernel
theorem dX5_mendedWith_36 : decode cX5_mendedWith 36 = .ok (.getfield 15, 3) := by decide +kernel
theorem dX5_mendedWith_39 : decode cX5_mendedWith 39 = .ok (.iconst 1, 1) := by decide +kernel
theorem dX5_mendedWith_40 : decode cX5_mendedWith 40 = .ok (.invokestatic 80, 3) := by decide +kernel
theorem dX5_mendedWith_43 : decode cX5_mendedWith 43 = .ok (.isub, 1) := by decide +kernel
theorem dX5_mendedWith_44 : decode cX5_mendedWith 44 = .ok (.istore_n 3, 1) := by decide +kernel
theorem dX5_mendedWith_45 : decode cX5_mendedWith 45 = .ok (.aload_n 0, 1) := by decide +kernel
theorem dX5_mendedWith_46 : decode cX5_mendedWith 46 = .ok (.getfield 9, 3) := by decide +kernel
theorem dX5_mendedWith_49 : decode cX5_mendedWith 49 = .ok (.iconst 0, 1) := by decide +kernel
theorem dX5_mendedWith_50 : decode cX5_mendedWith 50 = .ok (.invokestatic 80, 3) := by decide +kernel
theorem dX5_mendedWith_53 : decode cX5_mendedWith 53 = .ok (.aload_n 0, 1) := by decide +kernel
theorem dX5_mendedWith_54 : decode cX5_mendedWith 54 = .ok (.getfield 9, 3) := by decide +kernel
theorem dX5_mendedWith_57 : decode cX5_mendedWith 57 = .ok (.iconst 1, 1) := by decide +kernel
theorem dX5_mendedWith_58 : decode cX5_mendedWith 58 = .ok (.invokestatic 80, 3) := by decide +kernel
theorem dX5_mendedWith_61 : decode cX5_mendedWith 61 = .ok (.isub, 1) := by decide +kernel
theorem dX5_mendedWith_62 : decode cX5_mendedWith 62 = .ok (.istore 4, 2) := by decide +kernel
theorem dX5_mendedWith_64 : decode cX5_mendedWith 64 = .ok (.iload_n 2, 1) := by decide +kernel
theorem dX5_mendedWith_65 : decode cX5_mendedWith 65 = .ok (.iload_n 3, 1) := by decide +kernel
theorem dX5_mendedWith_66 : decode cX5_mendedWith 66 = .ok (.iload_n 1, 1) := by decide +kernel
theorem dX5_mendedWith_67 : decode cX5_mendedWith 67 = .ok (.iconst 1, 1) := by decide +kernel
theorem dX5_mendedWith_68 : decode cX5_mendedWith 68 = .ok (.isub, 1) := by decide +kernel
theorem dX5_mendedWith_69 : decode cX5_mendedWith 69 = .ok (.imul, 1) := by decide +kernel
theorem dX5_mendedWith_70 : decode cX5_mendedWith 70 = .ok (.iload 4, 2) := by decide +kernel
theorem dX5_mendedWith_72 : decode cX5_mendedWith 72 = .ok (.invokestatic 63, 3) := by decide +kernel
theorem dX5_mendedWith_75 : decode cX5_mendedWith 75 = .ok (.iadd, 1) := by decide +kernel
theorem dX5_mendedWith_76 : decode cX5_mendedWith 76 = .ok (.aload_n 0, 1) := by decide +kernel
theorem dX5_mendedWith_77 : decode cX5_mendedWith 77 = .ok (.getfield 32, 3) := by decide +kernel
theorem dX5_mendedWith_80 : decode cX5_mendedWith 80 = .ok (.isub, 1) := by decide +kernel
theorem dX5_mendedWith_81 : decode cX5_mendedWith 81 = .ok (.ireturn, 1) := by decide +kernel
theorem dX5_lagNearestTo_0 : decode cX5_lagNearestTo 0 = .ok (.aload_n 0, 1) := by decide +kernel
theorem dX5_lagNearestTo_1 : decode cX5_lagNearestTo 1 = .ok (.invokevirtual 91, 3) := by decide +kernel
theorem dX5_lagNearestTo_4 : decode cX5_lagNearestTo 4 = .ok (.ifCond .ne 6, 3) := by decide +kernel
theorem dX5_lagNearestTo_7 : decode cX5_lagNearestTo 7 = .ok (.ldc 25, 2) := by decide +kernel
theorem dX5_lagNearestTo_9 : decode cX5_lagNearestTo 9 = .ok (.ireturn, 1) := by decide +kernel
theorem dX5_lagNearestTo_10 : decode cX5_lagNearestTo 10 = .ok (.iconst 1, 1) := by decide +kernel
theorem dX5_lagNearestTo_11 : decode cX5_lagNearestTo 11 = .ok (.istore_n 2, 1) := by decide +kernel
theorem dX5_lagNearestTo_12 : decode cX5_lagNearestTo 12 = .ok (.aload_n 0, 1) := by decide +kernel
theorem dX5_lagNearestTo_13 : decode cX5_lagNearestTo 13 = .ok (.iload_n 2, 1) := by decide +kernel
theorem dX5_lagNearestTo_14 : decode cX5_lagNearestTo 14 = .ok (.invokevirtual 76, 3) := by decide +kernel
theorem dX5_lagNearestTo_17 : decode cX5_lagNearestTo 17 = .ok (.iload_n 1, 1) := by decide +kernel
theorem dX5_lagNearestTo_18 : decode cX5_lagNearestTo 18 = .ok (.isub, 1) := by decide +kernel
theorem dX5_lagNearestTo_19 : decode cX5_lagNearestTo 19 = .ok (.invokestatic 94, 3) := by decide +kernel
theorem dX5_lagNearestTo_22 : decode cX5_lagNearestTo 22 = .ok (.istore_n 3, 1) := by decide +kernel
theorem dX5_lagNearestTo_23 : decode cX5_lagNearestTo 23 = .ok (.iconst 2, 1) := by decide +kernel
theorem dX5_lagNearestTo_24 : decode cX5_lagNearestTo 24 = .ok (.istore 4, 2) := by decide +kernel
theorem dX5_lagNearestTo_26 : decode cX5_lagNearestTo 26 = .ok (.iload 4, 2) := by decide +kernel
theorem dX5_lagNearestTo_28 : decode cX5_lagNearestTo 28 = .ok (.bipush 9, 2) := by decide +kernel
theorem dX5_lagNearestTo_30 : decode cX5_lagNearestTo 30 = .ok (.if_icmp .gt 34, 3) := by decide +kernel
theorem dX5_lagNearestTo_33 : decode cX5_lagNearestTo 33 = .ok (.aload_n 0, 1) := by decide +kernel
theorem dX5_lagNearestTo_34 : decode cX5_lagNearestTo 34 = .ok (.iload 4, 2) := by decide +kernel
theorem dX5_lagNearestTo_36 : decode cX5_lagNearestTo 36 = .ok (.invokevirtual 76, 3) := by decide +kernel
theorem dX5_lagNearestTo_39 : decode cX5_lagNearestTo 39 = .ok (.iload_n 1, 1) := by decide +kernel
theorem dX5_lagNearestTo_40 : decode cX5_lagNearestTo 40 = .ok (.isub, 1) := by decide +kernel
theorem dX5_lagNearestTo_41 : decode cX5_lagNearestTo 41 = .ok (.invokestatic 94, 3) := by decide +kernel
theorem dX5_lagNearestTo_44 : decode cX5_lagNearestTo 44 = .ok (.istore 5, 2) := by decide +kernel
theorem dX5_lagNearestTo_46 : decode cX5_lagNearestTo 46 = .ok (.iload 5, 2) := by decide +kernel
theorem dX5_lagNearestTo_48 : decode cX5_lagNearestTo 48 = .ok (.iload_n 3, 1) := by decide +kernel
theorem dX5_lagNearestTo_49 : decode cX5_lagNearestTo 49 = .ok (.if_icmp .ge 9, 3) := by decide +kernel
theorem dX5_lagNearestTo_52 : decode cX5_lagNearestTo 52 = .ok (.iload 4, 2) := by decide +kernel
theorem dX5_lagNearestTo_54 : decode cX5_lagNearestTo 54 = .ok (.istore_n 2, 1) := by decide +kernel
theorem dX5_lagNearestTo_55 : decode cX5_lagNearestTo 55 = .ok (.iload 5, 2) := by decide +kernel
theorem dX5_lagNearestTo_57 : decode cX5_lagNearestTo 57 = .ok (.istore_n 3, 1) := by decide +kernel
theorem dX5_lagNearestTo_58 : decode cX5_lagNearestTo 58 = .ok (.iinc 4 1, 3) := by decide +kernel
theorem dX5_lagNearestTo_61 : decode cX5_lagNearestTo 61 = .ok (.goto (-35), 3) := by decide +kernel
theorem dX5_lagNearestTo_64 : decode cX5_lagNearestTo 64 = .ok (.iload_n 2, 1) := by decide +kernel
theorem dX5_lagNearestTo_65 : decode cX5_lagNearestTo 65 = .ok (.ireturn, 1) := by decide +kernel
theorem dX5_error_0 : decode cX5_error 0 = .ok (.aload_n 0, 1) := by decide +kernel
theorem dX5_error_1 : decode cX5_error 1 = .ok (.getfield 26, 3) := by decide +kernel
theorem dX5_error_4 : decode cX5_error 4 = .ok (.iload_n 1, 1) := by decide +kernel
theorem dX5_error_5 : decode cX5_error 5 = .ok (.isub, 1) := by decide +kernel
theorem dX5_error_6 : decode cX5_error 6 = .ok (.invokestatic 94, 3) := by decide +kernel
theorem dX5_error_9 : decode cX5_error 9 = .ok (.ireturn, 1) := by decide +kernel
theorem dX5_distance_0 : decode cX5_distance 0 = .ok (.aload_n 0, 1) := by decide +kernel
theorem dX5_distance_1 : decode cX5_distance 1 = .ok (.getfield 42, 3) := by decide +kernel
theorem dX5_distance_4 : decode cX5_distance 4 = .ok (.aload_n 0, 1) := by decide +kernel
theorem dX5_distance_5 : decode cX5_distance 5 = .ok (.getfield 32, 3) := by decide +kernel
theorem dX5_distance_8 : decode cX5_distance 8 = .ok (.isub, 1) := by decide +kernel
theorem dX5_distance_9 : decode cX5_distance 9 = .ok (.iload_n 1, 1) := by decide +kernel
theorem dX5_distance_10 : decode cX5_distance 10 = .ok (.isub, 1) := by decide +kernel
theorem dX5_distance_11 : decode cX5_distance 11 = .ok (.invokestatic 94, 3) := by decide +kernel
theorem dX5_distance_14 : decode cX5_distance 14 = .ok (.ireturn, 1) := by decide +kernel
theorem dX5_compareWith_0 : decode cX5_compareWith 0 = .ok (.aload_n 0, 1) := by decide +kernel
theorem dX5_compareWith_1 : decode cX5_compareWith 1 = .ok (.getfield 26, 3) := by decide +kernel
theorem dX5_compareWith_4 : decode cX5_compareWith 4 = .ok (.iload_n 1, 1) := by decide +kernel
theorem dX5_compareWith_5 : decode cX5_compareWith 5 = .ok (.isub, 1) := by decide +kernel
theorem dX5_compareWith_6 : decode cX5_compareWith 6 = .ok (.invokestatic 94, 3) := by decide +kernel
theorem dX5_compareWith_9 : decode cX5_compareWith 9 = .ok (.iload_n 2, 1) := by decide +kernel
theorem dX5_compareWith_10 : decode cX5_compareWith 10 = .ok (.if_icmp .le 26, 3) := by decide +kernel
theorem dX5_compareWith_13 : decode cX5_compareWith 13 = .ok (.aload_n 0, 1) := by decide +kernel
theorem dX5_compareWith_14 : decode cX5_compareWith 14 = .ok (.dup, 1) := by decide +kernel
theorem dX5_compareWith_15 : decode cX5_compareWith 15 = .ok (.getfield 35, 3) := by decide +kernel
theorem dX5_compareWith_18 : decode cX5_compareWith 18 = .ok (.iconst 1, 1) := by decide +kernel
theorem dX5_compareWith_19 : decode cX5_compareWith 19 = .ok (.iadd, 1) := by decide +kernel
theorem dX5_compareWith_20 : decode cX5_compareWith 20 = .ok (.putfield 35, 3) := by decide +kernel
theorem dX5_compareWith_23 : decode cX5_compareWith 23 = .ok (.aload_n 0, 1) := by decide +kernel
theorem dX5_compareWith_24 : decode cX5_compareWith 24 = .ok (.dup, 1) := by decide +kernel
theorem dX5_compareWith_25 : decode cX5_compareWith 25 = .ok (.getfield 48, 3) := by decide +kernel
theorem dX5_compareWith_28 : decode cX5_compareWith 28 = .ok (.iconst 1, 1) := by decide +kernel
theorem dX5_compareWith_29 : decode cX5_compareWith 29 = .ok (.iadd, 1) := by decide +kernel
theorem dX5_compareWith_30 : decode cX5_compareWith 30 = .ok (.putfield 48, 3) := by decide +kernel
theorem dX5_compareWith_33 : decode cX5_compareWith 33 = .ok (.goto 8, 3) := by decide +kernel
theorem dX5_compareWith_36 : decode cX5_compareWith 36 = .ok (.aload_n 0, 1) := by decide +kernel
theorem dX5_compareWith_37 : decode cX5_compareWith 37 = .ok (.iconst 0, 1) := by decide +kernel
theorem dX5_compareWith_38 : decode cX5_compareWith 38 = .ok (.putfield 48, 3) := by decide +kernel
theorem dX5_compareWith_41 : decode cX5_compareWith 41 = .ok (.return_, 1) := by decide +kernel
theorem dX5_shutOutFrom_0 : decode cX5_shutOutFrom 0 = .ok (.aload_n 0, 1) := by decide +kernel
theorem dX5_shutOutFrom_1 : decode cX5_shutOutFrom 1 = .ok (.getfield 48, 3) := by decide +kernel
theorem dX5_shutOutFrom_4 : decode cX5_shutOutFrom 4 = .ok (.iload_n 1, 1) := by decide +kernel
theorem dX5_shutOutFrom_5 : decode cX5_shutOutFrom 5 = .ok (.if_icmp .lt 8, 3) := by decide +kernel
theorem dX5_shutOutFrom_8 : decode cX5_shutOutFrom 8 = .ok (.aload_n 0, 1) := by decide +kernel
theorem dX5_shutOutFrom_9 : decode cX5_shutOutFrom 9 = .ok (.iconst 1, 1) := by decide +kernel
theorem dX5_shutOutFrom_10 : decode cX5_shutOutFrom 10 = .ok (.putfield 51, 3) := by decide +kernel
theorem dX5_shutOutFrom_13 : decode cX5_shutOutFrom 13 = .ok (.return_, 1) := by decide +kernel
theorem dX5_numberOf_0 : decode cX5_numberOf 0 = .ok (.iload_n 1, 1) := by decide +kernel
theorem dX5_numberOf_1 : decode cX5_numberOf 1 = .ok (.tableswitch 104 0 8 #[51, 56, 61, 66, 71, 76, 81, 94, 99], 51) := by decide +kernel
theorem dX5_numberOf_52 : decode cX5_numberOf 52 = .ok (.aload_n 0, 1) := by decide +kernel
theorem dX5_numberOf_53 : decode cX5_numberOf 53 = .ok (.getfield 29, 3) := by decide +kernel
theorem dX5_numberOf_56 : decode cX5_numberOf 56 = .ok (.ireturn, 1) := by decide +kernel
theorem dX5_numberOf_57 : decode cX5_numberOf 57 = .ok (.aload_n 0, 1) := by decide +kernel
theorem dX5_numberOf_58 : decode cX5_numberOf 58 = .ok (.getfield 18, 3) := by decide +kernel
theorem dX5_numberOf_61 : decode cX5_numberOf 61 = .ok (.ireturn, 1) := by decide +kernel
theorem dX5_numberOf_62 : decode cX5_numberOf 62 = .ok (.aload_n 0, 1) := by decide +kernel
theorem dX5_numberOf_63 : decode cX5_numberOf 63 = .ok (.getfield 32, 3) := by decide +kernel
theorem dX5_numberOf_66 : decode cX5_numberOf 66 = .ok (.ireturn, 1) := by decide +kernel
theorem dX5_numberOf_67 : decode cX5_numberOf 67 = .ok (.aload_n 0, 1) := by decide +kernel
theorem dX5_numberOf_68 : decode cX5_numberOf 68 = .ok (.getfield 22, 3) := by decide +kernel
theorem dX5_numberOf_71 : decode cX5_numberOf 71 = .ok (.ireturn, 1) := by decide +kernel
theorem dX5_numberOf_72 : decode cX5_numberOf 72 = .ok (.aload_n 0, 1) := by decide +kernel
theorem dX5_numberOf_73 : decode cX5_numberOf 73 = .ok (.getfield 42, 3) := by decide +kernel
theorem dX5_numberOf_76 : decode cX5_numberOf 76 = .ok (.ireturn, 1) := by decide +kernel
theorem dX5_numberOf_77 : decode cX5_numberOf 77 = .ok (.aload_n 0, 1) := by decide +kernel
theorem dX5_numberOf_78 : decode cX5_numberOf 78 = .ok (.getfield 48, 3) := by decide +kernel
theorem dX5_numberOf_81 : decode cX5_numberOf 81 = .ok (.ireturn, 1) := by decide +kernel
theorem dX5_numberOf_82 : decode cX5_numberOf 82 = .ok (.aload_n 0, 1) := by decide +kernel
theorem dX5_numberOf_83 : decode cX5_numberOf 83 = .ok (.getfield 51, 3) := by decide +kernel
theorem dX5_numberOf_86 : decode cX5_numberOf 86 = .ok (.ifCond .eq 7, 3) := by decide +kernel
theorem dX5_numberOf_89 : decode cX5_numberOf 89 = .ok (.iconst 1, 1) := by decide +kernel
theorem dX5_numberOf_90 : decode cX5_numberOf 90 = .ok (.goto 4, 3) := by decide +kernel
theorem dX5_numberOf_93 : decode cX5_numberOf 93 = .ok (.iconst 0, 1) := by decide +kernel
theorem dX5_numberOf_94 : decode cX5_numberOf 94 = .ok (.ireturn, 1) := by decide +kernel
theorem dX5_numberOf_95 : decode cX5_numberOf 95 = .ok (.aload_n 0, 1) := by decide +kernel
theorem dX5_numberOf_96 : decode cX5_numberOf 96 = .ok (.getfield 45, 3) := by decide +kernel
theorem dX5_numberOf_99 : decode cX5_numberOf 99 = .ok (.ireturn, 1) := by decide +kernel
theorem dX5_numberOf_100 : decode cX5_numberOf 100 = .ok (.aload_n 0, 1) := by decide +kernel
theorem dX5_numberOf_101 : decode cX5_numberOf 101 = .ok (.getfield 35, 3) := by decide +kernel
theorem dX5_numberOf_104 : decode cX5_numberOf 104 = .ok (.ireturn, 1) := by decide +kernel
theorem dX5_numberOf_105 : decode cX5_numberOf 105 = .ok (.aload_n 0, 1) := by decide +kernel
theorem dX5_numberOf_106 : decode cX5_numberOf 106 = .ok (.getfield 26, 3) := by decide +kernel
theorem dX5_numberOf_109 : decode cX5_numberOf 109 = .ok (.ireturn, 1) := by decide +kernel
theorem dX6_init_0 : decode cX6_init 0 = .ok (.aload_n 0, 1) := by decide +kernel
theorem dX6_init_1 : decode cX6_init 1 = .ok (.invokespecial 1, 3) := by decide +kernel
theorem dX6_init_4 : decode cX6_init 4 = .ok (.aload_n 0, 1) := by decide +kernel
theorem dX6_init_5 : decode cX6_init 5 = .ok (.new 7, 3) := by decide +kernel
theorem dX6_init_8 : decode cX6_init 8 = .ok (.dup, 1) := by decide +kernel
theorem dX6_init_9 : decode cX6_init 9 = .ok (.invokespecial 9, 3) := by decide +kernel
theorem dX6_init_12 : decode cX6_init 12 = .ok (.putfield 10, 3) := by decide +kernel
theorem dX6_init_15 : decode cX6_init 15 = .ok (.aload_n 0, 1) := by decide +kernel
theorem dX6_init_16 : decode cX6_init 16 = .ok (.new 7, 3) := by decide +kernel
theorem dX6_init_19 : decode cX6_init 19 = .ok (.dup, 1) := by decide +kernel
theorem dX6_init_20 : decode cX6_init 20 = .ok (.invokespecial 9, 3) := by decide +kernel
theorem dX6_init_23 : decode cX6_init 23 = .ok (.putfield 16, 3) := by decide +kernel
theorem dX6_init_26 : decode cX6_init 26 = .ok (.aload_n 0, 1) := by decide +kernel
theorem dX6_init_27 : decode cX6_init 27 = .ok (.new 19, 3) := by decide +kernel
theorem dX6_init_30 : decode cX6_init 30 = .ok (.dup, 1) := by decide +kernel
theorem dX6_init_31 : decode cX6_init 31 = .ok (.invokespecial 21, 3) := by decide +kernel
theorem dX6_init_34 : decode cX6_init 34 = .ok (.putfield 22, 3) := by decide +kernel
theorem dX6_init_37 : decode cX6_init 37 = .ok (.aload_n 0, 1) := by decide +kernel
theorem dX6_init_38 : decode cX6_init 38 = .ok (.new 26, 3) := by decide +kernel
theorem dX6_init_41 : decode cX6_init 41 = .ok (.dup, 1) := by decide +kernel
theorem dX6_init_42 : decode cX6_init 42 = .ok (.invokespecial 28, 3) := by decide +kernel
theorem dX6_init_45 : decode cX6_init 45 = .ok (.putfield 29, 3) := by decide +kernel
theorem dX6_init_48 : decode cX6_init 48 = .ok (.aload_n 0, 1) := by decide +kernel
theorem dX6_init_49 : decode cX6_init 49 = .ok (.new 26, 3) := by decide +kernel
theorem dX6_init_52 : decode cX6_init 52 = .ok (.dup, 1) := by decide +kernel
theorem dX6_init_53 : decode cX6_init 53 = .ok (.invokespecial 28, 3) := by decide +kernel
theorem dX6_init_56 : decode cX6_init 56 = .ok (.putfield 33, 3) := by decide +kernel
theorem dX6_init_59 : decode cX6_init 59 = .ok (.aload_n 0, 1) := by decide +kernel
theorem dX6_init_60 : decode cX6_init 60 = .ok (.new 36, 3) := by decide +kernel
theorem dX6_init_63 : decode cX6_init 63 = .ok (.dup, 1) := by decide +kernel
theorem dX6_init_64 : decode cX6_init 64 = .ok (.invokespecial 38, 3) := by decide +kernel
theorem dX6_init_67 : decode cX6_init 67 = .ok (.putfield 39, 3) := by decide +kernel
theorem dX6_init_70 : decode cX6_init 70 = .ok (.return_, 1) := by decide +kernel
theorem dX6_thermometer_0 : decode cX6_thermometer 0 = .ok (.iload_n 1, 1) := by decide +kernel
theorem dX6_thermometer_1 : decode cX6_thermometer 1 = .ok (.invokestatic 43, 3) := by decide +kernel
theorem dX6_thermometer_4 : decode cX6_thermometer 4 = .ok (.iload_n 2, 1) := by decide +kernel
theorem dX6_thermometer_5 : decode cX6_thermometer 5 = .ok (.iconst 1, 1) := by decide +kernel
theorem dX6_thermometer_6 : decode cX6_thermometer 6 = .ok (.bipush 9, 2) := by decide +kernel
theorem dX6_thermometer_8 : decode cX6_thermometer 8 = .ok (.invokestatic 47, 3) := by decide +kernel
theorem dX6_thermometer_11 : decode cX6_thermometer 11 = .ok (.iload_n 3, 1) := by decide +kernel
theorem dX6_thermometer_12 : decode cX6_thermometer 12 = .ok (.sipush (-200), 3) := by decide +kernel
theorem dX6_thermometer_15 : decode cX6_thermometer 15 = .ok (.sipush 200, 3) := by decide +kernel
theorem dX6_thermometer_18 : decode cX6_thermometer 18 = .ok (.invokestatic 47, 3) := by decide +kernel
theorem dX6_thermometer_21 : decode cX6_thermometer 21 = .ok (.iload 4, 2) := by decide +kernel
theorem dX6_thermometer_23 : decode cX6_thermometer 23 = .ok (.iconst 1, 1) := by decide +kernel
theorem dX6_thermometer_24 : decode cX6_thermometer 24 = .ok (.iconst 5, 1) := by decide +kernel
theorem dX6_thermometer_25 : decode cX6_thermometer 25 = .ok (.invokestatic 47, 3) := by decide +kernel
theorem dX6_thermometer_28 : decode cX6_thermometer 28 = .ok (.aload_n 0, 1) := by decide +kernel
theorem dX6_thermometer_29 : decode cX6_thermometer 29 = .ok (.getfield 10, 3) := by decide +kernel
theorem dX6_thermometer_32 : decode cX6_thermometer 32 = .ok (.invokevirtual 51, 3) := by decide +kernel
theorem dX6_thermometer_35 : decode cX6_thermometer 35 = .ok (.ifCond .ne 13, 3) := by decide +kernel
theorem dX6_thermometer_38 : decode cX6_thermometer 38 = .ok (.new 55, 3) := by decide +kernel
theorem dX6_thermometer_41 : decode cX6_thermometer 41 = .ok (.dup, 1) := by decide +kernel
theorem dX6_thermometer_42 : decode cX6_thermometer 42 = .ok (.ldc 57, 2) := by decide +kernel
theorem dX6_thermometer_44 : decode cX6_thermometer 44 = .ok (.invokespecial 59, 3) := by decide +kernel
theorem dX6_thermometer_47 : decode cX6_thermometer 47 = .ok (.athrow, 1) := by decide +kernel
theorem dX6_thermometer_48 : decode cX6_thermometer 48 = .ok (.aload_n 0, 1) := by decide +kernel
theorem dX6_thermometer_49 : decode cX6_thermometer 49 = .ok (.getfield 22, 3) := by decide +kernel
theorem dX6_thermometer_52 : decode cX6_thermometer 52 = .ok (.aload_n 0, 1) := by decide +kernel
theorem dX6_thermometer_53 : decode cX6_thermometer 53 = .ok (.getfield 10, 3) := by decide +kernel
theorem dX6_thermometer_56 : decode cX6_thermometer 56 = .ok (.invokevirtual 62, 3) := by decide +kernel
theorem dX6_thermometer_59 : decode cX6_thermometer 59 = .ok (.aload_n 0, 1) := by decide +kernel
theorem dX6_thermometer_60 : decode cX6_thermometer 60 = .ok (.getfield 10, 3) := by decide +kernel
theorem dX6_thermometer_63 : decode cX6_thermometer 63 = .ok (.iload_n 1, 1) := by decide +kernel
theorem dX6_thermometer_64 : decode cX6_thermometer 64 = .ok (.iload_n 2, 1) := by decide +kernel
theorem dX6_thermometer_65 : decode cX6_thermometer 65 = .ok (.iload_n 3, 1) := by decide +kernel
theorem dX6_thermometer_66 : decode cX6_thermometer 66 = .ok (.iload 4, 2) := by decide +kernel
theorem dX6_thermometer_68 : decode cX6_thermometer 68 = .ok (.invokevirtual 66, 3) := by decide +kernel
theorem dX6_thermometer_71 : decode cX6_thermometer 71 = .ok (.ireturn, 1) := by decide +kernel
theorem dX6_hour_0 : decode cX6_hour 0 = .ok (.iload_n 1, 1) := by decide +kernel
theorem dX6_hour_1 : decode cX6_hour 1 = .ok (.sipush (-5000), 3) := by decide +kernel
theorem dX6_hour_4 : decode cX6_hour 4 = .ok (.sipush 5000, 3) := by decide +kernel
theorem dX6_hour_7 : decode cX6_hour 7 = .ok (.invokestatic 47, 3) := by decide +kernel
theorem dX6_hour_10 : decode cX6_hour 10 = .ok (.aload_n 0, 1) := by decide +kernel
theorem dX6_hour_11 : decode cX6_hour 11 = .ok (.iconst 1, 1) := by decide +kernel
theorem dX6_hour_12 : decode cX6_hour 12 = .ok (.invokevirtual 70, 3) := by decide +kernel
theorem dX6_hour_15 : decode cX6_hour 15 = .ok (.aload_n 0, 1) := by decide +kernel
theorem dX6_hour_16 : decode cX6_hour 16 = .ok (.getfield 22, 3) := by decide +kernel
theorem dX6_hour_19 : decode cX6_hour 19 = .ok (.aload_n 0, 1) := by decide +kernel
theorem dX6_hour_20 : decode cX6_hour 20 = .ok (.getfield 10, 3) := by decide +kernel
theorem dX6_hour_23 : decode cX6_hour 23 = .ok (.invokevirtual 62, 3) := by decide +kernel
theorem dX6_hour_26 : decode cX6_hour 26 = .ok (.aload_n 0, 1) := by decide +kernel
theorem dX6_hour_27 : decode cX6_hour 27 = .ok (.getfield 10, 3) := by decide +kernel
theorem dX6_hour_30 : decode cX6_hour 30 = .ok (.iload_n 1, 1) := by decide +kernel
theorem dX6_hour_31 : decode cX6_hour 31 = .ok (.invokevirtual 73, 3) := by decide +kernel
theorem dX6_hour_34 : decode cX6_hour 34 = .ok (.ireturn, 1) := by decide +kernel
theorem dX6_hours_0 : decode cX6_hours 0 = .ok (.iload_n 1, 1) := by decide +kernel
theorem dX6_hours_1 : decode cX6_hours 1 = .ok (.iconst 1, 1) := by decide +kernel
theorem dX6_hours_2 : decode cX6_hours 2 = .ok (.bipush 24, 2) := by decide +kernel
theorem dX6_hours_4 : decode cX6_hours 4 = .ok (.invokestatic 47, 3) := by decide +kernel
theorem dX6_hours_7 : decode cX6_hours 7 = .ok (.iload_n 2, 1) := by decide +kernel
theorem dX6_hours_8 : decode cX6_hours 8 = .ok (.sipush (-500), 3) := by decide +kernel
theorem dX6_hours_11 : decode cX6_hours 11 = .ok (.sipush 500, 3) := by decide +kernel
theorem dX6_hours_14 : decode cX6_hours 14 = .ok (.invokestatic 47, 3) := by decide +kernel
theorem dX6_hours_17 : decode cX6_hours 17 = .ok (.aload_n 0, 1) := by decide +kernel
theorem dX6_hours_18 : decode cX6_hours 18 = .ok (.iload_n 1, 1) := by decide +kernel
theorem dX6_hours_19 : decode cX6_hours 19 = .ok (.invokevirtual 70, 3) := by decide +kernel
theorem dX6_hours_22 : decode cX6_hours 22 = .ok (.aload_n 0, 1) := by decide +kernel
theorem dX6_hours_23 : decode cX6_hours 23 = .ok (.getfield 22, 3) := by decide +kernel
theorem dX6_hours_26 : decode cX6_hours 26 = .ok (.aload_n 0, 1) := by decide +kernel
theorem dX6_hours_27 : decode cX6_hours 27 = .ok (.getfield 10, 3) := by decide +kernel
theorem dX6_hours_30 : decode cX6_hours 30 = .ok (.invokevirtual 62, 3) := by decide +kernel
theorem dX6_hours_33 : decode cX6_hours 33 = .ok (.aload_n 0, 1) := by decide +kernel
theorem dX6_hours_34 : decode cX6_hours 34 = .ok (.getfield 10, 3) := by decide +kernel
theorem dX6_hours_37 : decode cX6_hours 37 = .ok (.iload_n 1, 1) := by decide +kernel
theorem dX6_hours_38 : decode cX6_hours 38 = .ok (.iload_n 2, 1) := by decide +kernel
theorem dX6_hours_39 : decode cX6_hours 39 = .ok (.invokevirtual 77, 3) := by decide +kernel
theorem dX6_hours_42 : decode cX6_hours 42 = .ok (.aload_n 0, 1) := by decide +kernel
theorem dX6_hours_43 : decode cX6_hours 43 = .ok (.getfield 10, 3) := by decide +kernel
theorem dX6_hours_46 : decode cX6_hours 46 = .ok (.getfield 81, 3) := by decide +kernel
theorem dX6_hours_49 : decode cX6_hours 49 = .ok (.ireturn, 1) := by decide +kernel
theorem dX6_period_0 : decode cX6_period 0 = .ok (.iload_n 1, 1) := by decide +kernel
theorem dX6_period_1 : decode cX6_period 1 = .ok (.invokestatic 43, 3) := by decide +kernel
theorem dX6_period_4 : decode cX6_period 4 = .ok (.iload_n 2, 1) := by decide +kernel
theorem dX6_period_5 : decode cX6_period 5 = .ok (.iconst 1, 1) := by decide +kernel
theorem dX6_period_6 : decode cX6_period 6 = .ok (.bipush 6, 2) := by decide +kernel
theorem dX6_period_8 : decode cX6_period 8 = .ok (.invokestatic 47, 3) := by decide +kernel
theorem dX6_period_11 : decode cX6_period 11 = .ok (.aload_n 0, 1) := by decide +kernel
theorem dX6_period_12 : decode cX6_period 12 = .ok (.getfield 22, 3) := by decide +kernel
theorem dX6_period_15 : decode cX6_period 15 = .ok (.aload_n 0, 1) := by decide +kernel
theorem dX6_period_16 : decode cX6_period 16 = .ok (.getfield 10, 3) := by decide +kernel
theorem dX6_period_19 : decode cX6_period 19 = .ok (.invokevirtual 62, 3) := by decide +kernel
theorem dX6_period_22 : decode cX6_period 22 = .ok (.aload_n 0, 1) := by decide +kernel
theorem dX6_period_23 : decode cX6_period 23 = .ok (.getfield 10, 3) := by decide +kernel
theorem dX6_period_26 : decode cX6_period 26 = .ok (.iload_n 1, 1) := by decide +kernel
theorem dX6_period_27 : decode cX6_period 27 = .ok (.invokevirtual 85, 3) := by decide +kernel
theorem dX6_period_30 : decode cX6_period 30 = .ok (.istore_n 3, 1) := by decide +kernel
theorem dX6_period_31 : decode cX6_period 31 = .ok (.aload_n 0, 1) := by decide +kernel
theorem dX6_period_32 : decode cX6_period 32 = .ok (.getfield 10, 3) := by decide +kernel
theorem dX6_period_35 : decode cX6_period 35 = .ok (.iload_n 1, 1) := by decide +kernel
theorem dX6_period_36 : decode cX6_period 36 = .ok (.iload_n 2, 1) := by decide +kernel
theorem dX6_period_37 : decode cX6_period 37 = .ok (.invokevirtual 88, 3) := by decide +kernel
theorem dX6_period_40 : decode cX6_period 40 = .ok (.iload_n 3, 1) := by decide +kernel
theorem dX6_period_41 : decode cX6_period 41 = .ok (.ireturn, 1) := by decide +kernel
theorem dX6_calibrate_0 : decode cX6_calibrate 0 = .ok (.aload_n 0, 1) := by decide +kernel
theorem dX6_calibrate_1 : decode cX6_calibrate 1 = .ok (.iload_n 1, 1) := by decide +kernel
theorem dX6_calibrate_2 : decode cX6_calibrate 2 = .ok (.invokevirtual 91, 3) := by decide +kernel
theorem dX6_calibrate_5 : decode cX6_calibrate 5 = .ok (.aload_n 0, 1) := by decide +kernel
theorem dX6_calibrate_6 : decode cX6_calibrate 6 = .ok (.getfield 22, 3) := by decide +kernel
theorem dX6_calibrate_9 : decode cX6_calibrate 9 = .ok (.aload_n 0, 1) := by decide +kernel
theorem dX6_calibrate_10 : decode cX6_calibrate 10 = .ok (.getfield 10, 3) := by decide +kernel
theorem dX6_calibrate_13 : decode cX6_calibrate 13 = .ok (.invokevirtual 62, 3) := by decide +kernel
theorem dX6_calibrate_16 : decode cX6_calibrate 16 = .ok (.aload_n 0, 1) := by decide +kernel
theorem dX6_calibrate_17 : decode cX6_calibrate 17 = .ok (.getfield 10, 3) := by decide +kernel
theorem dX6_calibrate_20 : decode cX6_calibrate 20 = .ok (.iload_n 1, 1) := by decide +kernel
theorem dX6_calibrate_21 : decode cX6_calibrate 21 = .ok (.invokevirtual 94, 3) := by decide +kernel
theorem dX6_calibrate_24 : decode cX6_calibrate 24 = .ok (.getfield 98, 3) := by decide +kernel
theorem dX6_calibrate_27 : decode cX6_calibrate 27 = .ok (.istore_n 2, 1) := by decide +kernel
theorem dX6_calibrate_28 : decode cX6_calibrate 28 = .ok (.aload_n 0, 1) := by decide +kernel
theorem dX6_calibrate_29 : decode cX6_calibrate 29 = .ok (.getfield 10, 3) := by decide +kernel
theorem dX6_calibrate_32 : decode cX6_calibrate 32 = .ok (.iload_n 1, 1) := by decide +kernel
theorem dX6_calibrate_33 : decode cX6_calibrate 33 = .ok (.invokevirtual 94, 3) := by decide +kernel
theorem dX6_calibrate_36 : decode cX6_calibrate 36 = .ok (.aload_n 0, 1) := by decide +kernel
theorem dX6_calibrate_37 : decode cX6_calibrate 37 = .ok (.getfield 10, 3) := by decide +kernel
theorem dX6_calibrate_40 : decode cX6_calibrate 40 = .ok (.getfield 81, 3) := by decide +kernel
theorem dX6_calibrate_43 : decode cX6_calibrate 43 = .ok (.invokevirtual 103, 3) := by decide +kernel
theorem dX6_calibrate_46 : decode cX6_calibrate 46 = .ok (.iload_n 2, 1) := by decide +kernel
theorem dX6_calibrate_47 : decode cX6_calibrate 47 = .ok (.ireturn, 1) := by decide +kernel
theorem dX6_knock_0 : decode cX6_knock 0 = .ok (.aload_n 0, 1) := by decide +kernel
theorem dX6_knock_1 : decode cX6_knock 1 = .ok (.iload_n 1, 1) := by decide +kernel
theorem dX6_knock_2 : decode cX6_knock 2 = .ok (.invokevirtual 91, 3) := by decide +kernel
theorem dX6_knock_5 : decode cX6_knock 5 = .ok (.iload_n 2, 1) := by decide +kernel
theorem dX6_knock_6 : decode cX6_knock 6 = .ok (.sipush (-3000), 3) := by decide +kernel
theorem dX6_knock_9 : decode cX6_knock 9 = .ok (.sipush 3000, 3) := by decide +kernel
theorem dX6_knock_12 : decode cX6_knock 12 = .ok (.invokestatic 47, 3) := by decide +kernel
theorem dX6_knock_15 : decode cX6_knock 15 = .ok (.aload_n 0, 1) := by decide +kernel
theorem dX6_knock_16 : decode cX6_knock 16 = .ok (.getfield 10, 3) := by decide +kernel
theorem dX6_knock_19 : decode cX6_knock 19 = .ok (.iload_n 1, 1) := by decide +kernel
theorem dX6_knock_20 : decode cX6_knock 20 = .ok (.invokevirtual 94, 3) := by decide +kernel
theorem dX6_knock_23 : decode cX6_knock 23 = .ok (.getfield 106, 3) := by decide +kernel
theorem dX6_knock_26 : decode cX6_knock 26 = .ok (.iload_n 2, 1) := by decide +kernel
theorem dX6_knock_27 : decode cX6_knock 27 = .ok (.iadd, 1) := by decide +kernel
theorem dX6_knock_28 : decode cX6_knock 28 = .ok (.istore_n 3, 1) := by decide +kernel
theorem dX6_knock_29 : decode cX6_knock 29 = .ok (.iload_n 3, 1) := by decide +kernel
theorem dX6_knock_30 : decode cX6_knock 30 = .ok (.sipush (-20000), 3) := by decide +kernel
theorem dX6_knock_33 : decode cX6_knock 33 = .ok (.if_icmp .lt 10, 3) := by decide +kernel
theorem dX6_knock_36 : decode cX6_knock 36 = .ok (.iload_n 3, 1) := by decide +kernel
theorem dX6_knock_37 : decode cX6_knock 37 = .ok (.sipush 20000, 3) := by decide +kernel
theorem dX6_knock_40 : decode cX6_knock 40 = .ok (.if_icmp .le 13, 3) := by decide +kernel
theorem dX6_knock_43 : decode cX6_knock 43 = .ok (.new 55, 3) := by decide +kernel
theorem dX6_knock_46 : decode cX6_knock 46 = .ok (.dup, 1) := by decide +kernel
theorem dX6_knock_47 : decode cX6_knock 47 = .ok (.ldc 109, 2) := by decide +kernel
theorem dX6_knock_49 : decode cX6_knock 49 = .ok (.invokespecial 59, 3) := by decide +kernel
theorem dX6_knock_52 : decode cX6_knock 52 = .ok (.athrow, 1) := by decide +kernel
theorem dX6_knock_53 : decode cX6_knock 53 = .ok (.aload_n 0, 1) := by decide +kernel
theorem dX6_knock_54 : decode cX6_knock 54 = .ok (.getfield 22, 3) := by decide +kernel
theorem dX6_knock_57 : decode cX6_knock 57 = .ok (.aload_n 0, 1) := by decide +kernel
theorem dX6_knock_58 : decode cX6_knock 58 = .ok (.getfield 10, 3) := by decide +kernel
theorem dX6_knock_61 : decode cX6_knock 61 = .ok (.invokevirtual 62, 3) := by decide +kernel
theorem dX6_knock_64 : decode cX6_knock 64 = .ok (.aload_n 0, 1) := by decide +kernel
theorem dX6_knock_65 : decode cX6_knock 65 = .ok (.getfield 10, 3) := by decide +kernel
theorem dX6_knock_68 : decode cX6_knock 68 = .ok (.iload_n 1, 1) := by decide +kernel
theorem dX6_knock_69 : decode cX6_knock 69 = .ok (.invokevirtual 94, 3) := by decide +kernel
theorem dX6_knock_72 : decode cX6_knock 72 = .ok (.iload_n 3, 1) := by decide +kernel
theorem dX6_knock_73 : decode cX6_knock 73 = .ok (.putfield 106, 3) := by decide +kernel
theorem dX6_knock_76 : decode cX6_knock 76 = .ok (.iload_n 3, 1) := by decide +kernel
theorem dX6_knock_77 : decode cX6_knock 77 = .ok (.ldc 111, 2) := by decide +kernel
theorem dX6_knock_79 : decode cX6_knock 79 = .ok (.iadd, 1) := by decide +kernel
theorem dX6_knock_80 : decode cX6_knock 80 = .ok (.ireturn, 1) := by decide +kernel
theorem dX6_set_0 : decode cX6_set 0 = .ok (.iload_n 1, 1) := by decide +kernel
theorem dX6_set_1 : decode cX6_set 1 = .ok (.ifCond .eq 18, 3) := by decide +kernel
theorem dX6_set_4 : decode cX6_set 4 = .ok (.iload_n 1, 1) := by decide +kernel
theorem dX6_set_5 : decode cX6_set 5 = .ok (.iconst 1, 1) := by decide +kernel
theorem dX6_set_6 : decode cX6_set 6 = .ok (.if_icmp .eq 13, 3) := by decide +kernel
theorem dX6_set_9 : decode cX6_set 9 = .ok (.new 112, 3) := by decide +kernel
theorem dX6_set_12 : decode cX6_set 12 = .ok (.dup, 1) := by decide +kernel
theorem dX6_set_13 : decode cX6_set 13 = .ok (.ldc 114, 2) := by decide +kernel
theorem dX6_set_15 : decode cX6_set 15 = .ok (.invokespecial 116, 3) := by decide +kernel
theorem dX6_set_18 : decode cX6_set 18 = .ok (.athrow, 1) := by decide +kernel
theorem dX6_set_19 : decode cX6_set 19 = .ok (.iload_n 2, 1) := by decide +kernel
theorem dX6_set_20 : decode cX6_set 20 = .ok (.iload_n 1, 1) := by decide +kernel
theorem dX6_set_21 : decode cX6_set 21 = .ok (.ifCond .ne 8, 3) := by decide +kernel
theorem dX6_set_24 : decode cX6_set 24 = .ok (.bipush 10, 2) := by decide +kernel
theorem dX6_set_26 : decode cX6_set 26 = .ok (.goto 4, 3) := by decide +kernel
theorem dX6_set_29 : decode cX6_set 29 = .ok (.iconst 1, 1) := by decide +kernel
theorem dX6_set_30 : decode cX6_set 30 = .ok (.iload_n 1, 1) := by decide +kernel
theorem dX6_set_31 : decode cX6_set 31 = .ok (.ifCond .ne 9, 3) := by decide +kernel
theorem dX6_set_34 : decode cX6_set 34 = .ok (.sipush 2000, 3) := by decide +kernel
theorem dX6_set_37 : decode cX6_set 37 = .ok (.goto 4, 3) := by decide +kernel
theorem dX6_set_40 : decode cX6_set 40 = .ok (.iconst 5, 1) := by decide +kernel
theorem dX6_set_41 : decode cX6_set 41 = .ok (.invokestatic 47, 3) := by decide +kernel
theorem dX6_set_44 : decode cX6_set 44 = .ok (.aload_n 0, 1) := by decide +kernel
theorem dX6_set_45 : decode cX6_set 45 = .ok (.getfield 22, 3) := by decide +kernel
theorem dX6_set_48 : decode cX6_set 48 = .ok (.aload_n 0, 1) := by decide +kernel
theorem dX6_set_49 : decode cX6_set 49 = .ok (.getfield 10, 3) := by decide +kernel
theorem dX6_set_52 : decode cX6_set 52 = .ok (.invokevirtual 62, 3) := by decide +kernel
theorem dX6_set_55 : decode cX6_set 55 = .ok (.iload_n 1, 1) := by decide +kernel
theorem dX6_set_56 : decode cX6_set 56 = .ok (.ifCond .ne 13, 3) := by decide +kernel
theorem dX6_set_59 : decode cX6_set 59 = .ok (.aload_n 0, 1) := by decide +kernel
theorem dX6_set_60 : decode cX6_set 60 = .ok (.getfield 10, 3) := by decide +kernel
theorem dX6_set_63 : decode cX6_set 63 = .ok (.getfield 117, 3) := by decide +kernel
theorem dX6_set_66 : decode cX6_set 66 = .ok (.goto 10, 3) := by decide +kernel
theorem dX6_set_69 : decode cX6_set 69 = .ok (.aload_n 0, 1) := by decide +kernel
theorem dX6_set_70 : decode cX6_set 70 = .ok (.getfield 10, 3) := by decide +kernel
theorem dX6_set_73 : decode cX6_set 73 = .ok (.getfield 120, 3) := by decide +kernel
theorem dX6_set_76 : decode cX6_set 76 = .ok (.istore_n 3, 1) := by decide +kernel
theorem dX6_set_77 : decode cX6_set 77 = .ok (.iload_n 1, 1) := by decide +kernel
theorem dX6_set_78 : decode cX6_set 78 = .ok (.ifCond .ne 14, 3) := by decide +kernel
theorem dX6_set_81 : decode cX6_set 81 = .ok (.aload_n 0, 1) := by decide +kernel
theorem dX6_set_82 : decode cX6_set 82 = .ok (.getfield 10, 3) := by decide +kernel
theorem dX6_set_85 : decode cX6_set 85 = .ok (.iload_n 2, 1) := by decide +kernel
theorem dX6_set_86 : decode cX6_set 86 = .ok (.putfield 117, 3) := by decide +kernel
theorem dX6_set_89 : decode cX6_set 89 = .ok (.goto 11, 3) := by decide +kernel
theorem dX6_set_92 : decode cX6_set 92 = .ok (.aload_n 0, 1) := by decide +kernel
theorem dX6_set_93 : decode cX6_set 93 = .ok (.getfield 10, 3) := by decide +kernel
theorem dX6_set_96 : decode cX6_set 96 = .ok (.iload_n 2, 1) := by decide +kernel
theorem dX6_set_97 : decode cX6_set 97 = .ok (.putfield 120, 3) := by decide +kernel
theorem dX6_set_100 : decode cX6_set 100 = .ok (.iload_n 3, 1) := by decide +kernel
theorem dX6_set_101 : decode cX6_set 101 = .ok (.ireturn, 1) := by decide +kernel
theorem dX6_ofThermometer_0 : decode cX6_ofThermometer 0 = .ok (.aload_n 0, 1) := by decide +kernel
theorem dX6_ofThermometer_1 : decode cX6_ofThermometer 1 = .ok (.iload_n 1, 1) := by decide +kernel
theorem dX6_ofThermometer_2 : decode cX6_ofThermometer 2 = .ok (.invokevirtual 91, 3) := by decide +kernel
theorem dX6_ofThermometer_5 : decode cX6_ofThermometer 5 = .ok (.iload_n 2, 1) := by decide +kernel
theorem dX6_ofThermometer_6 : decode cX6_ofThermometer 6 = .ok (.iconst 0, 1) := by decide +kernel
theorem dX6_ofThermometer_7 : decode cX6_ofThermometer 7 = .ok (.bipush 9, 2) := by decide +kernel
theorem dX6_ofThermometer_9 : decode cX6_ofThermometer 9 = .ok (.invokestatic 47, 3) := by decide +kernel
theorem dX6_ofThermometer_12 : decode cX6_ofThermometer 12 = .ok (.aload_n 0, 1) := by decide +kernel
theorem dX6_ofThermometer_13 : decode cX6_ofThermometer 13 = .ok (.getfield 10, 3) := by decide +kernel
theorem dX6_ofThermometer_16 : decode cX6_ofThermometer 16 = .ok (.iload_n 1, 1) := by decide +kernel
theorem dX6_ofThermometer_17 : decode cX6_ofThermometer 17 = .ok (.invokevirtual 94, 3) := by decide +kernel
theorem dX6_ofThermometer_20 : decode cX6_ofThermometer 20 = .ok (.iload_n 2, 1) := by decide +kernel
theorem dX6_ofThermometer_21 : decode cX6_ofThermometer 21 = .ok (.invokevirtual 186, 3) := by decide +kernel
theorem dX6_ofThermometer_24 : decode cX6_ofThermometer 24 = .ok (.ireturn, 1) := by decide +kernel
theorem dX6_reading_0 : decode cX6_reading 0 = .ok (.aload_n 0, 1) := by decide +kernel
theorem dX6_reading_1 : decode cX6_reading 1 = .ok (.iload_n 1, 1) := by decide +kernel
theorem dX6_reading_2 : decode cX6_reading 2 = .ok (.invokevirtual 91, 3) := by decide +kernel
theorem dX6_reading_5 : decode cX6_reading 5 = .ok (.iload_n 2, 1) := by decide +kernel
theorem dX6_reading_6 : decode cX6_reading 6 = .ok (.invokestatic 189, 3) := by decide +kernel
theorem dX6_reading_9 : decode cX6_reading 9 = .ok (.iload_n 3, 1) := by decide +kernel
theorem dX6_reading_10 : decode cX6_reading 10 = .ok (.iconst 0, 1) := by decide +kernel
theorem dX6_reading_11 : decode cX6_reading 11 = .ok (.iconst 1, 1) := by decide +kernel
theorem dX6_reading_12 : decode cX6_reading 12 = .ok (.invokestatic 47, 3) := by decide +kernel
theorem dX6_reading_15 : decode cX6_reading 15 = .ok (.aload_n 0, 1) := by decide +kernel
theorem dX6_reading_16 : decode cX6_reading 16 = .ok (.getfield 10, 3) := by decide +kernel
theorem dX6_reading_19 : decode cX6_reading 19 = .ok (.iload_n 1, 1) := by decide +kernel
theorem dX6_reading_20 : decode cX6_reading 20 = .ok (.invokevirtual 94, 3) := by decide +kernel
theorem dX6_reading_23 : decode cX6_reading 23 = .ok (.astore 4, 2) := by decide +kernel
theorem dX6_reading_25 : decode cX6_reading 25 = .ok (.iload_n 3, 1) := by decide +kernel
theorem dX6_reading_26 : decode cX6_reading 26 = .ok (.ifCond .ne 12, 3) := by decide +kernel
theorem dX6_reading_29 : decode cX6_reading 29 = .ok (.aload 4, 2) := by decide +kernel
theorem dX6_reading_31 : decode cX6_reading 31 = .ok (.iload_n 2, 1) := by decide +kernel
theorem dX6_reading_32 : decode cX6_reading 32 = .ok (.invokevirtual 192, 3) := by decide +kernel
theorem dX6_reading_35 : decode cX6_reading 35 = .ok (.goto 9, 3) := by decide +kernel
theorem dX6_reading_38 : decode cX6_reading 38 = .ok (.aload 4, 2) := by decide +kernel
theorem dX6_reading_40 : decode cX6_reading 40 = .ok (.iload_n 2, 1) := by decide +kernel
theorem dX6_reading_41 : decode cX6_reading 41 = .ok (.invokevirtual 195, 3) := by decide +kernel
theorem dX6_reading_44 : decode cX6_reading 44 = .ok (.ireturn, 1) := by decide +kernel
theorem dX6_row_0 : decode cX6_row 0 = .ok (.iload_n 1, 1) := by decide +kernel
theorem dX6_row_1 : decode cX6_row 1 = .ok (.invokestatic 43, 3) := by decide +kernel
theorem dX6_row_4 : decode cX6_row 4 = .ok (.iload_n 2, 1) := by decide +kernel
theorem dX6_row_5 : decode cX6_row 5 = .ok (.iconst 0, 1) := by decide +kernel
theorem dX6_row_6 : decode cX6_row 6 = .ok (.iconst 3, 1) := by decide +kernel
theorem dX6_row_7 : decode cX6_row 7 = .ok (.invokestatic 47, 3) := by decide +kernel
theorem dX6_row_10 : decode cX6_row 10 = .ok (.iload_n 2, 1) := by decide +kernel
theorem dX6_row_11 : decode cX6_row 11 = .ok (.tableswitch 52 0 2 #[25, 34, 43], 25) := by decide +kernel
theorem dX6_row_36 : decode cX6_row 36 = .ok (.aload_n 0, 1) := by decide +kernel
theorem dX6_row_37 : decode cX6_row 37 = .ok (.getfield 10, 3) := by decide +kernel
theorem dX6_row_40 : decode cX6_row 40 = .ok (.iload_n 1, 1) := by decide +kernel
theorem dX6_row_41 : decode cX6_row 41 = .ok (.invokevirtual 85, 3) := by decide +kernel
theorem dX6_row_44 : decode cX6_row 44 = .ok (.ireturn, 1) := by decide +kernel
theorem dX6_row_45 : decode cX6_row 45 = .ok (.aload_n 0, 1) := by decide +kernel
theorem dX6_row_46 : decode cX6_row 46 = .ok (.getfield 10, 3) := by decide +kernel
theorem dX6_row_49 : decode cX6_row 49 = .ok (.iload_n 1, 1) := by decide +kernel
theorem dX6_row_50 : decode cX6_row 50 = .ok (.invokevirtual 198, 3) := by decide +kernel
theorem dX6_row_53 : decode cX6_row 53 = .ok (.ireturn, 1) := by decide +kernel
theorem dX6_row_54 : decode cX6_row 54 = .ok (.aload_n 0, 1) := by decide +kernel
theorem dX6_row_55 : decode cX6_row 55 = .ok (.getfield 10, 3) := by decide +kernel
theorem dX6_row_58 : decode cX6_row 58 = .ok (.iload_n 1, 1) := by decide +kernel
theorem dX6_row_59 : decode cX6_row 59 = .ok (.invokevirtual 201, 3) := by decide +kernel
theorem dX6_row_62 : decode cX6_row 62 = .ok (.ireturn, 1) := by decide +kernel
theorem dX6_row_63 : decode cX6_row 63 = .ok (.aload_n 0, 1) := by decide +kernel
theorem dX6_row_64 : decode cX6_row 64 = .ok (.getfield 10, 3) := by decide +kernel
theorem dX6_row_67 : decode cX6_row 67 = .ok (.iload_n 1, 1) := by decide +kernel
theorem dX6_row_68 : decode cX6_row 68 = .ok (.invokevirtual 204, 3) := by decide +kernel
theorem dX6_row_71 : decode cX6_row 71 = .ok (.ireturn, 1) := by decide +kernel
theorem dX6_count_0 : decode cX6_count 0 = .ok (.iload_n 1, 1) := by decide +kernel
theorem dX6_count_1 : decode cX6_count 1 = .ok (.iconst 0, 1) := by decide +kernel
theorem dX6_count_2 : decode cX6_count 2 = .ok (.bipush 13, 2) := by decide +kernel
theorem dX6_count_4 : decode cX6_count 4 = .ok (.invokestatic 47, 3) := by decide +kernel
theorem dX6_count_7 : decode cX6_count 7 = .ok (.iload_n 1, 1) := by decide +kernel
theorem dX6_count_8 : decode cX6_count 8 = .ok (.tableswitch 173 0 12 #[68, 76, 84, 92, 100, 108, 116, 124, 133, 141, 149, 157, 165], 68) := by decide +kernel
theorem dX6_count_76 : decode cX6_count 76 = .ok (.aload_n 0, 1) := by decide +kernel
theorem dX6_count_77 : decode cX6_count 77 = .ok (.getfield 10, 3) := by decide +kernel
theorem dX6_count_80 : decode cX6_count 80 = .ok (.getfield 171, 3) := by decide +kernel
theorem dX6_count_83 : decode cX6_count 83 = .ok (.ireturn, 1) := by decide +kernel
theorem dX6_count_84 : decode cX6_count 84 = .ok (.aload_n 0, 1) := by decide +kernel
theorem dX6_count_85 : decode cX6_count 85 = .ok (.getfield 10, 3) := by decide +kernel
theorem dX6_count_88 : decode cX6_count 88 = .ok (.getfield 207, 3) := by decide +kernel
theorem dX6_count_91 : decode cX6_count 91 = .ok (.ireturn, 1) := by decide +kernel
theorem dX6_count_92 : decode cX6_count 92 = .ok (.aload_n 0, 1) := by decide +kernel
theorem dX6_count_93 : decode cX6_count 93 = .ok (.getfield 10, 3) := by decide +kernel
theorem dX6_count_96 : decode cX6_count 96 = .ok (.getfield 81, 3) := by decide +kernel
theorem dX6_count_99 : decode cX6_count 99 = .ok (.ireturn, 1) := by decide +kernel
theorem dX6_count_100 : decode cX6_count 100 = .ok (.aload_n 0, 1) := by decide +kernel
theorem dX6_count_101 : decode cX6_count 101 = .ok (.getfield 10, 3) := by decide +kernel
theorem dX6_count_104 : decode cX6_count 104 = .ok (.invokevirtual 208, 3) := by decide +kernel
theorem dX6_count_107 : decode cX6_count 107 = .ok (.ireturn, 1) := by decide +kernel
theorem dX6_count_108 : decode cX6_count 108 = .ok (.aload_n 0, 1) := by decide +kernel
theorem dX6_count_109 : decode cX6_count 109 = .ok (.getfield 10, 3) := by decide +kernel
theorem dX6_count_112 : decode cX6_count 112 = .ok (.invokevirtual 211, 3) := by decide +kernel
theorem dX6_count_115 : decode cX6_count 115 = .ok (.ireturn, 1) := by decide +kernel
theorem dX6_count_116 : decode cX6_count 116 = .ok (.aload_n 0, 1) := by decide +kernel
theorem dX6_count_117 : decode cX6_count 117 = .ok (.getfield 10, 3) := by decide +kernel
theorem dX6_count_120 : decode cX6_count 120 = .ok (.invokevirtual 214, 3) := by decide +kernel
theorem dX6_count_123 : decode cX6_count 123 = .ok (.ireturn, 1) := by decide +kernel
theorem dX6_count_124 : decode cX6_count 124 = .ok (.aload_n 0, 1) := by decide +kernel
theorem dX6_count_125 : decode cX6_count 125 = .ok (.getfield 10, 3) := by decide +kernel
theorem dX6_count_128 : decode cX6_count 128 = .ok (.invokevirtual 217, 3) := by decide +kernel
theorem dX6_count_131 : decode cX6_count 131 = .ok (.ireturn, 1) := by decide +kernel
theorem dX6_count_132 : decode cX6_count 132 = .ok (.aload_n 0, 1) := by decide +kernel
theorem dX6_count_133 : decode cX6_count 133 = .ok (.getfield 10, 3) := by decide +kernel
theorem dX6_count_136 : decode cX6_count 136 = .ok (.iconst (-1), 1) := by decide +kernel
theorem dX6_count_137 : decode cX6_count 137 = .ok (.invokevirtual 220, 3) := by decide +kernel
theorem dX6_count_140 : decode cX6_count 140 = .ok (.ireturn, 1) := by decide +kernel
theorem dX6_count_141 : decode cX6_count 141 = .ok (.aload_n 0, 1) := by decide +kernel
theorem dX6_count_142 : decode cX6_count 142 = .ok (.getfield 10, 3) := by decide +kernel
theorem dX6_count_145 : decode cX6_count 145 = .ok (.getfield 223, 3) := by decide +kernel
theorem dX6_count_148 : decode cX6_count 148 = .ok (.ireturn, 1) := by decide +kernel
theorem dX6_count_149 : decode cX6_count 149 = .ok (.aload_n 0, 1) := by decide +kernel
theorem dX6_count_150 : decode cX6_count 150 = .ok (.getfield 10, 3) := by decide +kernel
theorem dX6_count_153 : decode cX6_count 153 = .ok (.getfield 226, 3) := by decide +kernel
theorem dX6_count_156 : decode cX6_count 156 = .ok (.ireturn, 1) := by decide +kernel
theorem dX6_count_157 : decode cX6_count 157 = .ok (.aload_n 0, 1) := by decide +kernel
theorem dX6_count_158 : decode cX6_count 158 = .ok (.getfield 22, 3) := by decide +kernel
theorem dX6_count_161 : decode cX6_count 161 = .ok (.getfield 156, 3) := by decide +kernel
theorem dX6_count_164 : decode cX6_count 164 = .ok (.ireturn, 1) := by decide +kernel
theorem dX6_count_165 : decode cX6_count 165 = .ok (.aload_n 0, 1) := by decide +kernel
theorem dX6_count_166 : decode cX6_count 166 = .ok (.getfield 39, 3) := by decide +kernel
theorem dX6_count_169 : decode cX6_count 169 = .ok (.getfield 132, 3) := by decide +kernel
theorem dX6_count_172 : decode cX6_count 172 = .ok (.ireturn, 1) := by decide +kernel
theorem dX6_count_173 : decode cX6_count 173 = .ok (.aload_n 0, 1) := by decide +kernel
theorem dX6_count_174 : decode cX6_count 174 = .ok (.getfield 10, 3) := by decide +kernel
theorem dX6_count_177 : decode cX6_count 177 = .ok (.getfield 117, 3) := by decide +kernel
theorem dX6_count_180 : decode cX6_count 180 = .ok (.ireturn, 1) := by decide +kernel
theorem dX6_count_181 : decode cX6_count 181 = .ok (.aload_n 0, 1) := by decide +kernel
theorem dX6_count_182 : decode cX6_count 182 = .ok (.getfield 10, 3) := by decide +kernel
theorem dX6_count_185 : decode cX6_count 185 = .ok (.getfield 120, 3) := by decide +kernel
theorem dX6_count_188 : decode cX6_count 188 = .ok (.ireturn, 1) := by decide +kernel
theorem dX6_ranked_0 : decode cX6_ranked 0 = .ok (.iload_n 1, 1) := by decide +kernel
theorem dX6_ranked_1 : decode cX6_ranked 1 = .ok (.iconst 0, 1) := by decide +kernel
theorem dX6_ranked_2 : decode cX6_ranked 2 = .ok (.iconst 1, 1) := by decide +kernel
theorem dX6_ranked_3 : decode cX6_ranked 3 = .ok (.invokestatic 47, 3) := by decide +kernel
theorem dX6_ranked_6 : decode cX6_ranked 6 = .ok (.iload_n 2, 1) := by decide +kernel
theorem dX6_ranked_7 : decode cX6_ranked 7 = .ok (.invokestatic 189, 3) := by decide +kernel
theorem dX6_ranked_10 : decode cX6_ranked 10 = .ok (.aload_n 0, 1) := by decide +kernel
theorem dX6_ranked_11 : decode cX6_ranked 11 = .ok (.getfield 10, 3) := by decide +kernel
theorem dX6_ranked_14 : decode cX6_ranked 14 = .ok (.iload_n 1, 1) := by decide +kernel
theorem dX6_ranked_15 : decode cX6_ranked 15 = .ok (.iload_n 2, 1) := by decide +kernel
theorem dX6_ranked_16 : decode cX6_ranked 16 = .ok (.invokevirtual 229, 3) := by decide +kernel
theorem dX6_ranked_19 : decode cX6_ranked 19 = .ok (.ireturn, 1) := by decide +kernel
theorem dX6_between_0 : decode cX6_between 0 = .ok (.aload_n 0, 1) := by decide +kernel
theorem dX6_between_1 : decode cX6_between 1 = .ok (.getfield 10, 3) := by decide +kernel
theorem dX6_between_4 : decode cX6_between 4 = .ok (.iload_n 1, 1) := by decide +kernel
theorem dX6_between_5 : decode cX6_between 5 = .ok (.iload_n 2, 1) := by decide +kernel
theorem dX6_between_6 : decode cX6_between 6 = .ok (.invokevirtual 233, 3) := by decide +kernel
theorem dX6_between_9 : decode cX6_between 9 = .ok (.ireturn, 1) := by decide +kernel
theorem dX6_ifLag_0 : decode cX6_ifLag 0 = .ok (.aload_n 0, 1) := by decide +kernel
theorem dX6_ifLag_1 : decode cX6_ifLag 1 = .ok (.iload_n 1, 1) := by decide +kernel
theorem dX6_ifLag_2 : decode cX6_ifLag 2 = .ok (.invokevirtual 91, 3) := by decide +kernel
theorem dX6_ifLag_5 : decode cX6_ifLag 5 = .ok (.iload_n 2, 1) := by decide +kernel
theorem dX6_ifLag_6 : decode cX6_ifLag 6 = .ok (.iconst 1, 1) := by decide +kernel
theorem dX6_ifLag_7 : decode cX6_ifLag 7 = .ok (.bipush 9, 2) := by decide +kernel
theorem dX6_ifLag_9 : decode cX6_ifLag 9 = .ok (.invokestatic 47, 3) := by decide +kernel
theorem dX6_ifLag_12 : decode cX6_ifLag 12 = .ok (.aload_n 0, 1) := by decide +kernel
theorem dX6_ifLag_13 : decode cX6_ifLag 13 = .ok (.getfield 10, 3) := by decide +kernel
theorem dX6_ifLag_16 : decode cX6_ifLag 16 = .ok (.iload_n 1, 1) := by decide +kernel
theorem dX6_ifLag_17 : decode cX6_ifLag 17 = .ok (.invokevirtual 94, 3) := by decide +kernel
theorem dX6_ifLag_20 : decode cX6_ifLag 20 = .ok (.iload_n 2, 1) := by decide +kernel
theorem dX6_ifLag_21 : decode cX6_ifLag 21 = .ok (.invokevirtual 236, 3) := by decide +kernel
theorem dX6_ifLag_24 : decode cX6_ifLag 24 = .ok (.ireturn, 1) := by decide +kernel
theorem dX6_bestLag_0 : decode cX6_bestLag 0 = .ok (.aload_n 0, 1) := by decide +kernel
theorem dX6_bestLag_1 : decode cX6_bestLag 1 = .ok (.iload_n 1, 1) := by decide +kernel
theorem dX6_bestLag_2 : decode cX6_bestLag 2 = .ok (.invokevirtual 91, 3) := by decide +kernel
theorem dX6_bestLag_5 : decode cX6_bestLag 5 = .ok (.aload_n 0, 1) := by decide +kernel
theorem dX6_bestLag_6 : decode cX6_bestLag 6 = .ok (.getfield 10, 3) := by decide +kernel
theorem dX6_bestLag_9 : decode cX6_bestLag 9 = .ok (.iload_n 1, 1) := by decide +kernel
theorem dX6_bestLag_10 : decode cX6_bestLag 10 = .ok (.invokevirtual 94, 3) := by decide +kernel
theorem dX6_bestLag_13 : decode cX6_bestLag 13 = .ok (.aload_n 0, 1) := by decide +kernel
theorem dX6_bestLag_14 : decode cX6_bestLag 14 = .ok (.getfield 10, 3) := by decide +kernel
theorem dX6_bestLag_17 : decode cX6_bestLag 17 = .ok (.getfield 81, 3) := by decide +kernel
theorem dX6_bestLag_20 : decode cX6_bestLag 20 = .ok (.invokevirtual 239, 3) := by decide +kernel
theorem dX6_bestLag_23 : decode cX6_bestLag 23 = .ok (.ireturn, 1) := by decide +kernel
theorem dX6_ifStill_0 : decode cX6_ifStill 0 = .ok (.iload_n 1, 1) := by decide +kernel
theorem dX6_ifStill_1 : decode cX6_ifStill 1 = .ok (.iconst 1, 1) := by decide +kernel
theorem dX6_ifStill_2 : decode cX6_ifStill 2 = .ok (.bipush 48, 2) := by decide +kernel
theorem dX6_ifStill_4 : decode cX6_ifStill 4 = .ok (.invokestatic 47, 3) := by decide +kernel
theorem dX6_ifStill_7 : decode cX6_ifStill 7 = .ok (.iload_n 2, 1) := by decide +kernel
theorem dX6_ifStill_8 : decode cX6_ifStill 8 = .ok (.iconst 0, 1) := by decide +kernel
theorem dX6_ifStill_9 : decode cX6_ifStill 9 = .ok (.iconst 3, 1) := by decide +kernel
theorem dX6_ifStill_10 : decode cX6_ifStill 10 = .ok (.invokestatic 47, 3) := by decide +kernel
theorem dX6_ifStill_13 : decode cX6_ifStill 13 = .ok (.aload_n 0, 1) := by decide +kernel
theorem dX6_ifStill_14 : decode cX6_ifStill 14 = .ok (.getfield 16, 3) := by decide +kernel
theorem dX6_ifStill_17 : decode cX6_ifStill 17 = .ok (.aload_n 0, 1) := by decide +kernel
theorem dX6_ifStill_18 : decode cX6_ifStill 18 = .ok (.getfield 10, 3) := by decide +kernel
theorem dX6_ifStill_21 : decode cX6_ifStill 21 = .ok (.invokevirtual 183, 3) := by decide +kernel
theorem dX6_ifStill_24 : decode cX6_ifStill 24 = .ok (.aload_n 0, 1) := by decide +kernel
theorem dX6_ifStill_25 : decode cX6_ifStill 25 = .ok (.getfield 16, 3) := by decide +kernel
theorem dX6_ifStill_28 : decode cX6_ifStill 28 = .ok (.iload_n 1, 1) := by decide +kernel
theorem dX6_ifStill_29 : decode cX6_ifStill 29 = .ok (.iconst 0, 1) := by decide +kernel
theorem dX6_ifStill_30 : decode cX6_ifStill 30 = .ok (.invokevirtual 77, 3) := by decide +kernel
theorem dX6_ifStill_33 : decode cX6_ifStill 33 = .ok (.iload_n 2, 1) := by decide +kernel
theorem dX6_ifStill_34 : decode cX6_ifStill 34 = .ok (.tableswitch 58 0 2 #[26, 34, 42], 26) := by decide +kernel
theorem dX6_ifStill_60 : decode cX6_ifStill 60 = .ok (.aload_n 0, 1) := by decide +kernel
theorem dX6_ifStill_61 : decode cX6_ifStill 61 = .ok (.getfield 16, 3) := by decide +kernel
theorem dX6_ifStill_64 : decode cX6_ifStill 64 = .ok (.invokevirtual 214, 3) := by decide +kernel
theorem dX6_ifStill_67 : decode cX6_ifStill 67 = .ok (.ireturn, 1) := by decide +kernel
theorem dX6_ifStill_68 : decode cX6_ifStill 68 = .ok (.aload_n 0, 1) := by decide +kernel
theorem dX6_ifStill_69 : decode cX6_ifStill 69 = .ok (.getfield 16, 3) := by decide +kernel
theorem dX6_ifStill_72 : decode cX6_ifStill 72 = .ok (.invokevirtual 211, 3) := by decide +kernel
theorem dX6_ifStill_75 : decode cX6_ifStill 75 = .ok (.ireturn, 1) := by decide +kernel
theorem dX6_ifStill_76 : decode cX6_ifStill 76 = .ok (.aload_n 0, 1) := by decide +kernel
theorem dX6_ifStill_77 : decode cX6_ifStill 77 = .ok (.getfield 16, 3) := by decide +kernel
theorem dX6_ifStill_80 : decode cX6_ifStill 80 = .ok (.getfield 226, 3) := by decide +kernel
theorem dX6_ifStill_83 : decode cX6_ifStill 83 = .ok (.aload_n 0, 1) := by decide +kernel
theorem dX6_ifStill_84 : decode cX6_ifStill 84 = .ok (.getfield 10, 3) := by decide +kernel
theorem dX6_ifStill_87 : decode cX6_ifStill 87 = .ok (.getfield 226, 3) := by decide +kernel
theorem dX6_ifStill_90 : decode cX6_ifStill 90 = .ok (.isub, 1) := by decide +kernel
theorem dX6_ifStill_91 : decode cX6_ifStill 91 = .ok (.ireturn, 1) := by decide +kernel
theorem dX6_ifStill_92 : decode cX6_ifStill 92 = .ok (.aload_n 0, 1) := by decide +kernel
theorem dX6_ifStill_93 : decode cX6_ifStill 93 = .ok (.getfield 16, 3) := by decide +kernel
theorem dX6_ifStill_96 : decode cX6_ifStill 96 = .ok (.invokevirtual 242, 3) := by decide +kernel
theorem dX6_ifStill_99 : decode cX6_ifStill 99 = .ok (.ireturn, 1) := by decide +kernel
theorem dX6_stillIn_0 : decode cX6_stillIn 0 = .ok (.aload_n 0, 1) := by decide +kernel
theorem dX6_stillIn_1 : decode cX6_stillIn 1 = .ok (.iload_n 1, 1) := by decide +kernel
theorem dX6_stillIn_2 : decode cX6_stillIn 2 = .ok (.invokevirtual 91, 3) := by decide +kernel
theorem dX6_stillIn_5 : decode cX6_stillIn 5 = .ok (.aload_n 0, 1) := by decide +kernel
theorem dX6_stillIn_6 : decode cX6_stillIn 6 = .ok (.getfield 10, 3) := by decide +kernel
theorem dX6_stillIn_9 : decode cX6_stillIn 9 = .ok (.iload_n 1, 1) := by decide +kernel
theorem dX6_stillIn_10 : decode cX6_stillIn 10 = .ok (.invokevirtual 94, 3) := by decide +kernel
theorem dX6_stillIn_13 : decode cX6_stillIn 13 = .ok (.aload_n 0, 1) := by decide +kernel
theorem dX6_stillIn_14 : decode cX6_stillIn 14 = .ok (.getfield 10, 3) := by decide +kernel
theorem dX6_stillIn_17 : decode cX6_stillIn 17 = .ok (.getfield 81, 3) := by decide +kernel
theorem dX6_stillIn_20 : decode cX6_stillIn 20 = .ok (.invokevirtual 245, 3) := by decide +kernel
theorem dX6_stillIn_23 : decode cX6_stillIn 23 = .ok (.ireturn, 1) := by decide +kernel
theorem dX6_meanError_0 : decode cX6_meanError 0 = .ok (.aload_n 0, 1) := by decide +kernel
theorem dX6_meanError_1 : decode cX6_meanError 1 = .ok (.getfield 10, 3) := by decide +kernel
theorem dX6_meanError_4 : decode cX6_meanError 4 = .ok (.invokevirtual 248, 3) := by decide +kernel
theorem dX6_meanError_7 : decode cX6_meanError 7 = .ok (.istore_n 1, 1) := by decide +kernel
theorem dX6_meanError_8 : decode cX6_meanError 8 = .ok (.iload_n 1, 1) := by decide +kernel
theorem dX6_meanError_9 : decode cX6_meanError 9 = .ok (.ifCond .ne 7, 3) := by decide +kernel
theorem dX6_meanError_12 : decode cX6_meanError 12 = .ok (.dconst 0, 1) := by decide +kernel
theorem dX6_meanError_13 : decode cX6_meanError 13 = .ok (.goto 14, 3) := by decide +kernel
theorem dX6_meanError_16 : decode cX6_meanError 16 = .ok (.aload_n 0, 1) := by decide +kernel
theorem dX6_meanError_17 : decode cX6_meanError 17 = .ok (.getfield 10, 3) := by decide +kernel
theorem dX6_meanError_20 : decode cX6_meanError 20 = .ok (.invokevirtual 251, 3) := by decide +kernel
theorem dX6_meanError_23 : decode cX6_meanError 23 = .ok (.i2d, 1) := by decide +kernel
theorem dX6_meanError_24 : decode cX6_meanError 24 = .ok (.iload_n 1, 1) := by decide +kernel
theorem dX6_meanError_25 : decode cX6_meanError 25 = .ok (.i2d, 1) := by decide +kernel
theorem dX6_meanError_26 : decode cX6_meanError 26 = .ok (.ddiv, 1) := by decide +kernel
theorem dX6_meanError_27 : decode cX6_meanError 27 = .ok (.dreturn, 1) := by decide +kernel
theorem dX6_checkRow_0 : decode cX6_checkRow 0 = .ok (.iload_n 0, 1) := by decide +kernel
theorem dX6_checkRow_1 : decode cX6_checkRow 1 = .ok (.ifCond .lt 8, 3) := by decide +kernel
theorem dX6_checkRow_4 : decode cX6_checkRow 4 = .ok (.iload_n 0, 1) := by decide +kernel
theorem dX6_checkRow_5 : decode cX6_checkRow 5 = .ok (.iconst 4, 1) := by decide +kernel
theorem dX6_checkRow_6 : decode cX6_checkRow 6 = .ok (.if_icmp .lt 13, 3) := by decide +kernel
theorem dX6_checkRow_9 : decode cX6_checkRow 9 = .ok (.new 112, 3) := by decide +kernel
theorem dX6_checkRow_12 : decode cX6_checkRow 12 = .ok (.dup, 1) := by decide +kernel
theorem dX6_checkRow_13 : decode cX6_checkRow 13 = .ok (.ldc 254, 2) := by decide +kernel
theorem dX6_checkRow_15 : decode cX6_checkRow 15 = .ok (.invokespecial 116, 3) := by decide +kernel
theorem dX6_checkRow_18 : decode cX6_checkRow 18 = .ok (.athrow, 1) := by decide +kernel
theorem dX6_checkRow_19 : decode cX6_checkRow 19 = .ok (.return_, 1) := by decide +kernel
theorem dX6_checkRange_0 : decode cX6_checkRange 0 = .ok (.iload_n 0, 1) := by decide +kernel
theorem dX6_checkRange_1 : decode cX6_checkRange 1 = .ok (.iload_n 1, 1) := by decide +kernel
theorem dX6_checkRange_2 : decode cX6_checkRange 2 = .ok (.if_icmp .lt 8, 3) := by decide +kernel
theorem dX6_checkRange_5 : decode cX6_checkRange 5 = .ok (.iload_n 0, 1) := by decide +kernel
theorem dX6_checkRange_6 : decode cX6_checkRange 6 = .ok (.iload_n 2, 1) := by decide +kernel
theorem dX6_checkRange_7 : decode cX6_checkRange 7 = .ok (.if_icmp .le 14, 3) := by decide +kernel
theorem dX6_checkRange_10 : decode cX6_checkRange 10 = .ok (.new 142, 3) := by decide +kernel
theorem dX6_checkRange_13 : decode cX6_checkRange 13 = .ok (.dup, 1) := by decide +kernel
theorem dX6_checkRange_14 : decode cX6_checkRange 14 = .ok (.ldc_w 256, 3) := by decide +kernel
theorem dX6_checkRange_17 : decode cX6_checkRange 17 = .ok (.invokespecial 146, 3) := by decide +kernel
theorem dX6_checkRange_20 : decode cX6_checkRange 20 = .ok (.athrow, 1) := by decide +kernel
theorem dX6_checkRange_21 : decode cX6_checkRange 21 = .ok (.return_, 1) := by decide +kernel
theorem dX6_checkNotNegative_0 : decode cX6_checkNotNegative 0 = .ok (.iload_n 0, 1) := by decide +kernel
theorem dX6_checkNotNegative_1 : decode cX6_checkNotNegative 1 = .ok (.ifCond .ge 14, 3) := by decide +kernel
theorem dX6_checkNotNegative_4 : decode cX6_checkNotNegative 4 = .ok (.new 142, 3) := by decide +kernel
theorem dX6_checkNotNegative_7 : decode cX6_checkNotNegative 7 = .ok (.dup, 1) := by decide +kernel
theorem dX6_checkNotNegative_8 : decode cX6_checkNotNegative 8 = .ok (.ldc_w 258, 3) := by decide +kernel
theorem dX6_checkNotNegative_11 : decode cX6_checkNotNegative 11 = .ok (.invokespecial 146, 3) := by decide +kernel
theorem dX6_checkNotNegative_14 : decode cX6_checkNotNegative 14 = .ok (.athrow, 1) := by decide +kernel
theorem dX6_checkNotNegative_15 : decode cX6_checkNotNegative 15 = .ok (.return_, 1) := by decide +kernel
theorem dX6_checkThermometer_0 : decode cX6_checkThermometer 0 = .ok (.aload_n 0, 1) := by decide +kernel
theorem dX6_checkThermometer_1 : decode cX6_checkThermometer 1 = .ok (.getfield 10, 3) := by decide +kernel
theorem dX6_checkThermometer_4 : decode cX6_checkThermometer 4 = .ok (.iload_n 1, 1) := by decide +kernel
theorem dX6_checkThermometer_5 : decode cX6_checkThermometer 5 = .ok (.invokevirtual 260, 3) := by decide +kernel
theorem dX6_checkThermometer_8 : decode cX6_checkThermometer 8 = .ok (.ifCond .ne 14, 3) := by decide +kernel
theorem dX6_checkThermometer_11 : decode cX6_checkThermometer 11 = .ok (.new 112, 3) := by decide +kernel
theorem dX6_checkThermometer_14 : decode cX6_checkThermometer 14 = .ok (.dup, 1) := by decide +kernel
theorem dX6_checkThermometer_15 : decode cX6_checkThermometer 15 = .ok (.ldc_w 264, 3) := by decide +kernel
theorem dX6_checkThermometer_18 : decode cX6_checkThermometer 18 = .ok (.invokespecial 116, 3) := by decide +kernel
theorem dX6_checkThermometer_21 : decode cX6_checkThermometer 21 = .ok (.athrow, 1) := by decide +kernel
theorem dX6_checkThermometer_22 : decode cX6_checkThermometer 22 = .ok (.return_, 1) := by decide +kernel
theorem dX6_checkHoursLeft_0 : decode cX6_checkHoursLeft 0 = .ok (.aload_n 0, 1) := by decide +kernel
theorem dX6_checkHoursLeft_1 : decode cX6_checkHoursLeft 1 = .ok (.getfield 10, 3) := by decide +kernel
theorem dX6_checkHoursLeft_4 : decode cX6_checkHoursLeft 4 = .ok (.iload_n 1, 1) := by decide +kernel
theorem dX6_checkHoursLeft_5 : decode cX6_checkHoursLeft 5 = .ok (.invokevirtual 266, 3) := by decide +kernel
theorem dX6_checkHoursLeft_8 : decode cX6_checkHoursLeft 8 = .ok (.ifCond .ne 14, 3) := by decide +kernel
theorem dX6_checkHoursLeft_11 : decode cX6_checkHoursLeft 11 = .ok (.new 55, 3) := by decide +kernel
theorem dX6_checkHoursLeft_14 : decode cX6_checkHoursLeft 14 = .ok (.dup, 1) := by decide +kernel
theorem dX6_checkHoursLeft_15 : decode cX6_checkHoursLeft 15 = .ok (.ldc_w 269, 3) := by decide +kernel
theorem dX6_checkHoursLeft_18 : decode cX6_checkHoursLeft 18 = .ok (.invokespecial 59, 3) := by decide +kernel
theorem dX6_checkHoursLeft_21 : decode cX6_checkHoursLeft 21 = .ok (.athrow, 1) := by decide +kernel
theorem dX6_checkHoursLeft_22 : decode cX6_checkHoursLeft 22 = .ok (.return_, 1) := by decide +kernel
theorem dX6_quotient_0 : decode cX6_quotient 0 = .ok (.iload_n 1, 1) := by decide +kernel
theorem dX6_quotient_1 : decode cX6_quotient 1 = .ok (.ifCond .ne 7, 3) := by decide +kernel
theorem dX6_quotient_4 : decode cX6_quotient 4 = .ok (.iconst 0, 1) := by decide +kernel
theorem dX6_quotient_5 : decode cX6_quotient 5 = .ok (.goto 6, 3) := by decide +kernel
theorem dX6_quotient_8 : decode cX6_quotient 8 = .ok (.iload_n 0, 1) := by decide +kernel
theorem dX6_quotient_9 : decode cX6_quotient 9 = .ok (.iload_n 1, 1) := by decide +kernel
theorem dX6_quotient_10 : decode cX6_quotient 10 = .ok (.idiv, 1) := by decide +kernel
theorem dX6_quotient_11 : decode cX6_quotient 11 = .ok (.ireturn, 1) := by decide +kernel
theorem dX6_remainder_0 : decode cX6_remainder 0 = .ok (.iload_n 1, 1) := by decide +kernel
theorem dX6_remainder_1 : decode cX6_remainder 1 = .ok (.ifCond .ne 7, 3) := by decide +kernel
theorem dX6_remainder_4 : decode cX6_remainder 4 = .ok (.iconst 0, 1) := by decide +kernel
theorem dX6_remainder_5 : decode cX6_remainder 5 = .ok (.goto 6, 3) := by decide +kernel
theorem dX6_remainder_8 : decode cX6_remainder 8 = .ok (.iload_n 0, 1) := by decide +kernel
theorem dX6_remainder_9 : decode cX6_remainder 9 = .ok (.iload_n 1, 1) := by decide +kernel
theorem dX6_remainder_10 : decode cX6_remainder 10 = .ok (.irem, 1) := by decide +kernel
theorem dX6_remainder_11 : decode cX6_remainder 11 = .ok (.ireturn, 1) := by decide +kernel
theorem dX6_entry_0 : decode cX6_entry 0 = .ok (.iload_n 1, 1) := by decide +kernel
theorem dX6_entry_1 : decode cX6_entry 1 = .ok (.ifCond .lt 15, 3) := by decide +kernel
theorem dX6_entry_4 : decode cX6_entry 4 = .ok (.iload_n 1, 1) := by decide +kernel
theorem dX6_entry_5 : decode cX6_entry 5 = .ok (.aload_n 0, 1) := by decide +kernel
theorem dX6_entry_6 : decode cX6_entry 6 = .ok (.arraylength, 1) := by decide +kernel
theorem dX6_entry_7 : decode cX6_entry 7 = .ok (.if_icmp .ge 9, 3) := by decide +kernel
theorem dX6_entry_10 : decode cX6_entry 10 = .ok (.aload_n 0, 1) := by decide +kernel
theorem dX6_entry_11 : decode cX6_entry 11 = .ok (.iload_n 1, 1) := by decide +kernel
theorem dX6_entry_12 : decode cX6_entry 12 = .ok (.iaload, 1) := by decide +kernel
theorem dX6_entry_13 : decode cX6_entry 13 = .ok (.goto 6, 3) := by decide +kernel
theorem dX6_entry_16 : decode cX6_entry 16 = .ok (.ldc_w 283, 3) := by decide +kernel
theorem dX6_entry_19 : decode cX6_entry 19 = .ok (.ireturn, 1) := by decide +kernel
theorem dX6_copyInto_0 : decode cX6_copyInto 0 = .ok (.iconst 0, 1) := by decide +kernel
theorem dX6_copyInto_1 : decode cX6_copyInto 1 = .ok (.istore_n 2, 1) := by decide +kernel
theorem dX6_copyInto_2 : decode cX6_copyInto 2 = .ok (.iload_n 2, 1) := by decide +kernel
theorem dX6_copyInto_3 : decode cX6_copyInto 3 = .ok (.aload_n 0, 1) := by decide +kernel
theorem dX6_copyInto_4 : decode cX6_copyInto 4 = .ok (.arraylength, 1) := by decide +kernel
theorem dX6_copyInto_5 : decode cX6_copyInto 5 = .ok (.if_icmp .ge 21, 3) := by decide +kernel
theorem dX6_copyInto_8 : decode cX6_copyInto 8 = .ok (.iload_n 2, 1) := by decide +kernel
theorem dX6_copyInto_9 : decode cX6_copyInto 9 = .ok (.aload_n 1, 1) := by decide +kernel
theorem dX6_copyInto_10 : decode cX6_copyInto 10 = .ok (.arraylength, 1) := by decide +kernel
theorem dX6_copyInto_11 : decode cX6_copyInto 11 = .ok (.if_icmp .ge 15, 3) := by decide +kernel
theorem dX6_copyInto_14 : decode cX6_copyInto 14 = .ok (.aload_n 0, 1) := by decide +kernel
theorem dX6_copyInto_15 : decode cX6_copyInto 15 = .ok (.iload_n 2, 1) := by decide +kernel
theorem dX6_copyInto_16 : decode cX6_copyInto 16 = .ok (.aload_n 1, 1) := by decide +kernel
theorem dX6_copyInto_17 : decode cX6_copyInto 17 = .ok (.iload_n 2, 1) := by decide +kernel
theorem dX6_copyInto_18 : decode cX6_copyInto 18 = .ok (.iaload, 1) := by decide +kernel
theorem dX6_copyInto_19 : decode cX6_copyInto 19 = .ok (.iastore, 1) := by decide +kernel
theorem dX6_copyInto_20 : decode cX6_copyInto 20 = .ok (.iinc 2 1, 3) := by decide +kernel
theorem dX6_copyInto_23 : decode cX6_copyInto 23 = .ok (.goto (-21), 3) := by decide +kernel
theorem dX6_copyInto_26 : decode cX6_copyInto 26 = .ok (.return_, 1) := by decide +kernel
theorem dX6_putFirst_0 : decode cX6_putFirst 0 = .ok (.aload_n 0, 1) := by decide +kernel
theorem dX6_putFirst_1 : decode cX6_putFirst 1 = .ok (.arraylength, 1) := by decide +kernel
theorem dX6_putFirst_2 : decode cX6_putFirst 2 = .ok (.iconst 1, 1) := by decide +kernel
theorem dX6_putFirst_3 : decode cX6_putFirst 3 = .ok (.isub, 1) := by decide +kernel
theorem dX6_putFirst_4 : decode cX6_putFirst 4 = .ok (.istore_n 2, 1) := by decide +kernel
theorem dX6_putFirst_5 : decode cX6_putFirst 5 = .ok (.iload_n 2, 1) := by decide +kernel
theorem dX6_putFirst_6 : decode cX6_putFirst 6 = .ok (.ifCond .le 17, 3) := by decide +kernel
theorem dX6_putFirst_9 : decode cX6_putFirst 9 = .ok (.aload_n 0, 1) := by decide +kernel
theorem dX6_putFirst_10 : decode cX6_putFirst 10 = .ok (.iload_n 2, 1) := by decide +kernel
theorem dX6_putFirst_11 : decode cX6_putFirst 11 = .ok (.aload_n 0, 1) := by decide +kernel
theorem dX6_putFirst_12 : decode cX6_putFirst 12 = .ok (.iload_n 2, 1) := by decide +kernel
theorem dX6_putFirst_13 : decode cX6_putFirst 13 = .ok (.iconst 1, 1) := by decide +kernel
theorem dX6_putFirst_14 : decode cX6_putFirst 14 = .ok (.isub, 1) := by decide +kernel
theorem dX6_putFirst_15 : decode cX6_putFirst 15 = .ok (.iaload, 1) := by decide +kernel
theorem dX6_putFirst_16 : decode cX6_putFirst 16 = .ok (.iastore, 1) := by decide +kernel
theorem dX6_putFirst_17 : decode cX6_putFirst 17 = .ok (.iinc 2 (-1), 3) := by decide +kernel
theorem dX6_putFirst_20 : decode cX6_putFirst 20 = .ok (.goto (-15), 3) := by decide +kernel
theorem dX6_putFirst_23 : decode cX6_putFirst 23 = .ok (.aload_n 0, 1) := by decide +kernel
theorem dX6_putFirst_24 : decode cX6_putFirst 24 = .ok (.arraylength, 1) := by decide +kernel
theorem dX6_putFirst_25 : decode cX6_putFirst 25 = .ok (.ifCond .le 7, 3) := by decide +kernel
theorem dX6_putFirst_28 : decode cX6_putFirst 28 = .ok (.aload_n 0, 1) := by decide +kernel
theorem dX6_putFirst_29 : decode cX6_putFirst 29 = .ok (.iconst 0, 1) := by decide +kernel
theorem dX6_putFirst_30 : decode cX6_putFirst 30 = .ok (.iload_n 1, 1) := by decide +kernel
theorem dX6_putFirst_31 : decode cX6_putFirst 31 = .ok (.iastore, 1) := by decide +kernel
theorem dX6_putFirst_32 : decode cX6_putFirst 32 = .ok (.return_, 1) := by decide +kernel
theorem dJ6_bitCount_0f7a4_0 : decode cJ6_bitCount_0f7a4 0 = .ok (.iload_n 0, 1) := by decide +kernel
theorem dJ6_bitCount_0f7a4_1 : decode cJ6_bitCount_0f7a4 1 = .ok (.iload_n 0, 1) := by decide +kernel
theorem dJ6_bitCount_0f7a4_2 : decode cJ6_bitCount_0f7a4 2 = .ok (.iconst 1, 1) := by decide +kernel
theorem dJ6_bitCount_0f7a4_3 : decode cJ6_bitCount_0f7a4 3 = .ok (.iushr, 1) := by decide +kernel
theorem dJ6_bitCount_0f7a4_4 : decode cJ6_bitCount_0f7a4 4 = .ok (.ldc_w 265, 3) := by decide +kernel
theorem dJ6_bitCount_0f7a4_7 : decode cJ6_bitCount_0f7a4 7 = .ok (.iand, 1) := by decide +kernel
theorem dJ6_bitCount_0f7a4_8 : decode cJ6_bitCount_0f7a4 8 = .ok (.isub, 1) := by decide +kernel
theorem dJ6_bitCount_0f7a4_9 : decode cJ6_bitCount_0f7a4 9 = .ok (.istore_n 0, 1) := by decide +kernel
theorem dJ6_bitCount_0f7a4_10 : decode cJ6_bitCount_0f7a4 10 = .ok (.iload_n 0, 1) := by decide +kernel
theorem dJ6_bitCount_0f7a4_11 : decode cJ6_bitCount_0f7a4 11 = .ok (.ldc_w 266, 3) := by decide +kernel
theorem dJ6_bitCount_0f7a4_14 : decode cJ6_bitCount_0f7a4 14 = .ok (.iand, 1) := by decide +kernel
theorem dJ6_bitCount_0f7a4_15 : decode cJ6_bitCount_0f7a4 15 = .ok (.iload_n 0, 1) := by decide +kernel
theorem dJ6_bitCount_0f7a4_16 : decode cJ6_bitCount_0f7a4 16 = .ok (.iconst 2, 1) := by decide +kernel
theorem dJ6_bitCount_0f7a4_17 : decode cJ6_bitCount_0f7a4 17 = .ok (.iushr, 1) := by decide +kernel
theorem dJ6_bitCount_0f7a4_18 : decode cJ6_bitCount_0f7a4 18 = .ok (.ldc_w 266, 3) := by decide +kernel
theorem dJ6_bitCount_0f7a4_21 : decode cJ6_bitCount_0f7a4 21 = .ok (.iand, 1) := by decide +kernel
theorem dJ6_bitCount_0f7a4_22 : decode cJ6_bitCount_0f7a4 22 = .ok (.iadd, 1) := by decide +kernel
theorem dJ6_bitCount_0f7a4_23 : decode cJ6_bitCount_0f7a4 23 = .ok (.istore_n 0, 1) := by decide +kernel
theorem dJ6_bitCount_0f7a4_24 : decode cJ6_bitCount_0f7a4 24 = .ok (.iload_n 0, 1) := by decide +kernel
theorem dJ6_bitCount_0f7a4_25 : decode cJ6_bitCount_0f7a4 25 = .ok (.iload_n 0, 1) := by decide +kernel
theorem dJ6_bitCount_0f7a4_26 : decode cJ6_bitCount_0f7a4 26 = .ok (.iconst 4, 1) := by decide +kernel
theorem dJ6_bitCount_0f7a4_27 : decode cJ6_bitCount_0f7a4 27 = .ok (.iushr, 1) := by decide +kernel
theorem dJ6_bitCount_0f7a4_28 : decode cJ6_bitCount_0f7a4 28 = .ok (.iadd, 1) := by decide +kernel
theorem dJ6_bitCount_0f7a4_29 : decode cJ6_bitCount_0f7a4 29 = .ok (.ldc_w 267, 3) := by decide +kernel
theorem dJ6_bitCount_0f7a4_32 : decode cJ6_bitCount_0f7a4 32 = .ok (.iand, 1) := by decide +kernel
theorem dJ6_bitCount_0f7a4_33 : decode cJ6_bitCount_0f7a4 33 = .ok (.istore_n 0, 1) := by decide +kernel
theorem dJ6_bitCount_0f7a4_34 : decode cJ6_bitCount_0f7a4 34 = .ok (.iload_n 0, 1) := by decide +kernel
theorem dJ6_bitCount_0f7a4_35 : decode cJ6_bitCount_0f7a4 35 = .ok (.iload_n 0, 1) := by decide +kernel
theorem dJ6_bitCount_0f7a4_36 : decode cJ6_bitCount_0f7a4 36 = .ok (.bipush 8, 2) := by decide +kernel
theorem dJ6_bitCount_0f7a4_38 : decode cJ6_bitCount_0f7a4 38 = .ok (.iushr, 1) := by decide +kernel
theorem dJ6_bitCount_0f7a4_39 : decode cJ6_bitCount_0f7a4 39 = .ok (.iadd, 1) := by decide +kernel
theorem dJ6_bitCount_0f7a4_40 : decode cJ6_bitCount_0f7a4 40 = .ok (.istore_n 0, 1) := by decide +kernel
theorem dJ6_bitCount_0f7a4_41 : decode cJ6_bitCount_0f7a4 41 = .ok (.iload_n 0, 1) := by decide +kernel
theorem dJ6_bitCount_0f7a4_42 : decode cJ6_bitCount_0f7a4 42 = .ok (.iload_n 0, 1) := by decide +kernel
theorem dJ6_bitCount_0f7a4_43 : decode cJ6_bitCount_0f7a4 43 = .ok (.bipush 16, 2) := by decide +kernel
theorem dJ6_bitCount_0f7a4_45 : decode cJ6_bitCount_0f7a4 45 = .ok (.iushr, 1) := by decide +kernel
theorem dJ6_bitCount_0f7a4_46 : decode cJ6_bitCount_0f7a4 46 = .ok (.iadd, 1) := by decide +kernel
theorem dJ6_bitCount_0f7a4_47 : decode cJ6_bitCount_0f7a4 47 = .ok (.istore_n 0, 1) := by decide +kernel
theorem dJ6_bitCount_0f7a4_48 : decode cJ6_bitCount_0f7a4 48 = .ok (.iload_n 0, 1) := by decide +kernel
theorem dJ6_bitCount_0f7a4_49 : decode cJ6_bitCount_0f7a4 49 = .ok (.bipush 63, 2) := by decide +kernel
theorem dJ6_bitCount_0f7a4_51 : decode cJ6_bitCount_0f7a4 51 = .ok (.iand, 1) := by decide +kernel
theorem dJ6_bitCount_0f7a4_52 : decode cJ6_bitCount_0f7a4 52 = .ok (.ireturn, 1) := by decide +kernel
theorem dJ9_abs_0f7a4_0 : decode cJ9_abs_0f7a4 0 = .ok (.iload_n 0, 1) := by decide +kernel
theorem dJ9_abs_0f7a4_1 : decode cJ9_abs_0f7a4 1 = .ok (.ifCond .ge 8, 3) := by decide +kernel
theorem dJ9_abs_0f7a4_4 : decode cJ9_abs_0f7a4 4 = .ok (.iload_n 0, 1) := by decide +kernel
theorem dJ9_abs_0f7a4_5 : decode cJ9_abs_0f7a4 5 = .ok (.ineg, 1) := by decide +kernel
theorem dJ9_abs_0f7a4_6 : decode cJ9_abs_0f7a4 6 = .ok (.goto 4, 3) := by decide +kernel
theorem dJ9_abs_0f7a4_9 : decode cJ9_abs_0f7a4 9 = .ok (.iload_n 0, 1) := by decide +kernel
theorem dJ9_abs_0f7a4_10 : decode cJ9_abs_0f7a4 10 = .ok (.ireturn, 1) := by decide +kernel
theorem dJ9_max_7cf53_0 : decode cJ9_max_7cf53 0 = .ok (.iload_n 0, 1) := by decide +kernel
theorem dJ9_max_7cf53_1 : decode cJ9_max_7cf53 1 = .ok (.iload_n 1, 1) := by decide +kernel
theorem dJ9_max_7cf53_2 : decode cJ9_max_7cf53 2 = .ok (.if_icmp .lt 7, 3) := by decide +kernel
theorem dJ9_max_7cf53_5 : decode cJ9_max_7cf53 5 = .ok (.iload_n 0, 1) := by decide +kernel
theorem dJ9_max_7cf53_6 : decode cJ9_max_7cf53 6 = .ok (.goto 4, 3) := by decide +kernel
theorem dJ9_max_7cf53_9 : decode cJ9_max_7cf53 9 = .ok (.iload_n 1, 1) := by decide +kernel
theorem dJ9_max_7cf53_10 : decode cJ9_max_7cf53 10 = .ok (.ireturn, 1) := by decide +kernel
theorem dJ9_min_7cf53_0 : decode cJ9_min_7cf53 0 = .ok (.iload_n 0, 1) := by decide +kernel
theorem dJ9_min_7cf53_1 : decode cJ9_min_7cf53 1 = .ok (.iload_n 1, 1) := by decide +kernel
theorem dJ9_min_7cf53_2 : decode cJ9_min_7cf53 2 = .ok (.if_icmp .gt 7, 3) := by decide +kernel
theorem dJ9_min_7cf53_5 : decode cJ9_min_7cf53 5 = .ok (.iload_n 0, 1) := by decide +kernel
theorem dJ9_min_7cf53_6 : decode cJ9_min_7cf53 6 = .ok (.goto 4, 3) := by decide +kernel
theorem dJ9_min_7cf53_9 : decode cJ9_min_7cf53 9 = .ok (.iload_n 1, 1) := by decide +kernel
theorem dJ9_min_7cf53_10 : decode cJ9_min_7cf53 10 = .ok (.ireturn, 1) := by decide +kernel
