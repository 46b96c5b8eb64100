theorem dX0_init_0 : decode cX0_init 0 = .ok (.aload_n 0, 1) := by decide +kernel
theorem dX0_init_1 : decode cX0_init 1 = .ok (.invokespecial 3, 3) := by decide +kernel
theorem dX0_init_4 : decode cX0_init 4 = .ok (.aload_n 0, 1) := by decide +kernel
theorem dX0_init_5 : decode cX0_init 5 = .ok (.bipush 10, 2) := by decide +kernel
theorem dX0_init_7 : decode cX0_init 7 = .ok (.newarray .int, 2) := by decide +kernel
theorem dX0_init_9 : decode cX0_init 9 = .ok (.putfield 9, 3) := by decide +kernel
theorem dX0_init_12 : decode cX0_init 12 = .ok (.return_, 1) := by decide +kernel
theorem dX0_clear_0 : decode cX0_clear 0 = .ok (.aload_n 0, 1) := by decide +kernel
theorem dX0_clear_1 : decode cX0_clear 1 = .ok (.iconst 0, 1) := by decide +kernel
theorem dX0_clear_2 : decode cX0_clear 2 = .ok (.putfield 15, 3) := by decide +kernel
theorem dX0_clear_5 : decode cX0_clear 5 = .ok (.return_, 1) := by decide +kernel
theorem dX0_insert_0 : decode cX0_insert 0 = .ok (.aload_n 0, 1) := by decide +kernel
theorem dX0_insert_1 : decode cX0_insert 1 = .ok (.getfield 15, 3) := by decide +kernel
theorem dX0_insert_4 : decode cX0_insert 4 = .ok (.aload_n 0, 1) := by decide +kernel
theorem dX0_insert_5 : decode cX0_insert 5 = .ok (.getfield 9, 3) := by decide +kernel
theorem dX0_insert_8 : decode cX0_insert 8 = .ok (.arraylength, 1) := by decide +kernel
theorem dX0_insert_9 : decode cX0_insert 9 = .ok (.if_icmp .lt 4, 3) := by decide +kernel
theorem dX0_insert_12 : decode cX0_insert 12 = .ok (.return_, 1) := by decide +kernel
theorem dX0_insert_13 : decode cX0_insert 13 = .ok (.aload_n 0, 1) := by decide +kernel
theorem dX0_insert_14 : decode cX0_insert 14 = .ok (.getfield 15, 3) := by decide +kernel
theorem dX0_insert_17 : decode cX0_insert 17 = .ok (.istore_n 2, 1) := by decide +kernel
theorem dX0_insert_18 : decode cX0_insert 18 = .ok (.iload_n 2, 1) := by decide +kernel
theorem dX0_insert_19 : decode cX0_insert 19 = .ok (.ifCond .le 35, 3) := by decide +kernel
theorem dX0_insert_22 : decode cX0_insert 22 = .ok (.aload_n 0, 1) := by decide +kernel
theorem dX0_insert_23 : decode cX0_insert 23 = .ok (.getfield 9, 3) := by decide +kernel
theorem dX0_insert_26 : decode cX0_insert 26 = .ok (.iload_n 2, 1) := by decide +kernel
theorem dX0_insert_27 : decode cX0_insert 27 = .ok (.iconst 1, 1) := by decide +kernel
theorem dX0_insert_28 : decode cX0_insert 28 = .ok (.isub, 1) := by decide +kernel
theorem dX0_insert_29 : decode cX0_insert 29 = .ok (.iaload, 1) := by decide +kernel
theorem dX0_insert_30 : decode cX0_insert 30 = .ok (.iload_n 1, 1) := by decide +kernel
theorem dX0_insert_31 : decode cX0_insert 31 = .ok (.if_icmp .le 23, 3) := by decide +kernel
theorem dX0_insert_34 : decode cX0_insert 34 = .ok (.aload_n 0, 1) := by decide +kernel
theorem dX0_insert_35 : decode cX0_insert 35 = .ok (.getfield 9, 3) := by decide +kernel
theorem dX0_insert_38 : decode cX0_insert 38 = .ok (.iload_n 2, 1) := by decide +kernel
theorem dX0_insert_39 : decode cX0_insert 39 = .ok (.aload_n 0, 1) := by decide +kernel
theorem dX0_insert_40 : decode cX0_insert 40 = .ok (.getfield 9, 3) := by decide +kernel
theorem dX0_insert_43 : decode cX0_insert 43 = .ok (.iload_n 2, 1) := by decide +kernel
theorem dX0_insert_44 : decode cX0_insert 44 = .ok (.iconst 1, 1) := by decide +kernel
theorem dX0_insert_45 : decode cX0_insert 45 = .ok (.isub, 1) := by decide +kernel
theorem dX0_insert_46 : decode cX0_insert 46 = .ok (.iaload, 1) := by decide +kernel
theorem dX0_insert_47 : decode cX0_insert 47 = .ok (.iastore, 1) := by decide +kernel
theorem dX0_insert_48 : decode cX0_insert 48 = .ok (.iinc 2 (-1), 3) := by decide +kernel
theorem dX0_insert_51 : decode cX0_insert 51 = .ok (.goto (-33), 3) := by decide +kernel
theorem dX0_insert_54 : decode cX0_insert 54 = .ok (.aload_n 0, 1) := by decide +kernel
theorem dX0_insert_55 : decode cX0_insert 55 = .ok (.getfield 9, 3) := by decide +kernel
theorem dX0_insert_58 : decode cX0_insert 58 = .ok (.iload_n 2, 1) := by decide +kernel
theorem dX0_insert_59 : decode cX0_insert 59 = .ok (.iload_n 1, 1) := by decide +kernel
theorem dX0_insert_60 : decode cX0_insert 60 = .ok (.iastore, 1) := by decide +kernel
theorem dX0_insert_61 : decode cX0_insert 61 = .ok (.aload_n 0, 1) := by decide +kernel
theorem dX0_insert_62 : decode cX0_insert 62 = .ok (.dup, 1) := by decide +kernel
theorem dX0_insert_63 : decode cX0_insert 63 = .ok (.getfield 15, 3) := by decide +kernel
theorem dX0_insert_66 : decode cX0_insert 66 = .ok (.iconst 1, 1) := by decide +kernel
theorem dX0_insert_67 : decode cX0_insert 67 = .ok (.iadd, 1) := by decide +kernel
theorem dX0_insert_68 : decode cX0_insert 68 = .ok (.putfield 15, 3) := by decide +kernel
theorem dX0_insert_71 : decode cX0_insert 71 = .ok (.return_, 1) := by decide +kernel
theorem dX0_middle_0 : decode cX0_middle 0 = .ok (.aload_n 0, 1) := by decide +kernel
theorem dX0_middle_1 : decode cX0_middle 1 = .ok (.getfield 15, 3) := by decide +kernel
theorem dX0_middle_4 : decode cX0_middle 4 = .ok (.iconst 1, 1) := by decide +kernel
theorem dX0_middle_5 : decode cX0_middle 5 = .ok (.isub, 1) := by decide +kernel
theorem dX0_middle_6 : decode cX0_middle 6 = .ok (.iconst 2, 1) := by decide +kernel
theorem dX0_middle_7 : decode cX0_middle 7 = .ok (.idiv, 1) := by decide +kernel
theorem dX0_middle_8 : decode cX0_middle 8 = .ok (.istore_n 1, 1) := by decide +kernel
theorem dX0_middle_9 : decode cX0_middle 9 = .ok (.aload_n 0, 1) := by decide +kernel
theorem dX0_middle_10 : decode cX0_middle 10 = .ok (.getfield 15, 3) := by decide +kernel
theorem dX0_middle_13 : decode cX0_middle 13 = .ok (.ifCond .le 21, 3) := by decide +kernel
theorem dX0_middle_16 : decode cX0_middle 16 = .ok (.iload_n 1, 1) := by decide +kernel
theorem dX0_middle_17 : decode cX0_middle 17 = .ok (.aload_n 0, 1) := by decide +kernel
theorem dX0_middle_18 : decode cX0_middle 18 = .ok (.getfield 9, 3) := by decide +kernel
theorem dX0_middle_21 : decode cX0_middle 21 = .ok (.arraylength, 1) := by decide +kernel
theorem dX0_middle_22 : decode cX0_middle 22 = .ok (.if_icmp .ge 12, 3) := by decide +kernel
theorem dX0_middle_25 : decode cX0_middle 25 = .ok (.aload_n 0, 1) := by decide +kernel
theorem dX0_middle_26 : decode cX0_middle 26 = .ok (.getfield 9, 3) := by decide +kernel
theorem dX0_middle_29 : decode cX0_middle 29 = .ok (.iload_n 1, 1) := by decide +kernel
theorem dX0_middle_30 : decode cX0_middle 30 = .ok (.iaload, 1) := by decide +kernel
theorem dX0_middle_31 : decode cX0_middle 31 = .ok (.goto 5, 3) := by decide +kernel
theorem dX0_middle_34 : decode cX0_middle 34 = .ok (.ldc 19, 2) := by decide +kernel
theorem dX0_middle_36 : decode cX0_middle 36 = .ok (.ireturn, 1) := by decide +kernel
theorem dX1_init_0 : decode cX1_init 0 = .ok (.aload_n 0, 1) := by decide +kernel
theorem dX1_init_1 : decode cX1_init 1 = .ok (.invokespecial 3, 3) := by decide +kernel
theorem dX1_init_4 : decode cX1_init 4 = .ok (.aload_n 0, 1) := by decide +kernel
theorem dX1_init_5 : decode cX1_init 5 = .ok (.bipush 6, 2) := by decide +kernel
theorem dX1_init_7 : decode cX1_init 7 = .ok (.anewarray 9, 3) := by decide +kernel
theorem dX1_init_10 : decode cX1_init 10 = .ok (.putfield 11, 3) := by decide +kernel
theorem dX1_init_13 : decode cX1_init 13 = .ok (.aload_n 0, 1) := by decide +kernel
theorem dX1_init_14 : decode cX1_init 14 = .ok (.new 9, 3) := by decide +kernel
theorem dX1_init_17 : decode cX1_init 17 = .ok (.dup, 1) := by decide +kernel
theorem dX1_init_18 : decode cX1_init 18 = .ok (.invokespecial 17, 3) := by decide +kernel
theorem dX1_init_21 : decode cX1_init 21 = .ok (.putfield 18, 3) := by decide +kernel
theorem dX1_init_24 : decode cX1_init 24 = .ok (.iconst 0, 1) := by decide +kernel
theorem dX1_init_25 : decode cX1_init 25 = .ok (.istore_n 1, 1) := by decide +kernel
theorem dX1_init_26 : decode cX1_init 26 = .ok (.iload_n 1, 1) := by decide +kernel
theorem dX1_init_27 : decode cX1_init 27 = .ok (.aload_n 0, 1) := by decide +kernel
theorem dX1_init_28 : decode cX1_init 28 = .ok (.getfield 11, 3) := by decide +kernel
theorem dX1_init_31 : decode cX1_init 31 = .ok (.arraylength, 1) := by decide +kernel
theorem dX1_init_32 : decode cX1_init 32 = .ok (.if_icmp .ge 22, 3) := by decide +kernel
theorem dX1_init_35 : decode cX1_init 35 = .ok (.aload_n 0, 1) := by decide +kernel
theorem dX1_init_36 : decode cX1_init 36 = .ok (.getfield 11, 3) := by decide +kernel
theorem dX1_init_39 : decode cX1_init 39 = .ok (.iload_n 1, 1) := by decide +kernel
theorem dX1_init_40 : decode cX1_init 40 = .ok (.new 9, 3) := by decide +kernel
theorem dX1_init_43 : decode cX1_init 43 = .ok (.dup, 1) := by decide +kernel
theorem dX1_init_44 : decode cX1_init 44 = .ok (.invokespecial 17, 3) := by decide +kernel
theorem dX1_init_47 : decode cX1_init 47 = .ok (.aastore, 1) := by decide +kernel
theorem dX1_init_48 : decode cX1_init 48 = .ok (.iinc 1 1, 3) := by decide +kernel
theorem dX1_init_51 : decode cX1_init 51 = .ok (.goto (-25), 3) := by decide +kernel
theorem dX1_init_54 : decode cX1_init 54 = .ok (.return_, 1) := by decide +kernel
theorem dX1_save_0 : decode cX1_save 0 = .ok (.aload_n 0, 1) := by decide +kernel
theorem dX1_save_1 : decode cX1_save 1 = .ok (.aload_n 0, 1) := by decide +kernel
theorem dX1_save_2 : decode cX1_save 2 = .ok (.getfield 22, 3) := by decide +kernel
theorem dX1_save_5 : decode cX1_save 5 = .ok (.invokevirtual 26, 3) := by decide +kernel
theorem dX1_save_8 : decode cX1_save 8 = .ok (.aload_n 1, 1) := by decide +kernel
theorem dX1_save_9 : decode cX1_save 9 = .ok (.invokevirtual 30, 3) := by decide +kernel
theorem dX1_save_12 : decode cX1_save 12 = .ok (.aload_n 0, 1) := by decide +kernel
theorem dX1_save_13 : decode cX1_save 13 = .ok (.aload_n 0, 1) := by decide +kernel
theorem dX1_save_14 : decode cX1_save 14 = .ok (.getfield 22, 3) := by decide +kernel
theorem dX1_save_17 : decode cX1_save 17 = .ok (.iconst 1, 1) := by decide +kernel
theorem dX1_save_18 : decode cX1_save 18 = .ok (.iadd, 1) := by decide +kernel
theorem dX1_save_19 : decode cX1_save 19 = .ok (.bipush 6, 2) := by decide +kernel
theorem dX1_save_21 : decode cX1_save 21 = .ok (.irem, 1) := by decide +kernel
theorem dX1_save_22 : decode cX1_save 22 = .ok (.putfield 22, 3) := by decide +kernel
theorem dX1_save_25 : decode cX1_save 25 = .ok (.aload_n 0, 1) := by decide +kernel
theorem dX1_save_26 : decode cX1_save 26 = .ok (.aload_n 0, 1) := by decide +kernel
theorem dX1_save_27 : decode cX1_save 27 = .ok (.getfield 34, 3) := by decide +kernel
theorem dX1_save_30 : decode cX1_save 30 = .ok (.iconst 1, 1) := by decide +kernel
theorem dX1_save_31 : decode cX1_save 31 = .ok (.iadd, 1) := by decide +kernel
theorem dX1_save_32 : decode cX1_save 32 = .ok (.bipush 6, 2) := by decide +kernel
theorem dX1_save_34 : decode cX1_save 34 = .ok (.invokestatic 37, 3) := by decide +kernel
theorem dX1_save_37 : decode cX1_save 37 = .ok (.putfield 34, 3) := by decide +kernel
theorem dX1_save_40 : decode cX1_save 40 = .ok (.return_, 1) := by decide +kernel
theorem dX1_restoreLatest_0 : decode cX1_restoreLatest 0 = .ok (.aload_n 0, 1) := by decide +kernel
theorem dX1_restoreLatest_1 : decode cX1_restoreLatest 1 = .ok (.aload_n 0, 1) := by decide +kernel
theorem dX1_restoreLatest_2 : decode cX1_restoreLatest 2 = .ok (.getfield 22, 3) := by decide +kernel
theorem dX1_restoreLatest_5 : decode cX1_restoreLatest 5 = .ok (.bipush 6, 2) := by decide +kernel
theorem dX1_restoreLatest_7 : decode cX1_restoreLatest 7 = .ok (.iadd, 1) := by decide +kernel
theorem dX1_restoreLatest_8 : decode cX1_restoreLatest 8 = .ok (.iconst 1, 1) := by decide +kernel
theorem dX1_restoreLatest_9 : decode cX1_restoreLatest 9 = .ok (.isub, 1) := by decide +kernel
theorem dX1_restoreLatest_10 : decode cX1_restoreLatest 10 = .ok (.bipush 6, 2) := by decide +kernel
theorem dX1_restoreLatest_12 : decode cX1_restoreLatest 12 = .ok (.irem, 1) := by decide +kernel
theorem dX1_restoreLatest_13 : decode cX1_restoreLatest 13 = .ok (.putfield 22, 3) := by decide +kernel
theorem dX1_restoreLatest_16 : decode cX1_restoreLatest 16 = .ok (.aload_n 1, 1) := by decide +kernel
theorem dX1_restoreLatest_17 : decode cX1_restoreLatest 17 = .ok (.aload_n 0, 1) := by decide +kernel
theorem dX1_restoreLatest_18 : decode cX1_restoreLatest 18 = .ok (.aload_n 0, 1) := by decide +kernel
theorem dX1_restoreLatest_19 : decode cX1_restoreLatest 19 = .ok (.getfield 22, 3) := by decide +kernel
theorem dX1_restoreLatest_22 : decode cX1_restoreLatest 22 = .ok (.invokevirtual 26, 3) := by decide +kernel
theorem dX1_restoreLatest_25 : decode cX1_restoreLatest 25 = .ok (.invokevirtual 30, 3) := by decide +kernel
theorem dX1_restoreLatest_28 : decode cX1_restoreLatest 28 = .ok (.aload_n 0, 1) := by decide +kernel
theorem dX1_restoreLatest_29 : decode cX1_restoreLatest 29 = .ok (.dup, 1) := by decide +kernel
theorem dX1_restoreLatest_30 : decode cX1_restoreLatest 30 = .ok (.getfield 34, 3) := by decide +kernel
theorem dX1_restoreLatest_33 : decode cX1_restoreLatest 33 = .ok (.iconst 1, 1) := by decide +kernel
theorem dX1_restoreLatest_34 : decode cX1_restoreLatest 34 = .ok (.isub, 1) := by decide +kernel
theorem dX1_restoreLatest_35 : decode cX1_restoreLatest 35 = .ok (.putfield 34, 3) := by decide +kernel
theorem dX1_restoreLatest_38 : decode cX1_restoreLatest 38 = .ok (.return_, 1) := by decide +kernel
theorem dX1_stateAt_0 : decode cX1_stateAt 0 = .ok (.iload_n 1, 1) := by decide +kernel
theorem dX1_stateAt_1 : decode cX1_stateAt 1 = .ok (.ifCond .lt 12, 3) := by decide +kernel
theorem dX1_stateAt_4 : decode cX1_stateAt 4 = .ok (.iload_n 1, 1) := by decide +kernel
theorem dX1_stateAt_5 : decode cX1_stateAt 5 = .ok (.aload_n 0, 1) := by decide +kernel
theorem dX1_stateAt_6 : decode cX1_stateAt 6 = .ok (.getfield 11, 3) := by decide +kernel
theorem dX1_stateAt_9 : decode cX1_stateAt 9 = .ok (.arraylength, 1) := by decide +kernel
theorem dX1_stateAt_10 : decode cX1_stateAt 10 = .ok (.if_icmp .lt 8, 3) := by decide +kernel
theorem dX1_stateAt_13 : decode cX1_stateAt 13 = .ok (.aload_n 0, 1) := by decide +kernel
theorem dX1_stateAt_14 : decode cX1_stateAt 14 = .ok (.getfield 18, 3) := by decide +kernel
theorem dX1_stateAt_17 : decode cX1_stateAt 17 = .ok (.areturn, 1) := by decide +kernel
theorem dX1_stateAt_18 : decode cX1_stateAt 18 = .ok (.aload_n 0, 1) := by decide +kernel
theorem dX1_stateAt_19 : decode cX1_stateAt 19 = .ok (.getfield 11, 3) := by decide +kernel
theorem dX1_stateAt_22 : decode cX1_stateAt 22 = .ok (.iload_n 1, 1) := by decide +kernel
theorem dX1_stateAt_23 : decode cX1_stateAt 23 = .ok (.aaload, 1) := by decide +kernel
theorem dX1_stateAt_24 : decode cX1_stateAt 24 = .ok (.astore_n 2, 1) := by decide +kernel
theorem dX1_stateAt_25 : decode cX1_stateAt 25 = .ok (.aload_n 2, 1) := by decide +kernel
theorem dX1_stateAt_26 : decode cX1_stateAt 26 = .ok (.ifnonnull 10, 3) := by decide +kernel
theorem dX1_stateAt_29 : decode cX1_stateAt 29 = .ok (.aload_n 0, 1) := by decide +kernel
theorem dX1_stateAt_30 : decode cX1_stateAt 30 = .ok (.getfield 18, 3) := by decide +kernel
theorem dX1_stateAt_33 : decode cX1_stateAt 33 = .ok (.goto 4, 3) := by decide +kernel
theorem dX1_stateAt_36 : decode cX1_stateAt 36 = .ok (.aload_n 2, 1) := by decide +kernel
theorem dX1_stateAt_37 : decode cX1_stateAt 37 = .ok (.areturn, 1) := by decide +kernel
theorem dX2_init_0 : decode cX2_init 0 = .ok (.aload_n 0, 1) := by decide +kernel
theorem dX2_init_1 : decode cX2_init 1 = .ok (.invokespecial 3, 3) := by decide +kernel
theorem dX2_init_4 : decode cX2_init 4 = .ok (.aload_n 0, 1) := by decide +kernel
theorem dX2_init_5 : decode cX2_init 5 = .ok (.bipush 60, 2) := by decide +kernel
theorem dX2_init_7 : decode cX2_init 7 = .ok (.newarray .char, 2) := by decide +kernel
theorem dX2_init_9 : decode cX2_init 9 = .ok (.putfield 9, 3) := by decide +kernel
theorem dX2_init_12 : decode cX2_init 12 = .ok (.return_, 1) := by decide +kernel
theorem dX2_isFull_0 : decode cX2_isFull 0 = .ok (.aload_n 0, 1) := by decide +kernel
theorem dX2_isFull_1 : decode cX2_isFull 1 = .ok (.getfield 15, 3) := by decide +kernel
theorem dX2_isFull_4 : decode cX2_isFull 4 = .ok (.aload_n 0, 1) := by decide +kernel
theorem dX2_isFull_5 : decode cX2_isFull 5 = .ok (.getfield 9, 3) := by decide +kernel
theorem dX2_isFull_8 : decode cX2_isFull 8 = .ok (.arraylength, 1) := by decide +kernel
theorem dX2_isFull_9 : decode cX2_isFull 9 = .ok (.if_icmp .lt 7, 3) := by decide +kernel
theorem dX2_isFull_12 : decode cX2_isFull 12 = .ok (.iconst 1, 1) := by decide +kernel
theorem dX2_isFull_13 : decode cX2_isFull 13 = .ok (.goto 4, 3) := by decide +kernel
theorem dX2_isFull_16 : decode cX2_isFull 16 = .ok (.iconst 0, 1) := by decide +kernel
theorem dX2_isFull_17 : decode cX2_isFull 17 = .ok (.ireturn, 1) := by decide +kernel
theorem dX2_addCharacter_0 : decode cX2_addCharacter 0 = .ok (.aload_n 0, 1) := by decide +kernel
theorem dX2_addCharacter_1 : decode cX2_addCharacter 1 = .ok (.getfield 15, 3) := by decide +kernel
theorem dX2_addCharacter_4 : decode cX2_addCharacter 4 = .ok (.ifCond .lt 35, 3) := by decide +kernel
theorem dX2_addCharacter_7 : decode cX2_addCharacter 7 = .ok (.aload_n 0, 1) := by decide +kernel
theorem dX2_addCharacter_8 : decode cX2_addCharacter 8 = .ok (.getfield 15, 3) := by decide +kernel
theorem dX2_addCharacter_11 : decode cX2_addCharacter 11 = .ok (.aload_n 0, 1) := by decide +kernel
theorem dX2_addCharacter_12 : decode cX2_addCharacter 12 = .ok (.getfield 9, 3) := by decide +kernel
theorem dX2_addCharacter_15 : decode cX2_addCharacter 15 = .ok (.arraylength, 1) := by decide +kernel
theorem dX2_addCharacter_16 : decode cX2_addCharacter 16 = .ok (.if_icmp .ge 23, 3) := by decide +kernel
theorem dX2_addCharacter_19 : decode cX2_addCharacter 19 = .ok (.aload_n 0, 1) := by decide +kernel
theorem dX2_addCharacter_20 : decode cX2_addCharacter 20 = .ok (.getfield 9, 3) := by decide +kernel
theorem dX2_addCharacter_23 : decode cX2_addCharacter 23 = .ok (.aload_n 0, 1) := by decide +kernel
theorem dX2_addCharacter_24 : decode cX2_addCharacter 24 = .ok (.getfield 15, 3) := by decide +kernel
theorem dX2_addCharacter_27 : decode cX2_addCharacter 27 = .ok (.iload_n 1, 1) := by decide +kernel
theorem dX2_addCharacter_28 : decode cX2_addCharacter 28 = .ok (.castore, 1) := by decide +kernel
theorem dX2_addCharacter_29 : decode cX2_addCharacter 29 = .ok (.aload_n 0, 1) := by decide +kernel
theorem dX2_addCharacter_30 : decode cX2_addCharacter 30 = .ok (.dup, 1) := by decide +kernel
theorem dX2_addCharacter_31 : decode cX2_addCharacter 31 = .ok (.getfield 15, 3) := by decide +kernel
theorem dX2_addCharacter_34 : decode cX2_addCharacter 34 = .ok (.iconst 1, 1) := by decide +kernel
theorem dX2_addCharacter_35 : decode cX2_addCharacter 35 = .ok (.iadd, 1) := by decide +kernel
theorem dX2_addCharacter_36 : decode cX2_addCharacter 36 = .ok (.putfield 15, 3) := by decide +kernel
theorem dX2_addCharacter_39 : decode cX2_addCharacter 39 = .ok (.return_, 1) := by decide +kernel
theorem dX2_goToStart_0 : decode cX2_goToStart 0 = .ok (.aload_n 0, 1) := by decide +kernel
theorem dX2_goToStart_1 : decode cX2_goToStart 1 = .ok (.iconst 0, 1) := by decide +kernel
theorem dX2_goToStart_2 : decode cX2_goToStart 2 = .ok (.putfield 19, 3) := by decide +kernel
theorem dX2_goToStart_5 : decode cX2_goToStart 5 = .ok (.return_, 1) := by decide +kernel
theorem dX2_isComplete_0 : decode cX2_isComplete 0 = .ok (.aload_n 0, 1) := by decide +kernel
theorem dX2_isComplete_1 : decode cX2_isComplete 1 = .ok (.invokevirtual 22, 3) := by decide +kernel
theorem dX2_isComplete_4 : decode cX2_isComplete 4 = .ok (.ireturn, 1) := by decide +kernel
theorem dX2_indexOfError_0 : decode cX2_indexOfError 0 = .ok (.aload_n 0, 1) := by decide +kernel
theorem dX2_indexOfError_1 : decode cX2_indexOfError 1 = .ok (.invokevirtual 22, 3) := by decide +kernel
theorem dX2_indexOfError_4 : decode cX2_indexOfError 4 = .ok (.pop, 1) := by decide +kernel
theorem dX2_indexOfError_5 : decode cX2_indexOfError 5 = .ok (.aload_n 0, 1) := by decide +kernel
theorem dX2_indexOfError_6 : decode cX2_indexOfError 6 = .ok (.getfield 19, 3) := by decide +kernel
theorem dX2_indexOfError_9 : decode cX2_indexOfError 9 = .ok (.ireturn, 1) := by decide +kernel
theorem dX2_readsAll_0 : decode cX2_readsAll 0 = .ok (.aload_n 0, 1) := by decide +kernel
theorem dX2_readsAll_1 : decode cX2_readsAll 1 = .ok (.invokevirtual 26, 3) := by decide +kernel
theorem dX2_readsAll_4 : decode cX2_readsAll 4 = .ok (.iconst 0, 1) := by decide +kernel
theorem dX2_readsAll_5 : decode cX2_readsAll 5 = .ok (.istore_n 1, 1) := by decide +kernel
theorem dX2_readsAll_6 : decode cX2_readsAll 6 = .ok (.iload_n 1, 1) := by decide +kernel
theorem dX2_readsAll_7 : decode cX2_readsAll 7 = .ok (.bipush 60, 2) := by decide +kernel
theorem dX2_readsAll_9 : decode cX2_readsAll 9 = .ok (.if_icmp .ge 42, 3) := by decide +kernel
theorem dX2_readsAll_12 : decode cX2_readsAll 12 = .ok (.aload_n 0, 1) := by decide +kernel
theorem dX2_readsAll_13 : decode cX2_readsAll 13 = .ok (.invokevirtual 29, 3) := by decide +kernel
theorem dX2_readsAll_16 : decode cX2_readsAll 16 = .ok (.ifCond .ne 5, 3) := by decide +kernel
theorem dX2_readsAll_19 : decode cX2_readsAll 19 = .ok (.iconst 0, 1) := by decide +kernel
theorem dX2_readsAll_20 : decode cX2_readsAll 20 = .ok (.ireturn, 1) := by decide +kernel
theorem dX2_readsAll_21 : decode cX2_readsAll 21 = .ok (.aload_n 0, 1) := by decide +kernel
theorem dX2_readsAll_22 : decode cX2_readsAll 22 = .ok (.getfield 19, 3) := by decide +kernel
theorem dX2_readsAll_25 : decode cX2_readsAll 25 = .ok (.aload_n 0, 1) := by decide +kernel
theorem dX2_readsAll_26 : decode cX2_readsAll 26 = .ok (.getfield 15, 3) := by decide +kernel
theorem dX2_readsAll_29 : decode cX2_readsAll 29 = .ok (.if_icmp .ne 5, 3) := by decide +kernel
theorem dX2_readsAll_32 : decode cX2_readsAll 32 = .ok (.iconst 1, 1) := by decide +kernel
theorem dX2_readsAll_33 : decode cX2_readsAll 33 = .ok (.ireturn, 1) := by decide +kernel
theorem dX2_readsAll_34 : decode cX2_readsAll 34 = .ok (.aload_n 0, 1) := by decide +kernel
theorem dX2_readsAll_35 : decode cX2_readsAll 35 = .ok (.bipush 59, 2) := by decide +kernel
theorem dX2_readsAll_37 : decode cX2_readsAll 37 = .ok (.invokevirtual 32, 3) := by decide +kernel
theorem dX2_readsAll_40 : decode cX2_readsAll 40 = .ok (.ifCond .ne 5, 3) := by decide +kernel
theorem dX2_readsAll_43 : decode cX2_readsAll 43 = .ok (.iconst 0, 1) := by decide +kernel
theorem dX2_readsAll_44 : decode cX2_readsAll 44 = .ok (.ireturn, 1) := by decide +kernel
theorem dX2_readsAll_45 : decode cX2_readsAll 45 = .ok (.iinc 1 1, 3) := by decide +kernel
theorem dX2_readsAll_48 : decode cX2_readsAll 48 = .ok (.goto (-42), 3) := by decide +kernel
theorem dX2_readsAll_51 : decode cX2_readsAll 51 = .ok (.iconst 0, 1) := by decide +kernel
theorem dX2_readsAll_52 : decode cX2_readsAll 52 = .ok (.ireturn, 1) := by decide +kernel
theorem dX2_readNextOrder_0 : decode cX2_readNextOrder 0 = .ok (.aload_n 0, 1) := by decide +kernel
theorem dX2_readNextOrder_1 : decode cX2_readNextOrder 1 = .ok (.invokevirtual 29, 3) := by decide +kernel
theorem dX2_readNextOrder_4 : decode cX2_readNextOrder 4 = .ok (.istore_n 1, 1) := by decide +kernel
theorem dX2_readNextOrder_5 : decode cX2_readNextOrder 5 = .ok (.aload_n 0, 1) := by decide +kernel
theorem dX2_readNextOrder_6 : decode cX2_readNextOrder 6 = .ok (.bipush 59, 2) := by decide +kernel
theorem dX2_readNextOrder_8 : decode cX2_readNextOrder 8 = .ok (.invokevirtual 32, 3) := by decide +kernel
theorem dX2_readNextOrder_11 : decode cX2_readNextOrder 11 = .ok (.pop, 1) := by decide +kernel
theorem dX2_readNextOrder_12 : decode cX2_readNextOrder 12 = .ok (.iload_n 1, 1) := by decide +kernel
theorem dX2_readNextOrder_13 : decode cX2_readNextOrder 13 = .ok (.ireturn, 1) := by decide +kernel
theorem dX2_readsOrder_0 : decode cX2_readsOrder 0 = .ok (.aload_n 0, 1) := by decide +kernel
theorem dX2_readsOrder_1 : decode cX2_readsOrder 1 = .ok (.bipush 116, 2) := by decide +kernel
theorem dX2_readsOrder_3 : decode cX2_readsOrder 3 = .ok (.invokevirtual 32, 3) := by decide +kernel
theorem dX2_readsOrder_6 : decode cX2_readsOrder 6 = .ok (.ifCond .eq 48, 3) := by decide +kernel
theorem dX2_readsOrder_9 : decode cX2_readsOrder 9 = .ok (.aload_n 0, 1) := by decide +kernel
theorem dX2_readsOrder_10 : decode cX2_readsOrder 10 = .ok (.iconst 0, 1) := by decide +kernel
theorem dX2_readsOrder_11 : decode cX2_readsOrder 11 = .ok (.putfield 36, 3) := by decide +kernel
theorem dX2_readsOrder_14 : decode cX2_readsOrder 14 = .ok (.aload_n 0, 1) := by decide +kernel
theorem dX2_readsOrder_15 : decode cX2_readsOrder 15 = .ok (.invokevirtual 39, 3) := by decide +kernel
theorem dX2_readsOrder_18 : decode cX2_readsOrder 18 = .ok (.ifCond .eq 34, 3) := by decide +kernel
theorem dX2_readsOrder_21 : decode cX2_readsOrder 21 = .ok (.aload_n 0, 1) := by decide +kernel
theorem dX2_readsOrder_22 : decode cX2_readsOrder 22 = .ok (.bipush 44, 2) := by decide +kernel
theorem dX2_readsOrder_24 : decode cX2_readsOrder 24 = .ok (.invokevirtual 32, 3) := by decide +kernel
theorem dX2_readsOrder_27 : decode cX2_readsOrder 27 = .ok (.ifCond .eq 25, 3) := by decide +kernel
theorem dX2_readsOrder_30 : decode cX2_readsOrder 30 = .ok (.aload_n 0, 1) := by decide +kernel
theorem dX2_readsOrder_31 : decode cX2_readsOrder 31 = .ok (.bipush 49, 2) := by decide +kernel
theorem dX2_readsOrder_33 : decode cX2_readsOrder 33 = .ok (.bipush 57, 2) := by decide +kernel
theorem dX2_readsOrder_35 : decode cX2_readsOrder 35 = .ok (.invokevirtual 42, 3) := by decide +kernel
theorem dX2_readsOrder_38 : decode cX2_readsOrder 38 = .ok (.ifCond .eq 14, 3) := by decide +kernel
theorem dX2_readsOrder_41 : decode cX2_readsOrder 41 = .ok (.aload_n 0, 1) := by decide +kernel
theorem dX2_readsOrder_42 : decode cX2_readsOrder 42 = .ok (.invokevirtual 46, 3) := by decide +kernel
theorem dX2_readsOrder_45 : decode cX2_readsOrder 45 = .ok (.ifCond .eq 7, 3) := by decide +kernel
theorem dX2_readsOrder_48 : decode cX2_readsOrder 48 = .ok (.iconst 1, 1) := by decide +kernel
theorem dX2_readsOrder_49 : decode cX2_readsOrder 49 = .ok (.goto 4, 3) := by decide +kernel
theorem dX2_readsOrder_52 : decode cX2_readsOrder 52 = .ok (.iconst 0, 1) := by decide +kernel
theorem dX2_readsOrder_53 : decode cX2_readsOrder 53 = .ok (.ireturn, 1) := by decide +kernel
theorem dX2_readsOrder_54 : decode cX2_readsOrder 54 = .ok (.aload_n 0, 1) := by decide +kernel
theorem dX2_readsOrder_55 : decode cX2_readsOrder 55 = .ok (.bipush 104, 2) := by decide +kernel
theorem dX2_readsOrder_57 : decode cX2_readsOrder 57 = .ok (.invokevirtual 32, 3) := by decide +kernel
theorem dX2_readsOrder_60 : decode cX2_readsOrder 60 = .ok (.ifCond .eq 13, 3) := by decide +kernel
theorem dX2_readsOrder_63 : decode cX2_readsOrder 63 = .ok (.aload_n 0, 1) := by decide +kernel
theorem dX2_readsOrder_64 : decode cX2_readsOrder 64 = .ok (.iconst 1, 1) := by decide +kernel
theorem dX2_readsOrder_65 : decode cX2_readsOrder 65 = .ok (.putfield 36, 3) := by decide +kernel
theorem dX2_readsOrder_68 : decode cX2_readsOrder 68 = .ok (.aload_n 0, 1) := by decide +kernel
theorem dX2_readsOrder_69 : decode cX2_readsOrder 69 = .ok (.invokevirtual 49, 3) := by decide +kernel
theorem dX2_readsOrder_72 : decode cX2_readsOrder 72 = .ok (.ireturn, 1) := by decide +kernel
theorem dX2_readsOrder_73 : decode cX2_readsOrder 73 = .ok (.aload_n 0, 1) := by decide +kernel
theorem dX2_readsOrder_74 : decode cX2_readsOrder 74 = .ok (.bipush 112, 2) := by decide +kernel
theorem dX2_readsOrder_76 : decode cX2_readsOrder 76 = .ok (.invokevirtual 32, 3) := by decide +kernel
theorem dX2_readsOrder_79 : decode cX2_readsOrder 79 = .ok (.ifCond .eq 41, 3) := by decide +kernel
theorem dX2_readsOrder_82 : decode cX2_readsOrder 82 = .ok (.aload_n 0, 1) := by decide +kernel
theorem dX2_readsOrder_83 : decode cX2_readsOrder 83 = .ok (.iconst 2, 1) := by decide +kernel
theorem dX2_readsOrder_84 : decode cX2_readsOrder 84 = .ok (.putfield 36, 3) := by decide +kernel
theorem dX2_readsOrder_87 : decode cX2_readsOrder 87 = .ok (.aload_n 0, 1) := by decide +kernel
theorem dX2_readsOrder_88 : decode cX2_readsOrder 88 = .ok (.invokevirtual 39, 3) := by decide +kernel
theorem dX2_readsOrder_91 : decode cX2_readsOrder 91 = .ok (.ifCond .eq 27, 3) := by decide +kernel
theorem dX2_readsOrder_94 : decode cX2_readsOrder 94 = .ok (.aload_n 0, 1) := by decide +kernel
theorem dX2_readsOrder_95 : decode cX2_readsOrder 95 = .ok (.bipush 47, 2) := by decide +kernel
theorem dX2_readsOrder_97 : decode cX2_readsOrder 97 = .ok (.invokevirtual 32, 3) := by decide +kernel
theorem dX2_readsOrder_100 : decode cX2_readsOrder 100 = .ok (.ifCond .eq 18, 3) := by decide +kernel
theorem dX2_readsOrder_103 : decode cX2_readsOrder 103 = .ok (.aload_n 0, 1) := by decide +kernel
theorem dX2_readsOrder_104 : decode cX2_readsOrder 104 = .ok (.bipush 49, 2) := by decide +kernel
theorem dX2_readsOrder_106 : decode cX2_readsOrder 106 = .ok (.bipush 54, 2) := by decide +kernel
theorem dX2_readsOrder_108 : decode cX2_readsOrder 108 = .ok (.invokevirtual 42, 3) := by decide +kernel
theorem dX2_readsOrder_111 : decode cX2_readsOrder 111 = .ok (.ifCond .eq 7, 3) := by decide +kernel
theorem dX2_readsOrder_114 : decode cX2_readsOrder 114 = .ok (.iconst 1, 1) := by decide +kernel
theorem dX2_readsOrder_115 : decode cX2_readsOrder 115 = .ok (.goto 4, 3) := by decide +kernel
theorem dX2_readsOrder_118 : decode cX2_readsOrder 118 = .ok (.iconst 0, 1) := by decide +kernel
theorem dX2_readsOrder_119 : decode cX2_readsOrder 119 = .ok (.ireturn, 1) := by decide +kernel
theorem dX2_readsOrder_120 : decode cX2_readsOrder 120 = .ok (.aload_n 0, 1) := by decide +kernel
theorem dX2_readsOrder_121 : decode cX2_readsOrder 121 = .ok (.iconst 3, 1) := by decide +kernel
theorem dX2_readsOrder_122 : decode cX2_readsOrder 122 = .ok (.putfield 36, 3) := by decide +kernel
theorem dX2_readsOrder_125 : decode cX2_readsOrder 125 = .ok (.aload_n 0, 1) := by decide +kernel
theorem dX2_readsOrder_126 : decode cX2_readsOrder 126 = .ok (.bipush 99, 2) := by decide +kernel
theorem dX2_readsOrder_128 : decode cX2_readsOrder 128 = .ok (.invokevirtual 32, 3) := by decide +kernel
theorem dX2_readsOrder_131 : decode cX2_readsOrder 131 = .ok (.ifCond .eq 18, 3) := by decide +kernel
theorem dX2_readsOrder_134 : decode cX2_readsOrder 134 = .ok (.aload_n 0, 1) := by decide +kernel
theorem dX2_readsOrder_135 : decode cX2_readsOrder 135 = .ok (.bipush 48, 2) := by decide +kernel
theorem dX2_readsOrder_137 : decode cX2_readsOrder 137 = .ok (.bipush 57, 2) := by decide +kernel
theorem dX2_readsOrder_139 : decode cX2_readsOrder 139 = .ok (.invokevirtual 42, 3) := by decide +kernel
theorem dX2_readsOrder_142 : decode cX2_readsOrder 142 = .ok (.ifCond .eq 7, 3) := by decide +kernel
theorem dX2_readsOrder_145 : decode cX2_readsOrder 145 = .ok (.iconst 1, 1) := by decide +kernel
theorem dX2_readsOrder_146 : decode cX2_readsOrder 146 = .ok (.goto 4, 3) := by decide +kernel
theorem dX2_readsOrder_149 : decode cX2_readsOrder 149 = .ok (.iconst 0, 1) := by decide +kernel
theorem dX2_readsOrder_150 : decode cX2_readsOrder 150 = .ok (.ireturn, 1) := by decide +kernel
theorem dX2_readsRow_0 : decode cX2_readsRow 0 = .ok (.aload_n 0, 1) := by decide +kernel
theorem dX2_readsRow_1 : decode cX2_readsRow 1 = .ok (.bipush 48, 2) := by decide +kernel
theorem dX2_readsRow_3 : decode cX2_readsRow 3 = .ok (.bipush 51, 2) := by decide +kernel
theorem dX2_readsRow_5 : decode cX2_readsRow 5 = .ok (.invokevirtual 52, 3) := by decide +kernel
theorem dX2_readsRow_8 : decode cX2_readsRow 8 = .ok (.istore_n 1, 1) := by decide +kernel
theorem dX2_readsRow_9 : decode cX2_readsRow 9 = .ok (.aload_n 0, 1) := by decide +kernel
theorem dX2_readsRow_10 : decode cX2_readsRow 10 = .ok (.aload_n 0, 1) := by decide +kernel
theorem dX2_readsRow_11 : decode cX2_readsRow 11 = .ok (.getfield 55, 3) := by decide +kernel
theorem dX2_readsRow_14 : decode cX2_readsRow 14 = .ok (.putfield 58, 3) := by decide +kernel
theorem dX2_readsRow_17 : decode cX2_readsRow 17 = .ok (.iload_n 1, 1) := by decide +kernel
theorem dX2_readsRow_18 : decode cX2_readsRow 18 = .ok (.ireturn, 1) := by decide +kernel
theorem dX2_readsNumber_0 : decode cX2_readsNumber 0 = .ok (.aload_n 0, 1) := by decide +kernel
theorem dX2_readsNumber_1 : decode cX2_readsNumber 1 = .ok (.iload_n 1, 1) := by decide +kernel
theorem dX2_readsNumber_2 : decode cX2_readsNumber 2 = .ok (.iload_n 2, 1) := by decide +kernel
theorem dX2_readsNumber_3 : decode cX2_readsNumber 3 = .ok (.invokevirtual 52, 3) := by decide +kernel
theorem dX2_readsNumber_6 : decode cX2_readsNumber 6 = .ok (.istore_n 3, 1) := by decide +kernel
theorem dX2_readsNumber_7 : decode cX2_readsNumber 7 = .ok (.aload_n 0, 1) := by decide +kernel
theorem dX2_readsNumber_8 : decode cX2_readsNumber 8 = .ok (.aload_n 0, 1) := by decide +kernel
theorem dX2_readsNumber_9 : decode cX2_readsNumber 9 = .ok (.getfield 55, 3) := by decide +kernel
theorem dX2_readsNumber_12 : decode cX2_readsNumber 12 = .ok (.putfield 61, 3) := by decide +kernel
theorem dX2_readsNumber_15 : decode cX2_readsNumber 15 = .ok (.iload_n 3, 1) := by decide +kernel
theorem dX2_readsNumber_16 : decode cX2_readsNumber 16 = .ok (.ireturn, 1) := by decide +kernel
theorem dX2_readsWeight_0 : decode cX2_readsWeight 0 = .ok (.aload_n 0, 1) := by decide +kernel
theorem dX2_readsWeight_1 : decode cX2_readsWeight 1 = .ok (.iconst 1, 1) := by decide +kernel
theorem dX2_readsWeight_2 : decode cX2_readsWeight 2 = .ok (.putfield 64, 3) := by decide +kernel
theorem dX2_readsWeight_5 : decode cX2_readsWeight 5 = .ok (.aload_n 0, 1) := by decide +kernel
theorem dX2_readsWeight_6 : decode cX2_readsWeight 6 = .ok (.bipush 42, 2) := by decide +kernel
theorem dX2_readsWeight_8 : decode cX2_readsWeight 8 = .ok (.invokevirtual 32, 3) := by decide +kernel
theorem dX2_readsWeight_11 : decode cX2_readsWeight 11 = .ok (.ifCond .ne 5, 3) := by decide +kernel
theorem dX2_readsWeight_14 : decode cX2_readsWeight 14 = .ok (.iconst 1, 1) := by decide +kernel
theorem dX2_readsWeight_15 : decode cX2_readsWeight 15 = .ok (.ireturn, 1) := by decide +kernel
theorem dX2_readsWeight_16 : decode cX2_readsWeight 16 = .ok (.aload_n 0, 1) := by decide +kernel
theorem dX2_readsWeight_17 : decode cX2_readsWeight 17 = .ok (.bipush 49, 2) := by decide +kernel
theorem dX2_readsWeight_19 : decode cX2_readsWeight 19 = .ok (.bipush 53, 2) := by decide +kernel
theorem dX2_readsWeight_21 : decode cX2_readsWeight 21 = .ok (.invokevirtual 52, 3) := by decide +kernel
theorem dX2_readsWeight_24 : decode cX2_readsWeight 24 = .ok (.istore_n 1, 1) := by decide +kernel
theorem dX2_readsWeight_25 : decode cX2_readsWeight 25 = .ok (.aload_n 0, 1) := by decide +kernel
theorem dX2_readsWeight_26 : decode cX2_readsWeight 26 = .ok (.aload_n 0, 1) := by decide +kernel
theorem dX2_readsWeight_27 : decode cX2_readsWeight 27 = .ok (.getfield 55, 3) := by decide +kernel
theorem dX2_readsWeight_30 : decode cX2_readsWeight 30 = .ok (.putfield 64, 3) := by decide +kernel
theorem dX2_readsWeight_33 : decode cX2_readsWeight 33 = .ok (.iload_n 1, 1) := by decide +kernel
theorem dX2_readsWeight_34 : decode cX2_readsWeight 34 = .ok (.ireturn, 1) := by decide +kernel
theorem dX2_readsDegrees_0 : decode cX2_readsDegrees 0 = .ok (.aload_n 0, 1) := by decide +kernel
theorem dX2_readsDegrees_1 : decode cX2_readsDegrees 1 = .ok (.bipush 45, 2) := by decide +kernel
theorem dX2_readsDegrees_3 : decode cX2_readsDegrees 3 = .ok (.invokevirtual 32, 3) := by decide +kernel
theorem dX2_readsDegrees_6 : decode cX2_readsDegrees 6 = .ok (.ifCond .eq 7, 3) := by decide +kernel
theorem dX2_readsDegrees_9 : decode cX2_readsDegrees 9 = .ok (.iconst (-1), 1) := by decide +kernel
theorem dX2_readsDegrees_10 : decode cX2_readsDegrees 10 = .ok (.goto 4, 3) := by decide +kernel
theorem dX2_readsDegrees_13 : decode cX2_readsDegrees 13 = .ok (.iconst 1, 1) := by decide +kernel
theorem dX2_readsDegrees_14 : decode cX2_readsDegrees 14 = .ok (.istore_n 1, 1) := by decide +kernel
theorem dX2_readsDegrees_15 : decode cX2_readsDegrees 15 = .ok (.aload_n 0, 1) := by decide +kernel
theorem dX2_readsDegrees_16 : decode cX2_readsDegrees 16 = .ok (.bipush 48, 2) := by decide +kernel
theorem dX2_readsDegrees_18 : decode cX2_readsDegrees 18 = .ok (.bipush 57, 2) := by decide +kernel
theorem dX2_readsDegrees_20 : decode cX2_readsDegrees 20 = .ok (.invokevirtual 52, 3) := by decide +kernel
theorem dX2_readsDegrees_23 : decode cX2_readsDegrees 23 = .ok (.ifCond .ne 5, 3) := by decide +kernel
theorem dX2_readsDegrees_26 : decode cX2_readsDegrees 26 = .ok (.iconst 0, 1) := by decide +kernel
theorem dX2_readsDegrees_27 : decode cX2_readsDegrees 27 = .ok (.ireturn, 1) := by decide +kernel
theorem dX2_readsDegrees_28 : decode cX2_readsDegrees 28 = .ok (.aload_n 0, 1) := by decide +kernel
theorem dX2_readsDegrees_29 : decode cX2_readsDegrees 29 = .ok (.getfield 55, 3) := by decide +kernel
theorem dX2_readsDegrees_32 : decode cX2_readsDegrees 32 = .ok (.istore_n 2, 1) := by decide +kernel
theorem dX2_readsDegrees_33 : decode cX2_readsDegrees 33 = .ok (.iload_n 2, 1) := by decide +kernel
theorem dX2_readsDegrees_34 : decode cX2_readsDegrees 34 = .ok (.iconst 1, 1) := by decide +kernel
theorem dX2_readsDegrees_35 : decode cX2_readsDegrees 35 = .ok (.if_icmp .lt 12, 3) := by decide +kernel
theorem dX2_readsDegrees_38 : decode cX2_readsDegrees 38 = .ok (.iload_n 2, 1) := by decide +kernel
theorem dX2_readsDegrees_39 : decode cX2_readsDegrees 39 = .ok (.iconst 5, 1) := by decide +kernel
theorem dX2_readsDegrees_40 : decode cX2_readsDegrees 40 = .ok (.if_icmp .gt 7, 3) := by decide +kernel
theorem dX2_readsDegrees_43 : decode cX2_readsDegrees 43 = .ok (.iconst 1, 1) := by decide +kernel
theorem dX2_readsDegrees_44 : decode cX2_readsDegrees 44 = .ok (.goto 4, 3) := by decide +kernel
theorem dX2_readsDegrees_47 : decode cX2_readsDegrees 47 = .ok (.iconst 0, 1) := by decide +kernel
theorem dX2_readsDegrees_48 : decode cX2_readsDegrees 48 = .ok (.istore_n 3, 1) := by decide +kernel
theorem dX2_readsDegrees_49 : decode cX2_readsDegrees 49 = .ok (.iload_n 3, 1) := by decide +kernel
theorem dX2_readsDegrees_50 : decode cX2_readsDegrees 50 = .ok (.ifCond .eq 34, 3) := by decide +kernel
theorem dX2_readsDegrees_53 : decode cX2_readsDegrees 53 = .ok (.aload_n 0, 1) := by decide +kernel
theorem dX2_readsDegrees_54 : decode cX2_readsDegrees 54 = .ok (.bipush 48, 2) := by decide +kernel
theorem dX2_readsDegrees_56 : decode cX2_readsDegrees 56 = .ok (.iload_n 2, 1) := by decide +kernel
theorem dX2_readsDegrees_57 : decode cX2_readsDegrees 57 = .ok (.iconst 5, 1) := by decide +kernel
theorem dX2_readsDegrees_58 : decode cX2_readsDegrees 58 = .ok (.if_icmp .ne 8, 3) := by decide +kernel
theorem dX2_readsDegrees_61 : decode cX2_readsDegrees 61 = .ok (.bipush 48, 2) := by decide +kernel
theorem dX2_readsDegrees_63 : decode cX2_readsDegrees 63 = .ok (.goto 5, 3) := by decide +kernel
theorem dX2_readsDegrees_66 : decode cX2_readsDegrees 66 = .ok (.bipush 57, 2) := by decide +kernel
theorem dX2_readsDegrees_68 : decode cX2_readsDegrees 68 = .ok (.invokevirtual 52, 3) := by decide +kernel
theorem dX2_readsDegrees_71 : decode cX2_readsDegrees 71 = .ok (.ifCond .eq 13, 3) := by decide +kernel
theorem dX2_readsDegrees_74 : decode cX2_readsDegrees 74 = .ok (.iload_n 2, 1) := by decide +kernel
theorem dX2_readsDegrees_75 : decode cX2_readsDegrees 75 = .ok (.bipush 10, 2) := by decide +kernel
theorem dX2_readsDegrees_77 : decode cX2_readsDegrees 77 = .ok (.imul, 1) := by decide +kernel
theorem dX2_readsDegrees_78 : decode cX2_readsDegrees 78 = .ok (.aload_n 0, 1) := by decide +kernel
theorem dX2_readsDegrees_79 : decode cX2_readsDegrees 79 = .ok (.getfield 55, 3) := by decide +kernel
theorem dX2_readsDegrees_82 : decode cX2_readsDegrees 82 = .ok (.iadd, 1) := by decide +kernel
theorem dX2_readsDegrees_83 : decode cX2_readsDegrees 83 = .ok (.istore_n 2, 1) := by decide +kernel
theorem dX2_readsDegrees_84 : decode cX2_readsDegrees 84 = .ok (.aload_n 0, 1) := by decide +kernel
theorem dX2_readsDegrees_85 : decode cX2_readsDegrees 85 = .ok (.iload_n 1, 1) := by decide +kernel
theorem dX2_readsDegrees_86 : decode cX2_readsDegrees 86 = .ok (.iload_n 2, 1) := by decide +kernel
theorem dX2_readsDegrees_87 : decode cX2_readsDegrees 87 = .ok (.imul, 1) := by decide +kernel
theorem dX2_readsDegrees_88 : decode cX2_readsDegrees 88 = .ok (.putfield 61, 3) := by decide +kernel
theorem dX2_readsDegrees_91 : decode cX2_readsDegrees 91 = .ok (.iconst 1, 1) := by decide +kernel
theorem dX2_readsDegrees_92 : decode cX2_readsDegrees 92 = .ok (.ireturn, 1) := by decide +kernel
theorem dX2_takesSign_0 : decode cX2_takesSign 0 = .ok (.aload_n 0, 1) := by decide +kernel
theorem dX2_takesSign_1 : decode cX2_takesSign 1 = .ok (.iload_n 1, 1) := by decide +kernel
theorem dX2_takesSign_2 : decode cX2_takesSign 2 = .ok (.iload_n 1, 1) := by decide +kernel
theorem dX2_takesSign_3 : decode cX2_takesSign 3 = .ok (.invokevirtual 52, 3) := by decide +kernel
theorem dX2_takesSign_6 : decode cX2_takesSign 6 = .ok (.ireturn, 1) := by decide +kernel
theorem dX2_takes_0 : decode cX2_takes 0 = .ok (.aload_n 0, 1) := by decide +kernel
theorem dX2_takes_1 : decode cX2_takes 1 = .ok (.getfield 19, 3) := by decide +kernel
theorem dX2_takes_4 : decode cX2_takes 4 = .ok (.ifCond .lt 26, 3) := by decide +kernel
theorem dX2_takes_7 : decode cX2_takes 7 = .ok (.aload_n 0, 1) := by decide +kernel
theorem dX2_takes_8 : decode cX2_takes 8 = .ok (.getfield 19, 3) := by decide +kernel
theorem dX2_takes_11 : decode cX2_takes 11 = .ok (.aload_n 0, 1) := by decide +kernel
theorem dX2_takes_12 : decode cX2_takes 12 = .ok (.getfield 15, 3) := by decide +kernel
theorem dX2_takes_15 : decode cX2_takes 15 = .ok (.if_icmp .ge 15, 3) := by decide +kernel
theorem dX2_takes_18 : decode cX2_takes 18 = .ok (.aload_n 0, 1) := by decide +kernel
theorem dX2_takes_19 : decode cX2_takes 19 = .ok (.getfield 19, 3) := by decide +kernel
theorem dX2_takes_22 : decode cX2_takes 22 = .ok (.aload_n 0, 1) := by decide +kernel
theorem dX2_takes_23 : decode cX2_takes 23 = .ok (.getfield 9, 3) := by decide +kernel
theorem dX2_takes_26 : decode cX2_takes 26 = .ok (.arraylength, 1) := by decide +kernel
theorem dX2_takes_27 : decode cX2_takes 27 = .ok (.if_icmp .lt 5, 3) := by decide +kernel
theorem dX2_takes_30 : decode cX2_takes 30 = .ok (.iconst 0, 1) := by decide +kernel
theorem dX2_takes_31 : decode cX2_takes 31 = .ok (.ireturn, 1) := by decide +kernel
theorem dX2_takes_32 : decode cX2_takes 32 = .ok (.aload_n 0, 1) := by decide +kernel
theorem dX2_takes_33 : decode cX2_takes 33 = .ok (.getfield 9, 3) := by decide +kernel
theorem dX2_takes_36 : decode cX2_takes 36 = .ok (.aload_n 0, 1) := by decide +kernel
theorem dX2_takes_37 : decode cX2_takes 37 = .ok (.getfield 19, 3) := by decide +kernel
theorem dX2_takes_40 : decode cX2_takes 40 = .ok (.caload, 1) := by decide +kernel
theorem dX2_takes_41 : decode cX2_takes 41 = .ok (.istore_n 3, 1) := by decide +kernel
theorem dX2_takes_42 : decode cX2_takes 42 = .ok (.iload_n 3, 1) := by decide +kernel
theorem dX2_takes_43 : decode cX2_takes 43 = .ok (.iload_n 1, 1) := by decide +kernel
theorem dX2_takes_44 : decode cX2_takes 44 = .ok (.if_icmp .lt 8, 3) := by decide +kernel
theorem dX2_takes_47 : decode cX2_takes 47 = .ok (.iload_n 3, 1) := by decide +kernel
theorem dX2_takes_48 : decode cX2_takes 48 = .ok (.iload_n 2, 1) := by decide +kernel
theorem dX2_takes_49 : decode cX2_takes 49 = .ok (.if_icmp .le 5, 3) := by decide +kernel
theorem dX2_takes_52 : decode cX2_takes 52 = .ok (.iconst 0, 1) := by decide +kernel
theorem dX2_takes_53 : decode cX2_takes 53 = .ok (.ireturn, 1) := by decide +kernel
theorem dX2_takes_54 : decode cX2_takes 54 = .ok (.aload_n 0, 1) := by decide +kernel
theorem dX2_takes_55 : decode cX2_takes 55 = .ok (.iload_n 3, 1) := by decide +kernel
theorem dX2_takes_56 : decode cX2_takes 56 = .ok (.bipush 48, 2) := by decide +kernel
theorem dX2_takes_58 : decode cX2_takes 58 = .ok (.isub, 1) := by decide +kernel
theorem dX2_takes_59 : decode cX2_takes 59 = .ok (.putfield 55, 3) := by decide +kernel
theorem dX2_takes_62 : decode cX2_takes 62 = .ok (.aload_n 0, 1) := by decide +kernel
theorem dX2_takes_63 : decode cX2_takes 63 = .ok (.dup, 1) := by decide +kernel
theorem dX2_takes_64 : decode cX2_takes 64 = .ok (.getfield 19, 3) := by decide +kernel
theorem dX2_takes_67 : decode cX2_takes 67 = .ok (.iconst 1, 1) := by decide +kernel
theorem dX2_takes_68 : decode cX2_takes 68 = .ok (.iadd, 1) := by decide +kernel
theorem dX2_takes_69 : decode cX2_takes 69 = .ok (.putfield 19, 3) := by decide +kernel
theorem dX2_takes_72 : decode cX2_takes 72 = .ok (.iconst 1, 1) := by decide +kernel
theorem dX2_takes_73 : decode cX2_takes 73 = .ok (.ireturn, 1) := by decide +kernel
theorem dX3_init_0 : decode cX3_init 0 = .ok (.aload_n 0, 1) := by decide +kernel
theorem dX3_init_1 : decode cX3_init 1 = .ok (.invokespecial 3, 3) := by decide +kernel
theorem dX3_init_4 : decode cX3_init 4 = .ok (.aload_n 0, 1) := by decide +kernel
theorem dX3_init_5 : decode cX3_init 5 = .ok (.bipush 10, 2) := by decide +kernel
theorem dX3_init_7 : decode cX3_init 7 = .ok (.anewarray 9, 3) := by decide +kernel
theorem dX3_init_10 : decode cX3_init 10 = .ok (.putfield 11, 3) := by decide +kernel
theorem dX3_init_13 : decode cX3_init 13 = .ok (.aload_n 0, 1) := by decide +kernel
theorem dX3_init_14 : decode cX3_init 14 = .ok (.new 9, 3) := by decide +kernel
theorem dX3_init_17 : decode cX3_init 17 = .ok (.dup, 1) := by decide +kernel
theorem dX3_init_18 : decode cX3_init 18 = .ok (.invokespecial 17, 3) := by decide +kernel
theorem dX3_init_21 : decode cX3_init 21 = .ok (.putfield 18, 3) := by decide +kernel
theorem dX3_init_24 : decode cX3_init 24 = .ok (.aload_n 0, 1) := by decide +kernel
theorem dX3_init_25 : decode cX3_init 25 = .ok (.iconst 4, 1) := by decide +kernel
theorem dX3_init_26 : decode cX3_init 26 = .ok (.newarray .int, 2) := by decide +kernel
theorem dX3_init_28 : decode cX3_init 28 = .ok (.putfield 22, 3) := by decide +kernel
theorem dX3_init_31 : decode cX3_init 31 = .ok (.aload_n 0, 1) := by decide +kernel
theorem dX3_init_32 : decode cX3_init 32 = .ok (.iconst 4, 1) := by decide +kernel
theorem dX3_init_33 : decode cX3_init 33 = .ok (.newarray .int, 2) := by decide +kernel
theorem dX3_init_35 : decode cX3_init 35 = .ok (.putfield 26, 3) := by decide +kernel
theorem dX3_init_38 : decode cX3_init 38 = .ok (.aload_n 0, 1) := by decide +kernel
theorem dX3_init_39 : decode cX3_init 39 = .ok (.new 29, 3) := by decide +kernel
theorem dX3_init_42 : decode cX3_init 42 = .ok (.dup, 1) := by decide +kernel
theorem dX3_init_43 : decode cX3_init 43 = .ok (.invokespecial 31, 3) := by decide +kernel
theorem dX3_init_46 : decode cX3_init 46 = .ok (.putfield 32, 3) := by decide +kernel
theorem dX3_init_49 : decode cX3_init 49 = .ok (.aload_n 0, 1) := by decide +kernel
theorem dX3_init_50 : decode cX3_init 50 = .ok (.ldc 36, 2) := by decide +kernel
theorem dX3_init_52 : decode cX3_init 52 = .ok (.putfield 37, 3) := by decide +kernel
theorem dX3_init_55 : decode cX3_init 55 = .ok (.aload_n 0, 1) := by decide +kernel
theorem dX3_init_56 : decode cX3_init 56 = .ok (.sipush 1000, 3) := by decide +kernel
theorem dX3_init_59 : decode cX3_init 59 = .ok (.putfield 41, 3) := by decide +kernel
theorem dX3_init_62 : decode cX3_init 62 = .ok (.aload_n 0, 1) := by decide +kernel
theorem dX3_init_63 : decode cX3_init 63 = .ok (.sipush 300, 3) := by decide +kernel
theorem dX3_init_66 : decode cX3_init 66 = .ok (.putfield 44, 3) := by decide +kernel
theorem dX3_init_69 : decode cX3_init 69 = .ok (.aload_n 0, 1) := by decide +kernel
theorem dX3_init_70 : decode cX3_init 70 = .ok (.iconst 2, 1) := by decide +kernel
theorem dX3_init_71 : decode cX3_init 71 = .ok (.putfield 47, 3) := by decide +kernel
theorem dX3_init_74 : decode cX3_init 74 = .ok (.iconst 0, 1) := by decide +kernel
theorem dX3_init_75 : decode cX3_init 75 = .ok (.istore_n 1, 1) := by decide +kernel
theorem dX3_init_76 : decode cX3_init 76 = .ok (.iload_n 1, 1) := by decide +kernel
theorem dX3_init_77 : decode cX3_init 77 = .ok (.aload_n 0, 1) := by decide +kernel
theorem dX3_init_78 : decode cX3_init 78 = .ok (.getfield 11, 3) := by decide +kernel
theorem dX3_init_81 : decode cX3_init 81 = .ok (.arraylength, 1) := by decide +kernel
theorem dX3_init_82 : decode cX3_init 82 = .ok (.if_icmp .ge 22, 3) := by decide +kernel
theorem dX3_init_85 : decode cX3_init 85 = .ok (.aload_n 0, 1) := by decide +kernel
theorem dX3_init_86 : decode cX3_init 86 = .ok (.getfield 11, 3) := by decide +kernel
theorem dX3_init_89 : decode cX3_init 89 = .ok (.iload_n 1, 1) := by decide +kernel
theorem dX3_init_90 : decode cX3_init 90 = .ok (.new 9, 3) := by decide +kernel
theorem dX3_init_93 : decode cX3_init 93 = .ok (.dup, 1) := by decide +kernel
theorem dX3_init_94 : decode cX3_init 94 = .ok (.invokespecial 17, 3) := by decide +kernel
theorem dX3_init_97 : decode cX3_init 97 = .ok (.aastore, 1) := by decide +kernel
theorem dX3_init_98 : decode cX3_init 98 = .ok (.iinc 1 1, 3) := by decide +kernel
theorem dX3_init_101 : decode cX3_init 101 = .ok (.goto (-25), 3) := by decide +kernel
theorem dX3_init_104 : decode cX3_init 104 = .ok (.iconst 0, 1) := by decide +kernel
theorem dX3_init_105 : decode cX3_init 105 = .ok (.istore_n 1, 1) := by decide +kernel
theorem dX3_init_106 : decode cX3_init 106 = .ok (.iload_n 1, 1) := by decide +kernel
theorem dX3_init_107 : decode cX3_init 107 = .ok (.aload_n 0, 1) := by decide +kernel
theorem dX3_init_108 : decode cX3_init 108 = .ok (.getfield 22, 3) := by decide +kernel
theorem dX3_init_111 : decode cX3_init 111 = .ok (.arraylength, 1) := by decide +kernel
theorem dX3_init_112 : decode cX3_init 112 = .ok (.if_icmp .ge 16, 3) := by decide +kernel
theorem dX3_init_115 : decode cX3_init 115 = .ok (.aload_n 0, 1) := by decide +kernel
theorem dX3_init_116 : decode cX3_init 116 = .ok (.getfield 22, 3) := by decide +kernel
theorem dX3_init_119 : decode cX3_init 119 = .ok (.iload_n 1, 1) := by decide +kernel
theorem dX3_init_120 : decode cX3_init 120 = .ok (.iconst 1, 1) := by decide +kernel
theorem dX3_init_121 : decode cX3_init 121 = .ok (.iastore, 1) := by decide +kernel
theorem dX3_init_122 : decode cX3_init 122 = .ok (.iinc 1 1, 3) := by decide +kernel
theorem dX3_init_125 : decode cX3_init 125 = .ok (.goto (-19), 3) := by decide +kernel
theorem dX3_init_128 : decode cX3_init 128 = .ok (.return_, 1) := by decide +kernel
theorem dX3_copyFrom_0 : decode cX3_copyFrom 0 = .ok (.iconst 0, 1) := by decide +kernel
theorem dX3_copyFrom_1 : decode cX3_copyFrom 1 = .ok (.istore_n 2, 1) := by decide +kernel
theorem dX3_copyFrom_2 : decode cX3_copyFrom 2 = .ok (.iload_n 2, 1) := by decide +kernel
theorem dX3_copyFrom_3 : decode cX3_copyFrom 3 = .ok (.aload_n 1, 1) := by decide +kernel
theorem dX3_copyFrom_4 : decode cX3_copyFrom 4 = .ok (.getfield 50, 3) := by decide +kernel
theorem dX3_copyFrom_7 : decode cX3_copyFrom 7 = .ok (.if_icmp .ge 22, 3) := by decide +kernel
theorem dX3_copyFrom_10 : decode cX3_copyFrom 10 = .ok (.aload_n 0, 1) := by decide +kernel
theorem dX3_copyFrom_11 : decode cX3_copyFrom 11 = .ok (.iload_n 2, 1) := by decide +kernel
theorem dX3_copyFrom_12 : decode cX3_copyFrom 12 = .ok (.invokevirtual 53, 3) := by decide +kernel
theorem dX3_copyFrom_15 : decode cX3_copyFrom 15 = .ok (.aload_n 1, 1) := by decide +kernel
theorem dX3_copyFrom_16 : decode cX3_copyFrom 16 = .ok (.iload_n 2, 1) := by decide +kernel
theorem dX3_copyFrom_17 : decode cX3_copyFrom 17 = .ok (.invokevirtual 53, 3) := by decide +kernel
theorem dX3_copyFrom_20 : decode cX3_copyFrom 20 = .ok (.invokevirtual 57, 3) := by decide +kernel
theorem dX3_copyFrom_23 : decode cX3_copyFrom 23 = .ok (.iinc 2 1, 3) := by decide +kernel
theorem dX3_copyFrom_26 : decode cX3_copyFrom 26 = .ok (.goto (-24), 3) := by decide +kernel
theorem dX3_copyFrom_29 : decode cX3_copyFrom 29 = .ok (.aload_n 0, 1) := by decide +kernel
theorem dX3_copyFrom_30 : decode cX3_copyFrom 30 = .ok (.getfield 22, 3) := by decide +kernel
theorem dX3_copyFrom_33 : decode cX3_copyFrom 33 = .ok (.aload_n 1, 1) := by decide +kernel
theorem dX3_copyFrom_34 : decode cX3_copyFrom 34 = .ok (.getfield 22, 3) := by decide +kernel
theorem dX3_copyFrom_37 : decode cX3_copyFrom 37 = .ok (.invokestatic 61, 3) := by decide +kernel
theorem dX3_copyFrom_40 : decode cX3_copyFrom 40 = .ok (.aload_n 0, 1) := by decide +kernel
theorem dX3_copyFrom_41 : decode cX3_copyFrom 41 = .ok (.getfield 26, 3) := by decide +kernel
theorem dX3_copyFrom_44 : decode cX3_copyFrom 44 = .ok (.aload_n 1, 1) := by decide +kernel
theorem dX3_copyFrom_45 : decode cX3_copyFrom 45 = .ok (.getfield 26, 3) := by decide +kernel
theorem dX3_copyFrom_48 : decode cX3_copyFrom 48 = .ok (.invokestatic 61, 3) := by decide +kernel
theorem dX3_copyFrom_51 : decode cX3_copyFrom 51 = .ok (.aload_n 0, 1) := by decide +kernel
theorem dX3_copyFrom_52 : decode cX3_copyFrom 52 = .ok (.aload_n 1, 1) := by decide +kernel
theorem dX3_copyFrom_53 : decode cX3_copyFrom 53 = .ok (.getfield 37, 3) := by decide +kernel
theorem dX3_copyFrom_56 : decode cX3_copyFrom 56 = .ok (.putfield 37, 3) := by decide +kernel
theorem dX3_copyFrom_59 : decode cX3_copyFrom 59 = .ok (.aload_n 0, 1) := by decide +kernel
theorem dX3_copyFrom_60 : decode cX3_copyFrom 60 = .ok (.aload_n 1, 1) := by decide +kernel
theorem dX3_copyFrom_61 : decode cX3_copyFrom 61 = .ok (.getfield 50, 3) := by decide +kernel
theorem dX3_copyFrom_64 : decode cX3_copyFrom 64 = .ok (.putfield 50, 3) := by decide +kernel
theorem dX3_copyFrom_67 : decode cX3_copyFrom 67 = .ok (.aload_n 0, 1) := by decide +kernel
theorem dX3_copyFrom_68 : decode cX3_copyFrom 68 = .ok (.aload_n 1, 1) := by decide +kernel
theorem dX3_copyFrom_69 : decode cX3_copyFrom 69 = .ok (.getfield 65, 3) := by decide +kernel
theorem dX3_copyFrom_72 : decode cX3_copyFrom 72 = .ok (.putfield 65, 3) := by decide +kernel
theorem dX3_copyFrom_75 : decode cX3_copyFrom 75 = .ok (.aload_n 0, 1) := by decide +kernel
theorem dX3_copyFrom_76 : decode cX3_copyFrom 76 = .ok (.aload_n 1, 1) := by decide +kernel
theorem dX3_copyFrom_77 : decode cX3_copyFrom 77 = .ok (.getfield 41, 3) := by decide +kernel
theorem dX3_copyFrom_80 : decode cX3_copyFrom 80 = .ok (.putfield 41, 3) := by decide +kernel
theorem dX3_copyFrom_83 : decode cX3_copyFrom 83 = .ok (.aload_n 0, 1) := by decide +kernel
theorem dX3_copyFrom_84 : decode cX3_copyFrom 84 = .ok (.aload_n 1, 1) := by decide +kernel
theorem dX3_copyFrom_85 : decode cX3_copyFrom 85 = .ok (.getfield 68, 3) := by decide +kernel
theorem dX3_copyFrom_88 : decode cX3_copyFrom 88 = .ok (.putfield 68, 3) := by decide +kernel
theorem dX3_copyFrom_91 : decode cX3_copyFrom 91 = .ok (.aload_n 0, 1) := by decide +kernel
theorem dX3_copyFrom_92 : decode cX3_copyFrom 92 = .ok (.aload_n 1, 1) := by decide +kernel
theorem dX3_copyFrom_93 : decode cX3_copyFrom 93 = .ok (.getfield 71, 3) := by decide +kernel
theorem dX3_copyFrom_96 : decode cX3_copyFrom 96 = .ok (.putfield 71, 3) := by decide +kernel
theorem dX3_copyFrom_99 : decode cX3_copyFrom 99 = .ok (.aload_n 0, 1) := by decide +kernel
theorem dX3_copyFrom_100 : decode cX3_copyFrom 100 = .ok (.aload_n 1, 1) := by decide +kernel
theorem dX3_copyFrom_101 : decode cX3_copyFrom 101 = .ok (.getfield 44, 3) := by decide +kernel
theorem dX3_copyFrom_104 : decode cX3_copyFrom 104 = .ok (.putfield 44, 3) := by decide +kernel
theorem dX3_copyFrom_107 : decode cX3_copyFrom 107 = .ok (.aload_n 0, 1) := by decide +kernel
theorem dX3_copyFrom_108 : decode cX3_copyFrom 108 = .ok (.aload_n 1, 1) := by decide +kernel
theorem dX3_copyFrom_109 : decode cX3_copyFrom 109 = .ok (.getfield 47, 3) := by decide +kernel
theorem dX3_copyFrom_112 : decode cX3_copyFrom 112 = .ok (.putfield 47, 3) := by decide +kernel
theorem dX3_copyFrom_115 : decode cX3_copyFrom 115 = .ok (.return_, 1) := by decide +kernel
theorem dX3_has_0 : decode cX3_has 0 = .ok (.iload_n 1, 1) := by decide +kernel
theorem dX3_has_1 : decode cX3_has 1 = .ok (.ifCond .lt 15, 3) := by decide +kernel
theorem dX3_has_4 : decode cX3_has 4 = .ok (.iload_n 1, 1) := by decide +kernel
theorem dX3_has_5 : decode cX3_has 5 = .ok (.aload_n 0, 1) := by decide +kernel
theorem dX3_has_6 : decode cX3_has 6 = .ok (.getfield 50, 3) := by decide +kernel
theorem dX3_has_9 : decode cX3_has 9 = .ok (.if_icmp .ge 7, 3) := by decide +kernel
theorem dX3_has_12 : decode cX3_has 12 = .ok (.iconst 1, 1) := by decide +kernel
theorem dX3_has_13 : decode cX3_has 13 = .ok (.goto 4, 3) := by decide +kernel
theorem dX3_has_16 : decode cX3_has 16 = .ok (.iconst 0, 1) := by decide +kernel
theorem dX3_has_17 : decode cX3_has 17 = .ok (.ireturn, 1) := by decide +kernel
theorem dX3_hasRoom_0 : decode cX3_hasRoom 0 = .ok (.aload_n 0, 1) := by decide +kernel
theorem dX3_hasRoom_1 : decode cX3_hasRoom 1 = .ok (.getfield 50, 3) := by decide +kernel
theorem dX3_hasRoom_4 : decode cX3_hasRoom 4 = .ok (.bipush 10, 2) := by decide +kernel
theorem dX3_hasRoom_6 : decode cX3_hasRoom 6 = .ok (.if_icmp .ge 7, 3) := by decide +kernel
theorem dX3_hasRoom_9 : decode cX3_hasRoom 9 = .ok (.iconst 1, 1) := by decide +kernel
theorem dX3_hasRoom_10 : decode cX3_hasRoom 10 = .ok (.goto 4, 3) := by decide +kernel
theorem dX3_hasRoom_13 : decode cX3_hasRoom 13 = .ok (.iconst 0, 1) := by decide +kernel
theorem dX3_hasRoom_14 : decode cX3_hasRoom 14 = .ok (.ireturn, 1) := by decide +kernel
theorem dX3_hasHoursLeft_0 : decode cX3_hasHoursLeft 0 = .ok (.aload_n 0, 1) := by decide +kernel
theorem dX3_hasHoursLeft_1 : decode cX3_hasHoursLeft 1 = .ok (.getfield 65, 3) := by decide +kernel
theorem dX3_hasHoursLeft_4 : decode cX3_hasHoursLeft 4 = .ok (.sipush 9999, 3) := by decide +kernel
theorem dX3_hasHoursLeft_7 : decode cX3_hasHoursLeft 7 = .ok (.iload_n 1, 1) := by decide +kernel
theorem dX3_hasHoursLeft_8 : decode cX3_hasHoursLeft 8 = .ok (.isub, 1) := by decide +kernel
theorem dX3_hasHoursLeft_9 : decode cX3_hasHoursLeft 9 = .ok (.if_icmp .gt 7, 3) := by decide +kernel
theorem dX3_hasHoursLeft_12 : decode cX3_hasHoursLeft 12 = .ok (.iconst 1, 1) := by decide +kernel
theorem dX3_hasHoursLeft_13 : decode cX3_hasHoursLeft 13 = .ok (.goto 4, 3) := by decide +kernel
theorem dX3_hasHoursLeft_16 : decode cX3_hasHoursLeft 16 = .ok (.iconst 0, 1) := by decide +kernel
theorem dX3_hasHoursLeft_17 : decode cX3_hasHoursLeft 17 = .ok (.ireturn, 1) := by decide +kernel
theorem dX3_at_0 : decode cX3_at 0 = .ok (.iload_n 1, 1) := by decide +kernel
theorem dX3_at_1 : decode cX3_at 1 = .ok (.ifCond .lt 12, 3) := by decide +kernel
theorem dX3_at_4 : decode cX3_at 4 = .ok (.iload_n 1, 1) := by decide +kernel
theorem dX3_at_5 : decode cX3_at 5 = .ok (.aload_n 0, 1) := by decide +kernel
theorem dX3_at_6 : decode cX3_at 6 = .ok (.getfield 11, 3) := by decide +kernel
theorem dX3_at_9 : decode cX3_at 9 = .ok (.arraylength, 1) := by decide +kernel
theorem dX3_at_10 : decode cX3_at 10 = .ok (.if_icmp .lt 8, 3) := by decide +kernel
theorem dX3_at_13 : decode cX3_at 13 = .ok (.aload_n 0, 1) := by decide +kernel
theorem dX3_at_14 : decode cX3_at 14 = .ok (.getfield 18, 3) := by decide +kernel
theorem dX3_at_17 : decode cX3_at 17 = .ok (.areturn, 1) := by decide +kernel
theorem dX3_at_18 : decode cX3_at 18 = .ok (.aload_n 0, 1) := by decide +kernel
theorem dX3_at_19 : decode cX3_at 19 = .ok (.getfield 11, 3) := by decide +kernel
theorem dX3_at_22 : decode cX3_at 22 = .ok (.iload_n 1, 1) := by decide +kernel
theorem dX3_at_23 : decode cX3_at 23 = .ok (.aaload, 1) := by decide +kernel
theorem dX3_at_24 : decode cX3_at 24 = .ok (.astore_n 2, 1) := by decide +kernel
theorem dX3_at_25 : decode cX3_at 25 = .ok (.aload_n 2, 1) := by decide +kernel
theorem dX3_at_26 : decode cX3_at 26 = .ok (.ifnonnull 10, 3) := by decide +kernel
theorem dX3_at_29 : decode cX3_at 29 = .ok (.aload_n 0, 1) := by decide +kernel
theorem dX3_at_30 : decode cX3_at 30 = .ok (.getfield 18, 3) := by decide +kernel
theorem dX3_at_33 : decode cX3_at 33 = .ok (.goto 4, 3) := by decide +kernel
theorem dX3_at_36 : decode cX3_at 36 = .ok (.aload_n 2, 1) := by decide +kernel
theorem dX3_at_37 : decode cX3_at 37 = .ok (.areturn, 1) := by decide +kernel
theorem dX3_add_0 : decode cX3_add 0 = .ok (.aload_n 0, 1) := by decide +kernel
theorem dX3_add_1 : decode cX3_add 1 = .ok (.getfield 50, 3) := by decide +kernel
theorem dX3_add_4 : decode cX3_add 4 = .ok (.istore 5, 2) := by decide +kernel
theorem dX3_add_6 : decode cX3_add 6 = .ok (.aload_n 0, 1) := by decide +kernel
theorem dX3_add_7 : decode cX3_add 7 = .ok (.iload 5, 2) := by decide +kernel
theorem dX3_add_9 : decode cX3_add 9 = .ok (.invokevirtual 53, 3) := by decide +kernel
theorem dX3_add_12 : decode cX3_add 12 = .ok (.iload_n 1, 1) := by decide +kernel
theorem dX3_add_13 : decode cX3_add 13 = .ok (.iload_n 2, 1) := by decide +kernel
theorem dX3_add_14 : decode cX3_add 14 = .ok (.iload_n 3, 1) := by decide +kernel
theorem dX3_add_15 : decode cX3_add 15 = .ok (.iload 4, 2) := by decide +kernel
theorem dX3_add_17 : decode cX3_add 17 = .ok (.aload_n 0, 1) := by decide +kernel
theorem dX3_add_18 : decode cX3_add 18 = .ok (.getfield 41, 3) := by decide +kernel
theorem dX3_add_21 : decode cX3_add 21 = .ok (.invokevirtual 74, 3) := by decide +kernel
theorem dX3_add_24 : decode cX3_add 24 = .ok (.aload_n 0, 1) := by decide +kernel
theorem dX3_add_25 : decode cX3_add 25 = .ok (.dup, 1) := by decide +kernel
theorem dX3_add_26 : decode cX3_add 26 = .ok (.getfield 50, 3) := by decide +kernel
theorem dX3_add_29 : decode cX3_add 29 = .ok (.iconst 1, 1) := by decide +kernel
theorem dX3_add_30 : decode cX3_add 30 = .ok (.iadd, 1) := by decide +kernel
theorem dX3_add_31 : decode cX3_add 31 = .ok (.putfield 50, 3) := by decide +kernel
theorem dX3_add_34 : decode cX3_add 34 = .ok (.iload 5, 2) := by decide +kernel
theorem dX3_add_36 : decode cX3_add 36 = .ok (.ireturn, 1) := by decide +kernel
theorem dX3_changePeriod_0 : decode cX3_changePeriod 0 = .ok (.iload_n 1, 1) := by decide +kernel
theorem dX3_changePeriod_1 : decode cX3_changePeriod 1 = .ok (.ifCond .lt 19, 3) := by decide +kernel
theorem dX3_changePeriod_4 : decode cX3_changePeriod 4 = .ok (.iload_n 1, 1) := by decide +kernel
theorem dX3_changePeriod_5 : decode cX3_changePeriod 5 = .ok (.aload_n 0, 1) := by decide +kernel
theorem dX3_changePeriod_6 : decode cX3_changePeriod 6 = .ok (.getfield 22, 3) := by decide +kernel
theorem dX3_changePeriod_9 : decode cX3_changePeriod 9 = .ok (.arraylength, 1) := by decide +kernel
theorem dX3_changePeriod_10 : decode cX3_changePeriod 10 = .ok (.if_icmp .ge 10, 3) := by decide +kernel
theorem dX3_changePeriod_13 : decode cX3_changePeriod 13 = .ok (.aload_n 0, 1) := by decide +kernel
theorem dX3_changePeriod_14 : decode cX3_changePeriod 14 = .ok (.getfield 22, 3) := by decide +kernel
theorem dX3_changePeriod_17 : decode cX3_changePeriod 17 = .ok (.iload_n 1, 1) := by decide +kernel
theorem dX3_changePeriod_18 : decode cX3_changePeriod 18 = .ok (.iload_n 2, 1) := by decide +kernel
theorem dX3_changePeriod_19 : decode cX3_changePeriod 19 = .ok (.iastore, 1) := by decide +kernel
theorem dX3_changePeriod_20 : decode cX3_changePeriod 20 = .ok (.return_, 1) := by decide +kernel
theorem dX3_periodOf_0 : decode cX3_periodOf 0 = .ok (.aload_n 0, 1) := by decide +kernel
theorem dX3_periodOf_1 : decode cX3_periodOf 1 = .ok (.getfield 22, 3) := by decide +kernel
theorem dX3_periodOf_4 : decode cX3_periodOf 4 = .ok (.iload_n 1, 1) := by decide +kernel
theorem dX3_periodOf_5 : decode cX3_periodOf 5 = .ok (.invokestatic 78, 3) := by decide +kernel
theorem dX3_periodOf_8 : decode cX3_periodOf 8 = .ok (.ireturn, 1) := by decide +kernel
theorem dX3_timesReadOf_0 : decode cX3_timesReadOf 0 = .ok (.aload_n 0, 1) := by decide +kernel
theorem dX3_timesReadOf_1 : decode cX3_timesReadOf 1 = .ok (.getfield 26, 3) := by decide +kernel
theorem dX3_timesReadOf_4 : decode cX3_timesReadOf 4 = .ok (.iload_n 1, 1) := by decide +kernel
theorem dX3_timesReadOf_5 : decode cX3_timesReadOf 5 = .ok (.invokestatic 78, 3) := by decide +kernel
theorem dX3_timesReadOf_8 : decode cX3_timesReadOf 8 = .ok (.ireturn, 1) := by decide +kernel
theorem dX3_hoursUntilRead_0 : decode cX3_hoursUntilRead 0 = .ok (.aload_n 0, 1) := by decide +kernel
theorem dX3_hoursUntilRead_1 : decode cX3_hoursUntilRead 1 = .ok (.iload_n 1, 1) := by decide +kernel
theorem dX3_hoursUntilRead_2 : decode cX3_hoursUntilRead 2 = .ok (.invokevirtual 82, 3) := by decide +kernel
theorem dX3_hoursUntilRead_5 : decode cX3_hoursUntilRead 5 = .ok (.aload_n 0, 1) := by decide +kernel
theorem dX3_hoursUntilRead_6 : decode cX3_hoursUntilRead 6 = .ok (.getfield 65, 3) := by decide +kernel
theorem dX3_hoursUntilRead_9 : decode cX3_hoursUntilRead 9 = .ok (.aload_n 0, 1) := by decide +kernel
theorem dX3_hoursUntilRead_10 : decode cX3_hoursUntilRead 10 = .ok (.iload_n 1, 1) := by decide +kernel
theorem dX3_hoursUntilRead_11 : decode cX3_hoursUntilRead 11 = .ok (.invokevirtual 82, 3) := by decide +kernel
theorem dX3_hoursUntilRead_14 : decode cX3_hoursUntilRead 14 = .ok (.invokestatic 86, 3) := by decide +kernel
theorem dX3_hoursUntilRead_17 : decode cX3_hoursUntilRead 17 = .ok (.isub, 1) := by decide +kernel
theorem dX3_hoursUntilRead_18 : decode cX3_hoursUntilRead 18 = .ok (.ireturn, 1) := by decide +kernel
theorem dX3_countInRow_0 : decode cX3_countInRow 0 = .ok (.iconst 0, 1) := by decide +kernel
theorem dX3_countInRow_1 : decode cX3_countInRow 1 = .ok (.istore_n 2, 1) := by decide +kernel
theorem dX3_countInRow_2 : decode cX3_countInRow 2 = .ok (.iconst 0, 1) := by decide +kernel
theorem dX3_countInRow_3 : decode cX3_countInRow 3 = .ok (.istore_n 3, 1) := by decide +kernel
theorem dX3_countInRow_4 : decode cX3_countInRow 4 = .ok (.iload_n 3, 1) := by decide +kernel
theorem dX3_countInRow_5 : decode cX3_countInRow 5 = .ok (.aload_n 0, 1) := by decide +kernel
theorem dX3_countInRow_6 : decode cX3_countInRow 6 = .ok (.getfield 50, 3) := by decide +kernel
theorem dX3_countInRow_9 : decode cX3_countInRow 9 = .ok (.if_icmp .ge 24, 3) := by decide +kernel
theorem dX3_countInRow_12 : decode cX3_countInRow 12 = .ok (.aload_n 0, 1) := by decide +kernel
theorem dX3_countInRow_13 : decode cX3_countInRow 13 = .ok (.iload_n 3, 1) := by decide +kernel
theorem dX3_countInRow_14 : decode cX3_countInRow 14 = .ok (.invokevirtual 53, 3) := by decide +kernel
theorem dX3_countInRow_17 : decode cX3_countInRow 17 = .ok (.getfield 90, 3) := by decide +kernel
theorem dX3_countInRow_20 : decode cX3_countInRow 20 = .ok (.iload_n 1, 1) := by decide +kernel
theorem dX3_countInRow_21 : decode cX3_countInRow 21 = .ok (.if_icmp .ne 6, 3) := by decide +kernel
theorem dX3_countInRow_24 : decode cX3_countInRow 24 = .ok (.iinc 2 1, 3) := by decide +kernel
theorem dX3_countInRow_27 : decode cX3_countInRow 27 = .ok (.iinc 3 1, 3) := by decide +kernel
theorem dX3_countInRow_30 : decode cX3_countInRow 30 = .ok (.goto (-26), 3) := by decide +kernel
theorem dX3_countInRow_33 : decode cX3_countInRow 33 = .ok (.iload_n 2, 1) := by decide +kernel
theorem dX3_countInRow_34 : decode cX3_countInRow 34 = .ok (.ireturn, 1) := by decide +kernel
theorem dX3_passHours_0 : decode cX3_passHours 0 = .ok (.iconst 0, 1) := by decide +kernel
theorem dX3_passHours_1 : decode cX3_passHours 1 = .ok (.istore_n 3, 1) := by decide +kernel
theorem dX3_passHours_2 : decode cX3_passHours 2 = .ok (.iload_n 3, 1) := by decide +kernel
theorem dX3_passHours_3 : decode cX3_passHours 3 = .ok (.iload_n 1, 1) := by decide +kernel
theorem dX3_passHours_4 : decode cX3_passHours 4 = .ok (.if_icmp .ge 36, 3) := by decide +kernel
theorem dX3_passHours_7 : decode cX3_passHours 7 = .ok (.aload_n 0, 1) := by decide +kernel
theorem dX3_passHours_8 : decode cX3_passHours 8 = .ok (.getfield 41, 3) := by decide +kernel
theorem dX3_passHours_11 : decode cX3_passHours 11 = .ok (.iload_n 2, 1) := by decide +kernel
theorem dX3_passHours_12 : decode cX3_passHours 12 = .ok (.iadd, 1) := by decide +kernel
theorem dX3_passHours_13 : decode cX3_passHours 13 = .ok (.istore 4, 2) := by decide +kernel
theorem dX3_passHours_15 : decode cX3_passHours 15 = .ok (.aload_n 0, 1) := by decide +kernel
theorem dX3_passHours_16 : decode cX3_passHours 16 = .ok (.sipush (-5000), 3) := by decide +kernel
theorem dX3_passHours_19 : decode cX3_passHours 19 = .ok (.sipush 5000, 3) := by decide +kernel
theorem dX3_passHours_22 : decode cX3_passHours 22 = .ok (.iload 4, 2) := by decide +kernel
theorem dX3_passHours_24 : decode cX3_passHours 24 = .ok (.invokestatic 93, 3) := by decide +kernel
theorem dX3_passHours_27 : decode cX3_passHours 27 = .ok (.invokestatic 98, 3) := by decide +kernel
theorem dX3_passHours_30 : decode cX3_passHours 30 = .ok (.invokevirtual 101, 3) := by decide +kernel
theorem dX3_passHours_33 : decode cX3_passHours 33 = .ok (.pop, 1) := by decide +kernel
theorem dX3_passHours_34 : decode cX3_passHours 34 = .ok (.iinc 3 1, 3) := by decide +kernel
theorem dX3_passHours_37 : decode cX3_passHours 37 = .ok (.goto (-35), 3) := by decide +kernel
theorem dX3_passHours_40 : decode cX3_passHours 40 = .ok (.return_, 1) := by decide +kernel
theorem dX3_passHour_0 : decode cX3_passHour 0 = .ok (.aload_n 0, 1) := by decide +kernel
theorem dX3_passHour_1 : decode cX3_passHour 1 = .ok (.aload_n 0, 1) := by decide +kernel
theorem dX3_passHour_2 : decode cX3_passHour 2 = .ok (.invokevirtual 104, 3) := by decide +kernel
theorem dX3_passHour_5 : decode cX3_passHour 5 = .ok (.putfield 37, 3) := by decide +kernel
theorem dX3_passHour_8 : decode cX3_passHour 8 = .ok (.aload_n 0, 1) := by decide +kernel
theorem dX3_passHour_9 : decode cX3_passHour 9 = .ok (.dup, 1) := by decide +kernel
theorem dX3_passHour_10 : decode cX3_passHour 10 = .ok (.getfield 65, 3) := by decide +kernel
theorem dX3_passHour_13 : decode cX3_passHour 13 = .ok (.iconst 1, 1) := by decide +kernel
theorem dX3_passHour_14 : decode cX3_passHour 14 = .ok (.iadd, 1) := by decide +kernel
theorem dX3_passHour_15 : decode cX3_passHour 15 = .ok (.putfield 65, 3) := by decide +kernel
theorem dX3_passHour_18 : decode cX3_passHour 18 = .ok (.aload_n 0, 1) := by decide +kernel
theorem dX3_passHour_19 : decode cX3_passHour 19 = .ok (.iload_n 1, 1) := by decide +kernel
theorem dX3_passHour_20 : decode cX3_passHour 20 = .ok (.putfield 41, 3) := by decide +kernel
theorem dX3_passHour_23 : decode cX3_passHour 23 = .ok (.iconst 0, 1) := by decide +kernel
theorem dX3_passHour_24 : decode cX3_passHour 24 = .ok (.istore_n 2, 1) := by decide +kernel
theorem dX3_passHour_25 : decode cX3_passHour 25 = .ok (.iload_n 2, 1) := by decide +kernel
theorem dX3_passHour_26 : decode cX3_passHour 26 = .ok (.aload_n 0, 1) := by decide +kernel
theorem dX3_passHour_27 : decode cX3_passHour 27 = .ok (.getfield 50, 3) := by decide +kernel
theorem dX3_passHour_30 : decode cX3_passHour 30 = .ok (.if_icmp .ge 21, 3) := by decide +kernel
theorem dX3_passHour_33 : decode cX3_passHour 33 = .ok (.aload_n 0, 1) := by decide +kernel
theorem dX3_passHour_34 : decode cX3_passHour 34 = .ok (.iload_n 2, 1) := by decide +kernel
theorem dX3_passHour_35 : decode cX3_passHour 35 = .ok (.invokevirtual 53, 3) := by decide +kernel
theorem dX3_passHour_38 : decode cX3_passHour 38 = .ok (.aload_n 0, 1) := by decide +kernel
theorem dX3_passHour_39 : decode cX3_passHour 39 = .ok (.getfield 41, 3) := by decide +kernel
theorem dX3_passHour_42 : decode cX3_passHour 42 = .ok (.invokevirtual 108, 3) := by decide +kernel
theorem dX3_passHour_45 : decode cX3_passHour 45 = .ok (.iinc 2 1, 3) := by decide +kernel
theorem dX3_passHour_48 : decode cX3_passHour 48 = .ok (.goto (-23), 3) := by decide +kernel
theorem dX3_passHour_51 : decode cX3_passHour 51 = .ok (.aload_n 0, 1) := by decide +kernel
theorem dX3_passHour_52 : decode cX3_passHour 52 = .ok (.getfield 68, 3) := by decide +kernel
theorem dX3_passHour_55 : decode cX3_passHour 55 = .ok (.istore_n 2, 1) := by decide +kernel
theorem dX3_passHour_56 : decode cX3_passHour 56 = .ok (.aload_n 0, 1) := by decide +kernel
theorem dX3_passHour_57 : decode cX3_passHour 57 = .ok (.invokevirtual 112, 3) := by decide +kernel
theorem dX3_passHour_60 : decode cX3_passHour 60 = .ok (.aload_n 0, 1) := by decide +kernel
theorem dX3_passHour_61 : decode cX3_passHour 61 = .ok (.getfield 68, 3) := by decide +kernel
theorem dX3_passHour_64 : decode cX3_passHour 64 = .ok (.iload_n 2, 1) := by decide +kernel
theorem dX3_passHour_65 : decode cX3_passHour 65 = .ok (.if_icmp .le 7, 3) := by decide +kernel
theorem dX3_passHour_68 : decode cX3_passHour 68 = .ok (.aload_n 0, 1) := by decide +kernel
theorem dX3_passHour_69 : decode cX3_passHour 69 = .ok (.invokevirtual 115, 3) := by decide +kernel
theorem dX3_passHour_72 : decode cX3_passHour 72 = .ok (.aload_n 0, 1) := by decide +kernel
theorem dX3_passHour_73 : decode cX3_passHour 73 = .ok (.getfield 68, 3) := by decide +kernel
theorem dX3_passHour_76 : decode cX3_passHour 76 = .ok (.iload_n 2, 1) := by decide +kernel
theorem dX3_passHour_77 : decode cX3_passHour 77 = .ok (.isub, 1) := by decide +kernel
theorem dX3_passHour_78 : decode cX3_passHour 78 = .ok (.ireturn, 1) := by decide +kernel
theorem dX3_readRows_0 : decode cX3_readRows 0 = .ok (.iconst 0, 1) := by decide +kernel
theorem dX3_readRows_1 : decode cX3_readRows 1 = .ok (.istore_n 1, 1) := by decide +kernel
theorem dX3_readRows_2 : decode cX3_readRows 2 = .ok (.iload_n 1, 1) := by decide +kernel
theorem dX3_readRows_3 : decode cX3_readRows 3 = .ok (.aload_n 0, 1) := by decide +kernel
theorem dX3_readRows_4 : decode cX3_readRows 4 = .ok (.getfield 26, 3) := by decide +kernel
theorem dX3_readRows_7 : decode cX3_readRows 7 = .ok (.arraylength, 1) := by decide +kernel
theorem dX3_readRows_8 : decode cX3_readRows 8 = .ok (.if_icmp .ge 27, 3) := by decide +kernel
theorem dX3_readRows_11 : decode cX3_readRows 11 = .ok (.aload_n 0, 1) := by decide +kernel
theorem dX3_readRows_12 : decode cX3_readRows 12 = .ok (.iload_n 1, 1) := by decide +kernel
theorem dX3_readRows_13 : decode cX3_readRows 13 = .ok (.invokevirtual 118, 3) := by decide +kernel
theorem dX3_readRows_16 : decode cX3_readRows 16 = .ok (.ifCond .eq 13, 3) := by decide +kernel
theorem dX3_readRows_19 : decode cX3_readRows 19 = .ok (.aload_n 0, 1) := by decide +kernel
theorem dX3_readRows_20 : decode cX3_readRows 20 = .ok (.getfield 26, 3) := by decide +kernel
theorem dX3_readRows_23 : decode cX3_readRows 23 = .ok (.iload_n 1, 1) := by decide +kernel
theorem dX3_readRows_24 : decode cX3_readRows 24 = .ok (.dup2, 1) := by decide +kernel
theorem dX3_readRows_25 : decode cX3_readRows 25 = .ok (.iaload, 1) := by decide +kernel
theorem dX3_readRows_26 : decode cX3_readRows 26 = .ok (.iconst 1, 1) := by decide +kernel
theorem dX3_readRows_27 : decode cX3_readRows 27 = .ok (.iadd, 1) := by decide +kernel
theorem dX3_readRows_28 : decode cX3_readRows 28 = .ok (.iastore, 1) := by decide +kernel
theorem dX3_readRows_29 : decode cX3_readRows 29 = .ok (.iinc 1 1, 3) := by decide +kernel
theorem dX3_readRows_32 : decode cX3_readRows 32 = .ok (.goto (-30), 3) := by decide +kernel
theorem dX3_readRows_35 : decode cX3_readRows 35 = .ok (.iconst 0, 1) := by decide +kernel
theorem dX3_readRows_36 : decode cX3_readRows 36 = .ok (.istore_n 1, 1) := by decide +kernel
theorem dX3_readRows_37 : decode cX3_readRows 37 = .ok (.iload_n 1, 1) := by decide +kernel
theorem dX3_readRows_38 : decode cX3_readRows 38 = .ok (.aload_n 0, 1) := by decide +kernel
theorem dX3_readRows_39 : decode cX3_readRows 39 = .ok (.getfield 50, 3) := by decide +kernel
theorem dX3_readRows_42 : decode cX3_readRows 42 = .ok (.if_icmp .ge 46, 3) := by decide +kernel
theorem dX3_readRows_45 : decode cX3_readRows 45 = .ok (.aload_n 0, 1) := by decide +kernel
theorem dX3_readRows_46 : decode cX3_readRows 46 = .ok (.aload_n 0, 1) := by decide +kernel
theorem dX3_readRows_47 : decode cX3_readRows 47 = .ok (.iload_n 1, 1) := by decide +kernel
theorem dX3_readRows_48 : decode cX3_readRows 48 = .ok (.invokevirtual 53, 3) := by decide +kernel
theorem dX3_readRows_51 : decode cX3_readRows 51 = .ok (.getfield 90, 3) := by decide +kernel
theorem dX3_readRows_54 : decode cX3_readRows 54 = .ok (.invokevirtual 118, 3) := by decide +kernel
theorem dX3_readRows_57 : decode cX3_readRows 57 = .ok (.ifCond .eq 25, 3) := by decide +kernel
theorem dX3_readRows_60 : decode cX3_readRows 60 = .ok (.aload_n 0, 1) := by decide +kernel
theorem dX3_readRows_61 : decode cX3_readRows 61 = .ok (.iload_n 1, 1) := by decide +kernel
theorem dX3_readRows_62 : decode cX3_readRows 62 = .ok (.invokevirtual 53, 3) := by decide +kernel
theorem dX3_readRows_65 : decode cX3_readRows 65 = .ok (.aload_n 0, 1) := by decide +kernel
theorem dX3_readRows_66 : decode cX3_readRows 66 = .ok (.getfield 65, 3) := by decide +kernel
theorem dX3_readRows_69 : decode cX3_readRows 69 = .ok (.invokevirtual 122, 3) := by decide +kernel
theorem dX3_readRows_72 : decode cX3_readRows 72 = .ok (.aload_n 0, 1) := by decide +kernel
theorem dX3_readRows_73 : decode cX3_readRows 73 = .ok (.dup, 1) := by decide +kernel
theorem dX3_readRows_74 : decode cX3_readRows 74 = .ok (.getfield 68, 3) := by decide +kernel
theorem dX3_readRows_77 : decode cX3_readRows 77 = .ok (.iconst 1, 1) := by decide +kernel
theorem dX3_readRows_78 : decode cX3_readRows 78 = .ok (.iadd, 1) := by decide +kernel
theorem dX3_readRows_79 : decode cX3_readRows 79 = .ok (.putfield 68, 3) := by decide +kernel
theorem dX3_readRows_82 : decode cX3_readRows 82 = .ok (.iinc 1 1, 3) := by decide +kernel
theorem dX3_readRows_85 : decode cX3_readRows 85 = .ok (.goto (-48), 3) := by decide +kernel
theorem dX3_readRows_88 : decode cX3_readRows 88 = .ok (.return_, 1) := by decide +kernel
theorem dX3_isReadNow_0 : decode cX3_isReadNow 0 = .ok (.aload_n 0, 1) := by decide +kernel
theorem dX3_isReadNow_1 : decode cX3_isReadNow 1 = .ok (.getfield 65, 3) := by decide +kernel
theorem dX3_isReadNow_4 : decode cX3_isReadNow 4 = .ok (.aload_n 0, 1) := by decide +kernel
theorem dX3_isReadNow_5 : decode cX3_isReadNow 5 = .ok (.iload_n 1, 1) := by decide +kernel
theorem dX3_isReadNow_6 : decode cX3_isReadNow 6 = .ok (.invokevirtual 82, 3) := by decide +kernel
theorem dX3_isReadNow_9 : decode cX3_isReadNow 9 = .ok (.invokestatic 86, 3) := by decide +kernel
theorem dX3_isReadNow_12 : decode cX3_isReadNow 12 = .ok (.ifCond .ne 7, 3) := by decide +kernel
theorem dX3_isReadNow_15 : decode cX3_isReadNow 15 = .ok (.iconst 1, 1) := by decide +kernel
theorem dX3_isReadNow_16 : decode cX3_isReadNow 16 = .ok (.goto 4, 3) := by decide +kernel
theorem dX3_isReadNow_19 : decode cX3_isReadNow 19 = .ok (.iconst 0, 1) := by decide +kernel
theorem dX3_isReadNow_20 : decode cX3_isReadNow 20 = .ok (.ireturn, 1) := by decide +kernel
theorem dX3_lookForSpikes_0 : decode cX3_lookForSpikes 0 = .ok (.aload_n 0, 1) := by decide +kernel
theorem dX3_lookForSpikes_1 : decode cX3_lookForSpikes 1 = .ok (.invokevirtual 125, 3) := by decide +kernel
theorem dX3_lookForSpikes_4 : decode cX3_lookForSpikes 4 = .ok (.invokestatic 128, 3) := by decide +kernel
theorem dX3_lookForSpikes_7 : decode cX3_lookForSpikes 7 = .ok (.iconst 2, 1) := by decide +kernel
theorem dX3_lookForSpikes_8 : decode cX3_lookForSpikes 8 = .ok (.if_icmp .ge 4, 3) := by decide +kernel
theorem dX3_lookForSpikes_11 : decode cX3_lookForSpikes 11 = .ok (.return_, 1) := by decide +kernel
theorem dX3_lookForSpikes_12 : decode cX3_lookForSpikes 12 = .ok (.iconst 0, 1) := by decide +kernel
theorem dX3_lookForSpikes_13 : decode cX3_lookForSpikes 13 = .ok (.istore_n 1, 1) := by decide +kernel
theorem dX3_lookForSpikes_14 : decode cX3_lookForSpikes 14 = .ok (.iload_n 1, 1) := by decide +kernel
theorem dX3_lookForSpikes_15 : decode cX3_lookForSpikes 15 = .ok (.aload_n 0, 1) := by decide +kernel
theorem dX3_lookForSpikes_16 : decode cX3_lookForSpikes 16 = .ok (.getfield 50, 3) := by decide +kernel
theorem dX3_lookForSpikes_19 : decode cX3_lookForSpikes 19 = .ok (.if_icmp .ge 29, 3) := by decide +kernel
theorem dX3_lookForSpikes_22 : decode cX3_lookForSpikes 22 = .ok (.aload_n 0, 1) := by decide +kernel
theorem dX3_lookForSpikes_23 : decode cX3_lookForSpikes 23 = .ok (.iload_n 1, 1) := by decide +kernel
theorem dX3_lookForSpikes_24 : decode cX3_lookForSpikes 24 = .ok (.invokevirtual 53, 3) := by decide +kernel
theorem dX3_lookForSpikes_27 : decode cX3_lookForSpikes 27 = .ok (.aload_n 0, 1) := by decide +kernel
theorem dX3_lookForSpikes_28 : decode cX3_lookForSpikes 28 = .ok (.getfield 65, 3) := by decide +kernel
theorem dX3_lookForSpikes_31 : decode cX3_lookForSpikes 31 = .ok (.invokevirtual 133, 3) := by decide +kernel
theorem dX3_lookForSpikes_34 : decode cX3_lookForSpikes 34 = .ok (.ifCond .eq 8, 3) := by decide +kernel
theorem dX3_lookForSpikes_37 : decode cX3_lookForSpikes 37 = .ok (.aload_n 0, 1) := by decide +kernel
theorem dX3_lookForSpikes_38 : decode cX3_lookForSpikes 38 = .ok (.iload_n 1, 1) := by decide +kernel
theorem dX3_lookForSpikes_39 : decode cX3_lookForSpikes 39 = .ok (.invokevirtual 136, 3) := by decide +kernel
theorem dX3_lookForSpikes_42 : decode cX3_lookForSpikes 42 = .ok (.iinc 1 1, 3) := by decide +kernel
theorem dX3_lookForSpikes_45 : decode cX3_lookForSpikes 45 = .ok (.goto (-31), 3) := by decide +kernel
theorem dX3_lookForSpikes_48 : decode cX3_lookForSpikes 48 = .ok (.iconst 0, 1) := by decide +kernel
theorem dX3_lookForSpikes_49 : decode cX3_lookForSpikes 49 = .ok (.istore_n 1, 1) := by decide +kernel
theorem dX3_lookForSpikes_50 : decode cX3_lookForSpikes 50 = .ok (.iload_n 1, 1) := by decide +kernel
theorem dX3_lookForSpikes_51 : decode cX3_lookForSpikes 51 = .ok (.aload_n 0, 1) := by decide +kernel
theorem dX3_lookForSpikes_52 : decode cX3_lookForSpikes 52 = .ok (.getfield 50, 3) := by decide +kernel
theorem dX3_lookForSpikes_55 : decode cX3_lookForSpikes 55 = .ok (.if_icmp .ge 36, 3) := by decide +kernel
theorem dX3_lookForSpikes_58 : decode cX3_lookForSpikes 58 = .ok (.aload_n 0, 1) := by decide +kernel
theorem dX3_lookForSpikes_59 : decode cX3_lookForSpikes 59 = .ok (.iload_n 1, 1) := by decide +kernel
theorem dX3_lookForSpikes_60 : decode cX3_lookForSpikes 60 = .ok (.invokevirtual 53, 3) := by decide +kernel
theorem dX3_lookForSpikes_63 : decode cX3_lookForSpikes 63 = .ok (.aload_n 0, 1) := by decide +kernel
theorem dX3_lookForSpikes_64 : decode cX3_lookForSpikes 64 = .ok (.getfield 65, 3) := by decide +kernel
theorem dX3_lookForSpikes_67 : decode cX3_lookForSpikes 67 = .ok (.invokevirtual 133, 3) := by decide +kernel
theorem dX3_lookForSpikes_70 : decode cX3_lookForSpikes 70 = .ok (.ifCond .eq 15, 3) := by decide +kernel
theorem dX3_lookForSpikes_73 : decode cX3_lookForSpikes 73 = .ok (.aload_n 0, 1) := by decide +kernel
theorem dX3_lookForSpikes_74 : decode cX3_lookForSpikes 74 = .ok (.iload_n 1, 1) := by decide +kernel
theorem dX3_lookForSpikes_75 : decode cX3_lookForSpikes 75 = .ok (.invokevirtual 53, 3) := by decide +kernel
theorem dX3_lookForSpikes_78 : decode cX3_lookForSpikes 78 = .ok (.aload_n 0, 1) := by decide +kernel
theorem dX3_lookForSpikes_79 : decode cX3_lookForSpikes 79 = .ok (.getfield 47, 3) := by decide +kernel
theorem dX3_lookForSpikes_82 : decode cX3_lookForSpikes 82 = .ok (.invokevirtual 139, 3) := by decide +kernel
theorem dX3_lookForSpikes_85 : decode cX3_lookForSpikes 85 = .ok (.iinc 1 1, 3) := by decide +kernel
theorem dX3_lookForSpikes_88 : decode cX3_lookForSpikes 88 = .ok (.goto (-38), 3) := by decide +kernel
theorem dX3_lookForSpikes_91 : decode cX3_lookForSpikes 91 = .ok (.return_, 1) := by decide +kernel
theorem dX3_compareWithOthers_0 : decode cX3_compareWithOthers 0 = .ok (.aload_n 0, 1) := by decide +kernel
theorem dX3_compareWithOthers_1 : decode cX3_compareWithOthers 1 = .ok (.iload_n 1, 1) := by decide +kernel
theorem dX3_compareWithOthers_2 : decode cX3_compareWithOthers 2 = .ok (.invokevirtual 53, 3) := by decide +kernel
theorem dX3_compareWithOthers_5 : decode cX3_compareWithOthers 5 = .ok (.getfield 142, 3) := by decide +kernel
theorem dX3_compareWithOthers_8 : decode cX3_compareWithOthers 8 = .ok (.istore_n 2, 1) := by decide +kernel
theorem dX3_compareWithOthers_9 : decode cX3_compareWithOthers 9 = .ok (.aload_n 0, 1) := by decide +kernel
theorem dX3_compareWithOthers_10 : decode cX3_compareWithOthers 10 = .ok (.iload_n 1, 1) := by decide +kernel
theorem dX3_compareWithOthers_11 : decode cX3_compareWithOthers 11 = .ok (.invokevirtual 53, 3) := by decide +kernel
theorem dX3_compareWithOthers_14 : decode cX3_compareWithOthers 14 = .ok (.aload_n 0, 1) := by decide +kernel
theorem dX3_compareWithOthers_15 : decode cX3_compareWithOthers 15 = .ok (.iload_n 1, 1) := by decide +kernel
theorem dX3_compareWithOthers_16 : decode cX3_compareWithOthers 16 = .ok (.invokevirtual 143, 3) := by decide +kernel
theorem dX3_compareWithOthers_19 : decode cX3_compareWithOthers 19 = .ok (.aload_n 0, 1) := by decide +kernel
theorem dX3_compareWithOthers_20 : decode cX3_compareWithOthers 20 = .ok (.getfield 44, 3) := by decide +kernel
theorem dX3_compareWithOthers_23 : decode cX3_compareWithOthers 23 = .ok (.invokevirtual 146, 3) := by decide +kernel
theorem dX3_compareWithOthers_26 : decode cX3_compareWithOthers 26 = .ok (.aload_n 0, 1) := by decide +kernel
theorem dX3_compareWithOthers_27 : decode cX3_compareWithOthers 27 = .ok (.dup, 1) := by decide +kernel
theorem dX3_compareWithOthers_28 : decode cX3_compareWithOthers 28 = .ok (.getfield 71, 3) := by decide +kernel
theorem dX3_compareWithOthers_31 : decode cX3_compareWithOthers 31 = .ok (.aload_n 0, 1) := by decide +kernel
theorem dX3_compareWithOthers_32 : decode cX3_compareWithOthers 32 = .ok (.iload_n 1, 1) := by decide +kernel
theorem dX3_compareWithOthers_33 : decode cX3_compareWithOthers 33 = .ok (.invokevirtual 53, 3) := by decide +kernel
theorem dX3_compareWithOthers_36 : decode cX3_compareWithOthers 36 = .ok (.getfield 142, 3) := by decide +kernel
theorem dX3_compareWithOthers_39 : decode cX3_compareWithOthers 39 = .ok (.iload_n 2, 1) := by decide +kernel
theorem dX3_compareWithOthers_40 : decode cX3_compareWithOthers 40 = .ok (.isub, 1) := by decide +kernel
theorem dX3_compareWithOthers_41 : decode cX3_compareWithOthers 41 = .ok (.iadd, 1) := by decide +kernel
theorem dX3_compareWithOthers_42 : decode cX3_compareWithOthers 42 = .ok (.putfield 71, 3) := by decide +kernel
theorem dX3_compareWithOthers_45 : decode cX3_compareWithOthers 45 = .ok (.return_, 1) := by decide +kernel
theorem dX3_middleWithout_0 : decode cX3_middleWithout 0 = .ok (.aload_n 0, 1) := by decide +kernel
theorem dX3_middleWithout_1 : decode cX3_middleWithout 1 = .ok (.getfield 32, 3) := by decide +kernel
theorem dX3_middleWithout_4 : decode cX3_middleWithout 4 = .ok (.invokevirtual 150, 3) := by decide +kernel
theorem dX3_middleWithout_7 : decode cX3_middleWithout 7 = .ok (.iconst 0, 1) := by decide +kernel
theorem dX3_middleWithout_8 : decode cX3_middleWithout 8 = .ok (.istore_n 2, 1) := by decide +kernel
theorem dX3_middleWithout_9 : decode cX3_middleWithout 9 = .ok (.iload_n 2, 1) := by decide +kernel
theorem dX3_middleWithout_10 : decode cX3_middleWithout 10 = .ok (.aload_n 0, 1) := by decide +kernel
theorem dX3_middleWithout_11 : decode cX3_middleWithout 11 = .ok (.getfield 50, 3) := by decide +kernel
theorem dX3_middleWithout_14 : decode cX3_middleWithout 14 = .ok (.if_icmp .ge 40, 3) := by decide +kernel
theorem dX3_middleWithout_17 : decode cX3_middleWithout 17 = .ok (.iload_n 2, 1) := by decide +kernel
theorem dX3_middleWithout_18 : decode cX3_middleWithout 18 = .ok (.iload_n 1, 1) := by decide +kernel
theorem dX3_middleWithout_19 : decode cX3_middleWithout 19 = .ok (.if_icmp .eq 29, 3) := by decide +kernel
theorem dX3_middleWithout_22 : decode cX3_middleWithout 22 = .ok (.aload_n 0, 1) := by decide +kernel
theorem dX3_middleWithout_23 : decode cX3_middleWithout 23 = .ok (.iload_n 2, 1) := by decide +kernel
theorem dX3_middleWithout_24 : decode cX3_middleWithout 24 = .ok (.invokevirtual 53, 3) := by decide +kernel
theorem dX3_middleWithout_27 : decode cX3_middleWithout 27 = .ok (.invokevirtual 153, 3) := by decide +kernel
theorem dX3_middleWithout_30 : decode cX3_middleWithout 30 = .ok (.ifCond .eq 18, 3) := by decide +kernel
theorem dX3_middleWithout_33 : decode cX3_middleWithout 33 = .ok (.aload_n 0, 1) := by decide +kernel
theorem dX3_middleWithout_34 : decode cX3_middleWithout 34 = .ok (.getfield 32, 3) := by decide +kernel
theorem dX3_middleWithout_37 : decode cX3_middleWithout 37 = .ok (.aload_n 0, 1) := by decide +kernel
theorem dX3_middleWithout_38 : decode cX3_middleWithout 38 = .ok (.iload_n 2, 1) := by decide +kernel
theorem dX3_middleWithout_39 : decode cX3_middleWithout 39 = .ok (.invokevirtual 53, 3) := by decide +kernel
theorem dX3_middleWithout_42 : decode cX3_middleWithout 42 = .ok (.getfield 157, 3) := by decide +kernel
theorem dX3_middleWithout_45 : decode cX3_middleWithout 45 = .ok (.invokevirtual 160, 3) := by decide +kernel
theorem dX3_middleWithout_48 : decode cX3_middleWithout 48 = .ok (.iinc 2 1, 3) := by decide +kernel
theorem dX3_middleWithout_51 : decode cX3_middleWithout 51 = .ok (.goto (-42), 3) := by decide +kernel
theorem dX3_middleWithout_54 : decode cX3_middleWithout 54 = .ok (.aload_n 0, 1) := by decide +kernel
theorem dX3_middleWithout_55 : decode cX3_middleWithout 55 = .ok (.getfield 32, 3) := by decide +kernel
theorem dX3_middleWithout_58 : decode cX3_middleWithout 58 = .ok (.invokevirtual 163, 3) := by decide +kernel
theorem dX3_middleWithout_61 : decode cX3_middleWithout 61 = .ok (.ireturn, 1) := by decide +kernel
theorem dX3_maskOfAsked_0 : decode cX3_maskOfAsked 0 = .ok (.iconst 0, 1) := by decide +kernel
theorem dX3_maskOfAsked_1 : decode cX3_maskOfAsked 1 = .ok (.istore_n 1, 1) := by decide +kernel
theorem dX3_maskOfAsked_2 : decode cX3_maskOfAsked 2 = .ok (.iconst 0, 1) := by decide +kernel
theorem dX3_maskOfAsked_3 : decode cX3_maskOfAsked 3 = .ok (.istore_n 2, 1) := by decide +kernel
theorem dX3_maskOfAsked_4 : decode cX3_maskOfAsked 4 = .ok (.iload_n 2, 1) := by decide +kernel
theorem dX3_maskOfAsked_5 : decode cX3_maskOfAsked 5 = .ok (.aload_n 0, 1) := by decide +kernel
theorem dX3_maskOfAsked_6 : decode cX3_maskOfAsked 6 = .ok (.getfield 50, 3) := by decide +kernel
theorem dX3_maskOfAsked_9 : decode cX3_maskOfAsked 9 = .ok (.if_icmp .ge 26, 3) := by decide +kernel
theorem dX3_maskOfAsked_12 : decode cX3_maskOfAsked 12 = .ok (.aload_n 0, 1) := by decide +kernel
theorem dX3_maskOfAsked_13 : decode cX3_maskOfAsked 13 = .ok (.iload_n 2, 1) := by decide +kernel
theorem dX3_maskOfAsked_14 : decode cX3_maskOfAsked 14 = .ok (.invokevirtual 53, 3) := by decide +kernel
theorem dX3_maskOfAsked_17 : decode cX3_maskOfAsked 17 = .ok (.invokevirtual 153, 3) := by decide +kernel
theorem dX3_maskOfAsked_20 : decode cX3_maskOfAsked 20 = .ok (.ifCond .eq 9, 3) := by decide +kernel
theorem dX3_maskOfAsked_23 : decode cX3_maskOfAsked 23 = .ok (.iload_n 1, 1) := by decide +kernel
theorem dX3_maskOfAsked_24 : decode cX3_maskOfAsked 24 = .ok (.iconst 1, 1) := by decide +kernel
theorem dX3_maskOfAsked_25 : decode cX3_maskOfAsked 25 = .ok (.iload_n 2, 1) := by decide +kernel
theorem dX3_maskOfAsked_26 : decode cX3_maskOfAsked 26 = .ok (.ishl, 1) := by decide +kernel
theorem dX3_maskOfAsked_27 : decode cX3_maskOfAsked 27 = .ok (.ior, 1) := by decide +kernel
theorem dX3_maskOfAsked_28 : decode cX3_maskOfAsked 28 = .ok (.istore_n 1, 1) := by decide +kernel
theorem dX3_maskOfAsked_29 : decode cX3_maskOfAsked 29 = .ok (.iinc 2 1, 3) := by decide +kernel
theorem dX3_maskOfAsked_32 : decode cX3_maskOfAsked 32 = .ok (.goto (-28), 3) := by decide +kernel
theorem dX3_maskOfAsked_35 : decode cX3_maskOfAsked 35 = .ok (.iload_n 1, 1) := by decide +kernel
theorem dX3_maskOfAsked_36 : decode cX3_maskOfAsked 36 = .ok (.ireturn, 1) := by decide +kernel
theorem dX3_maskOfShutOut_0 : decode cX3_maskOfShutOut 0 = .ok (.iconst 0, 1) := by decide +kernel
theorem dX3_maskOfShutOut_1 : decode cX3_maskOfShutOut 1 = .ok (.istore_n 1, 1) := by decide +kernel
theorem dX3_maskOfShutOut_2 : decode cX3_maskOfShutOut 2 = .ok (.iconst 0, 1) := by decide +kernel
theorem dX3_maskOfShutOut_3 : decode cX3_maskOfShutOut 3 = .ok (.istore_n 2, 1) := by decide +kernel
theorem dX3_maskOfShutOut_4 : decode cX3_maskOfShutOut 4 = .ok (.iload_n 2, 1) := by decide +kernel
theorem dX3_maskOfShutOut_5 : decode cX3_maskOfShutOut 5 = .ok (.aload_n 0, 1) := by decide +kernel
theorem dX3_maskOfShutOut_6 : decode cX3_maskOfShutOut 6 = .ok (.getfield 50, 3) := by decide +kernel
theorem dX3_maskOfShutOut_9 : decode cX3_maskOfShutOut 9 = .ok (.if_icmp .ge 26, 3) := by decide +kernel
theorem dX3_maskOfShutOut_12 : decode cX3_maskOfShutOut 12 = .ok (.aload_n 0, 1) := by decide +kernel
theorem dX3_maskOfShutOut_13 : decode cX3_maskOfShutOut 13 = .ok (.iload_n 2, 1) := by decide +kernel
theorem dX3_maskOfShutOut_14 : decode cX3_maskOfShutOut 14 = .ok (.invokevirtual 53, 3) := by decide +kernel
theorem dX3_maskOfShutOut_17 : decode cX3_maskOfShutOut 17 = .ok (.getfield 166, 3) := by decide +kernel
theorem dX3_maskOfShutOut_20 : decode cX3_maskOfShutOut 20 = .ok (.ifCond .eq 9, 3) := by decide +kernel
theorem dX3_maskOfShutOut_23 : decode cX3_maskOfShutOut 23 = .ok (.iload_n 1, 1) := by decide +kernel
theorem dX3_maskOfShutOut_24 : decode cX3_maskOfShutOut 24 = .ok (.iconst 1, 1) := by decide +kernel
theorem dX3_maskOfShutOut_25 : decode cX3_maskOfShutOut 25 = .ok (.iload_n 2, 1) := by decide +kernel
theorem dX3_maskOfShutOut_26 : decode cX3_maskOfShutOut 26 = .ok (.ishl, 1) := by decide +kernel
theorem dX3_maskOfShutOut_27 : decode cX3_maskOfShutOut 27 = .ok (.ior, 1) := by decide +kernel
theorem dX3_maskOfShutOut_28 : decode cX3_maskOfShutOut 28 = .ok (.istore_n 1, 1) := by decide +kernel
theorem dX3_maskOfShutOut_29 : decode cX3_maskOfShutOut 29 = .ok (.iinc 2 1, 3) := by decide +kernel
theorem dX3_maskOfShutOut_32 : decode cX3_maskOfShutOut 32 = .ok (.goto (-28), 3) := by decide +kernel
theorem dX3_maskOfShutOut_35 : decode cX3_maskOfShutOut 35 = .ok (.iload_n 1, 1) := by decide +kernel
theorem dX3_maskOfShutOut_36 : decode cX3_maskOfShutOut 36 = .ok (.ireturn, 1) := by decide +kernel
theorem dX3_mean_0 : decode cX3_mean 0 = .ok (.iconst 0, 1) := by decide +kernel
theorem dX3_mean_1 : decode cX3_mean 1 = .ok (.istore_n 1, 1) := by decide +kernel
theorem dX3_mean_2 : decode cX3_mean 2 = .ok (.iconst 0, 1) := by decide +kernel
theorem dX3_mean_3 : decode cX3_mean 3 = .ok (.istore_n 2, 1) := by decide +kernel
theorem dX3_mean_4 : decode cX3_mean 4 = .ok (.iconst 0, 1) := by decide +kernel
theorem dX3_mean_5 : decode cX3_mean 5 = .ok (.istore_n 3, 1) := by decide +kernel
theorem dX3_mean_6 : decode cX3_mean 6 = .ok (.iload_n 3, 1) := by decide +kernel
theorem dX3_mean_7 : decode cX3_mean 7 = .ok (.aload_n 0, 1) := by decide +kernel
theorem dX3_mean_8 : decode cX3_mean 8 = .ok (.getfield 50, 3) := by decide +kernel
theorem dX3_mean_11 : decode cX3_mean 11 = .ok (.if_icmp .ge 51, 3) := by decide +kernel
theorem dX3_mean_14 : decode cX3_mean 14 = .ok (.aload_n 0, 1) := by decide +kernel
theorem dX3_mean_15 : decode cX3_mean 15 = .ok (.iload_n 3, 1) := by decide +kernel
theorem dX3_mean_16 : decode cX3_mean 16 = .ok (.invokevirtual 53, 3) := by decide +kernel
theorem dX3_mean_19 : decode cX3_mean 19 = .ok (.invokevirtual 153, 3) := by decide +kernel
theorem dX3_mean_22 : decode cX3_mean 22 = .ok (.ifCond .eq 34, 3) := by decide +kernel
theorem dX3_mean_25 : decode cX3_mean 25 = .ok (.iload_n 1, 1) := by decide +kernel
theorem dX3_mean_26 : decode cX3_mean 26 = .ok (.aload_n 0, 1) := by decide +kernel
theorem dX3_mean_27 : decode cX3_mean 27 = .ok (.iload_n 3, 1) := by decide +kernel
theorem dX3_mean_28 : decode cX3_mean 28 = .ok (.invokevirtual 53, 3) := by decide +kernel
theorem dX3_mean_31 : decode cX3_mean 31 = .ok (.getfield 157, 3) := by decide +kernel
theorem dX3_mean_34 : decode cX3_mean 34 = .ok (.aload_n 0, 1) := by decide +kernel
theorem dX3_mean_35 : decode cX3_mean 35 = .ok (.iload_n 3, 1) := by decide +kernel
theorem dX3_mean_36 : decode cX3_mean 36 = .ok (.invokevirtual 53, 3) := by decide +kernel
theorem dX3_mean_39 : decode cX3_mean 39 = .ok (.getfield 170, 3) := by decide +kernel
theorem dX3_mean_42 : decode cX3_mean 42 = .ok (.imul, 1) := by decide +kernel
theorem dX3_mean_43 : decode cX3_mean 43 = .ok (.iadd, 1) := by decide +kernel
theorem dX3_mean_44 : decode cX3_mean 44 = .ok (.istore_n 1, 1) := by decide +kernel
theorem dX3_mean_45 : decode cX3_mean 45 = .ok (.iload_n 2, 1) := by decide +kernel
theorem dX3_mean_46 : decode cX3_mean 46 = .ok (.aload_n 0, 1) := by decide +kernel
theorem dX3_mean_47 : decode cX3_mean 47 = .ok (.iload_n 3, 1) := by decide +kernel
theorem dX3_mean_48 : decode cX3_mean 48 = .ok (.invokevirtual 53, 3) := by decide +kernel
theorem dX3_mean_51 : decode cX3_mean 51 = .ok (.getfield 170, 3) := by decide +kernel
theorem dX3_mean_54 : decode cX3_mean 54 = .ok (.iadd, 1) := by decide +kernel
theorem dX3_mean_55 : decode cX3_mean 55 = .ok (.istore_n 2, 1) := by decide +kernel
theorem dX3_mean_56 : decode cX3_mean 56 = .ok (.iinc 3 1, 3) := by decide +kernel
theorem dX3_mean_59 : decode cX3_mean 59 = .ok (.goto (-53), 3) := by decide +kernel
theorem dX3_mean_62 : decode cX3_mean 62 = .ok (.iload_n 2, 1) := by decide +kernel
theorem dX3_mean_63 : decode cX3_mean 63 = .ok (.ifCond .ne 8, 3) := by decide +kernel
theorem dX3_mean_66 : decode cX3_mean 66 = .ok (.ldc 36, 2) := by decide +kernel
theorem dX3_mean_68 : decode cX3_mean 68 = .ok (.goto 8, 3) := by decide +kernel
theorem dX3_mean_71 : decode cX3_mean 71 = .ok (.iload_n 1, 1) := by decide +kernel
theorem dX3_mean_72 : decode cX3_mean 72 = .ok (.iload_n 2, 1) := by decide +kernel
theorem dX3_mean_73 : decode cX3_mean 73 = .ok (.invokestatic 173, 3) := by decide +kernel
theorem dX3_mean_76 : decode cX3_mean 76 = .ok (.ireturn, 1) := by decide +kernel
theorem dX3_slope_0 : decode cX3_slope 0 = .ok (.aload_n 0, 1) := by decide +kernel
theorem dX3_slope_1 : decode cX3_slope 1 = .ok (.invokevirtual 104, 3) := by decide +kernel
theorem dX3_slope_4 : decode cX3_slope 4 = .ok (.istore_n 1, 1) := by decide +kernel
theorem dX3_slope_5 : decode cX3_slope 5 = .ok (.iload_n 1, 1) := by decide +kernel
theorem dX3_slope_6 : decode cX3_slope 6 = .ok (.ldc 36, 2) := by decide +kernel
theorem dX3_slope_8 : decode cX3_slope 8 = .ok (.if_icmp .eq 12, 3) := by decide +kernel
theorem dX3_slope_11 : decode cX3_slope 11 = .ok (.aload_n 0, 1) := by decide +kernel
theorem dX3_slope_12 : decode cX3_slope 12 = .ok (.getfield 37, 3) := by decide +kernel
theorem dX3_slope_15 : decode cX3_slope 15 = .ok (.ldc 36, 2) := by decide +kernel
theorem dX3_slope_17 : decode cX3_slope 17 = .ok (.if_icmp .ne 8, 3) := by decide +kernel
theorem dX3_slope_20 : decode cX3_slope 20 = .ok (.ldc 36, 2) := by decide +kernel
theorem dX3_slope_22 : decode cX3_slope 22 = .ok (.goto 9, 3) := by decide +kernel
theorem dX3_slope_25 : decode cX3_slope 25 = .ok (.iload_n 1, 1) := by decide +kernel
theorem dX3_slope_26 : decode cX3_slope 26 = .ok (.aload_n 0, 1) := by decide +kernel
theorem dX3_slope_27 : decode cX3_slope 27 = .ok (.getfield 37, 3) := by decide +kernel
theorem dX3_slope_30 : decode cX3_slope 30 = .ok (.isub, 1) := by decide +kernel
theorem dX3_slope_31 : decode cX3_slope 31 = .ok (.ireturn, 1) := by decide +kernel
theorem dX3_atRank_0 : decode cX3_atRank 0 = .ok (.iconst 0, 1) := by decide +kernel
theorem dX3_atRank_1 : decode cX3_atRank 1 = .ok (.istore_n 3, 1) := by decide +kernel
theorem dX3_atRank_2 : decode cX3_atRank 2 = .ok (.iload_n 3, 1) := by decide +kernel
theorem dX3_atRank_3 : decode cX3_atRank 3 = .ok (.aload_n 0, 1) := by decide +kernel
theorem dX3_atRank_4 : decode cX3_atRank 4 = .ok (.getfield 50, 3) := by decide +kernel
theorem dX3_atRank_7 : decode cX3_atRank 7 = .ok (.if_icmp .ge 32, 3) := by decide +kernel
theorem dX3_atRank_10 : decode cX3_atRank 10 = .ok (.aload_n 0, 1) := by decide +kernel
theorem dX3_atRank_11 : decode cX3_atRank 11 = .ok (.iload_n 3, 1) := by decide +kernel
theorem dX3_atRank_12 : decode cX3_atRank 12 = .ok (.invokevirtual 53, 3) := by decide +kernel
theorem dX3_atRank_15 : decode cX3_atRank 15 = .ok (.invokevirtual 176, 3) := by decide +kernel
theorem dX3_atRank_18 : decode cX3_atRank 18 = .ok (.ifCond .eq 15, 3) := by decide +kernel
theorem dX3_atRank_21 : decode cX3_atRank 21 = .ok (.aload_n 0, 1) := by decide +kernel
theorem dX3_atRank_22 : decode cX3_atRank 22 = .ok (.iload_n 3, 1) := by decide +kernel
theorem dX3_atRank_23 : decode cX3_atRank 23 = .ok (.iload_n 1, 1) := by decide +kernel
theorem dX3_atRank_24 : decode cX3_atRank 24 = .ok (.invokevirtual 179, 3) := by decide +kernel
theorem dX3_atRank_27 : decode cX3_atRank 27 = .ok (.iload_n 2, 1) := by decide +kernel
theorem dX3_atRank_28 : decode cX3_atRank 28 = .ok (.if_icmp .ne 5, 3) := by decide +kernel
theorem dX3_atRank_31 : decode cX3_atRank 31 = .ok (.iload_n 3, 1) := by decide +kernel
theorem dX3_atRank_32 : decode cX3_atRank 32 = .ok (.ireturn, 1) := by decide +kernel
theorem dX3_atRank_33 : decode cX3_atRank 33 = .ok (.iinc 3 1, 3) := by decide +kernel
theorem dX3_atRank_36 : decode cX3_atRank 36 = .ok (.goto (-34), 3) := by decide +kernel
theorem dX3_atRank_39 : decode cX3_atRank 39 = .ok (.ldc 36, 2) := by decide +kernel
theorem dX3_atRank_41 : decode cX3_atRank 41 = .ok (.ireturn, 1) := by decide +kernel
theorem dX3_countAheadOf_0 : decode cX3_countAheadOf 0 = .ok (.aload_n 0, 1) := by decide +kernel
theorem dX3_countAheadOf_1 : decode cX3_countAheadOf 1 = .ok (.iload_n 1, 1) := by decide +kernel
theorem dX3_countAheadOf_2 : decode cX3_countAheadOf 2 = .ok (.iload_n 2, 1) := by decide +kernel
theorem dX3_countAheadOf_3 : decode cX3_countAheadOf 3 = .ok (.invokevirtual 182, 3) := by decide +kernel
theorem dX3_countAheadOf_6 : decode cX3_countAheadOf 6 = .ok (.istore_n 3, 1) := by decide +kernel
theorem dX3_countAheadOf_7 : decode cX3_countAheadOf 7 = .ok (.iconst 0, 1) := by decide +kernel
theorem dX3_countAheadOf_8 : decode cX3_countAheadOf 8 = .ok (.istore 4, 2) := by decide +kernel
theorem dX3_countAheadOf_10 : decode cX3_countAheadOf 10 = .ok (.iconst 0, 1) := by decide +kernel
theorem dX3_countAheadOf_11 : decode cX3_countAheadOf 11 = .ok (.istore 5, 2) := by decide +kernel
theorem dX3_countAheadOf_13 : decode cX3_countAheadOf 13 = .ok (.iload 5, 2) := by decide +kernel
theorem dX3_countAheadOf_15 : decode cX3_countAheadOf 15 = .ok (.aload_n 0, 1) := by decide +kernel
theorem dX3_countAheadOf_16 : decode cX3_countAheadOf 16 = .ok (.getfield 50, 3) := by decide +kernel
theorem dX3_countAheadOf_19 : decode cX3_countAheadOf 19 = .ok (.if_icmp .ge 51, 3) := by decide +kernel
theorem dX3_countAheadOf_22 : decode cX3_countAheadOf 22 = .ok (.aload_n 0, 1) := by decide +kernel
theorem dX3_countAheadOf_23 : decode cX3_countAheadOf 23 = .ok (.iload 5, 2) := by decide +kernel
theorem dX3_countAheadOf_25 : decode cX3_countAheadOf 25 = .ok (.iload_n 2, 1) := by decide +kernel
theorem dX3_countAheadOf_26 : decode cX3_countAheadOf 26 = .ok (.invokevirtual 182, 3) := by decide +kernel
theorem dX3_countAheadOf_29 : decode cX3_countAheadOf 29 = .ok (.istore 6, 2) := by decide +kernel
theorem dX3_countAheadOf_31 : decode cX3_countAheadOf 31 = .ok (.aload_n 0, 1) := by decide +kernel
theorem dX3_countAheadOf_32 : decode cX3_countAheadOf 32 = .ok (.iload 5, 2) := by decide +kernel
theorem dX3_countAheadOf_34 : decode cX3_countAheadOf 34 = .ok (.invokevirtual 53, 3) := by decide +kernel
theorem dX3_countAheadOf_37 : decode cX3_countAheadOf 37 = .ok (.invokevirtual 176, 3) := by decide +kernel
theorem dX3_countAheadOf_40 : decode cX3_countAheadOf 40 = .ok (.ifCond .eq 24, 3) := by decide +kernel
theorem dX3_countAheadOf_43 : decode cX3_countAheadOf 43 = .ok (.iload 6, 2) := by decide +kernel
theorem dX3_countAheadOf_45 : decode cX3_countAheadOf 45 = .ok (.iload_n 3, 1) := by decide +kernel
theorem dX3_countAheadOf_46 : decode cX3_countAheadOf 46 = .ok (.if_icmp .lt 15, 3) := by decide +kernel
theorem dX3_countAheadOf_49 : decode cX3_countAheadOf 49 = .ok (.iload 6, 2) := by decide +kernel
theorem dX3_countAheadOf_51 : decode cX3_countAheadOf 51 = .ok (.iload_n 3, 1) := by decide +kernel
theorem dX3_countAheadOf_52 : decode cX3_countAheadOf 52 = .ok (.if_icmp .ne 12, 3) := by decide +kernel
theorem dX3_countAheadOf_55 : decode cX3_countAheadOf 55 = .ok (.iload 5, 2) := by decide +kernel
theorem dX3_countAheadOf_57 : decode cX3_countAheadOf 57 = .ok (.iload_n 1, 1) := by decide +kernel
theorem dX3_countAheadOf_58 : decode cX3_countAheadOf 58 = .ok (.if_icmp .ge 6, 3) := by decide +kernel
theorem dX3_countAheadOf_61 : decode cX3_countAheadOf 61 = .ok (.iinc 4 1, 3) := by decide +kernel
theorem dX3_countAheadOf_64 : decode cX3_countAheadOf 64 = .ok (.iinc 5 1, 3) := by decide +kernel
theorem dX3_countAheadOf_67 : decode cX3_countAheadOf 67 = .ok (.goto (-54), 3) := by decide +kernel
theorem dX3_countAheadOf_70 : decode cX3_countAheadOf 70 = .ok (.iload 4, 2) := by decide +kernel
theorem dX3_countAheadOf_72 : decode cX3_countAheadOf 72 = .ok (.ireturn, 1) := by decide +kernel
theorem dX3_sortKey_0 : decode cX3_sortKey 0 = .ok (.iload_n 2, 1) := by decide +kernel
theorem dX3_sortKey_1 : decode cX3_sortKey 1 = .ok (.iconst 1, 1) := by decide +kernel
theorem dX3_sortKey_2 : decode cX3_sortKey 2 = .ok (.if_icmp .ne 19, 3) := by decide +kernel
theorem dX3_sortKey_5 : decode cX3_sortKey 5 = .ok (.aload_n 0, 1) := by decide +kernel
theorem dX3_sortKey_6 : decode cX3_sortKey 6 = .ok (.iload_n 1, 1) := by decide +kernel
theorem dX3_sortKey_7 : decode cX3_sortKey 7 = .ok (.invokevirtual 53, 3) := by decide +kernel
theorem dX3_sortKey_10 : decode cX3_sortKey 10 = .ok (.aload_n 0, 1) := by decide +kernel
theorem dX3_sortKey_11 : decode cX3_sortKey 11 = .ok (.getfield 41, 3) := by decide +kernel
theorem dX3_sortKey_14 : decode cX3_sortKey 14 = .ok (.invokevirtual 185, 3) := by decide +kernel
theorem dX3_sortKey_17 : decode cX3_sortKey 17 = .ok (.ineg, 1) := by decide +kernel
theorem dX3_sortKey_18 : decode cX3_sortKey 18 = .ok (.goto 11, 3) := by decide +kernel
theorem dX3_sortKey_21 : decode cX3_sortKey 21 = .ok (.aload_n 0, 1) := by decide +kernel
theorem dX3_sortKey_22 : decode cX3_sortKey 22 = .ok (.iload_n 1, 1) := by decide +kernel
theorem dX3_sortKey_23 : decode cX3_sortKey 23 = .ok (.invokevirtual 53, 3) := by decide +kernel
theorem dX3_sortKey_26 : decode cX3_sortKey 26 = .ok (.getfield 157, 3) := by decide +kernel
theorem dX3_sortKey_29 : decode cX3_sortKey 29 = .ok (.ireturn, 1) := by decide +kernel
theorem dX3_countMended_0 : decode cX3_countMended 0 = .ok (.iconst 0, 1) := by decide +kernel
theorem dX3_countMended_1 : decode cX3_countMended 1 = .ok (.istore_n 1, 1) := by decide +kernel
theorem dX3_countMended_2 : decode cX3_countMended 2 = .ok (.iconst 0, 1) := by decide +kernel
theorem dX3_countMended_3 : decode cX3_countMended 3 = .ok (.istore_n 2, 1) := by decide +kernel
theorem dX3_countMended_4 : decode cX3_countMended 4 = .ok (.iload_n 2, 1) := by decide +kernel
theorem dX3_countMended_5 : decode cX3_countMended 5 = .ok (.aload_n 0, 1) := by decide +kernel
theorem dX3_countMended_6 : decode cX3_countMended 6 = .ok (.getfield 50, 3) := by decide +kernel
theorem dX3_countMended_9 : decode cX3_countMended 9 = .ok (.if_icmp .ge 23, 3) := by decide +kernel
theorem dX3_countMended_12 : decode cX3_countMended 12 = .ok (.aload_n 0, 1) := by decide +kernel
theorem dX3_countMended_13 : decode cX3_countMended 13 = .ok (.iload_n 2, 1) := by decide +kernel
theorem dX3_countMended_14 : decode cX3_countMended 14 = .ok (.invokevirtual 53, 3) := by decide +kernel
theorem dX3_countMended_17 : decode cX3_countMended 17 = .ok (.invokevirtual 176, 3) := by decide +kernel
theorem dX3_countMended_20 : decode cX3_countMended 20 = .ok (.ifCond .eq 6, 3) := by decide +kernel
theorem dX3_countMended_23 : decode cX3_countMended 23 = .ok (.iinc 1 1, 3) := by decide +kernel
theorem dX3_countMended_26 : decode cX3_countMended 26 = .ok (.iinc 2 1, 3) := by decide +kernel
theorem dX3_countMended_29 : decode cX3_countMended 29 = .ok (.goto (-25), 3) := by decide +kernel
theorem dX3_countMended_32 : decode cX3_countMended 32 = .ok (.iload_n 1, 1) := by decide +kernel
theorem dX3_countMended_33 : decode cX3_countMended 33 = .ok (.ireturn, 1) := by decide +kernel
theorem dX3_countMendedIn_0 : decode cX3_countMendedIn 0 = .ok (.iconst 0, 1) := by decide +kernel
theorem dX3_countMendedIn_1 : decode cX3_countMendedIn 1 = .ok (.istore_n 3, 1) := by decide +kernel
theorem dX3_countMendedIn_2 : decode cX3_countMendedIn 2 = .ok (.iconst 0, 1) := by decide +kernel
theorem dX3_countMendedIn_3 : decode cX3_countMendedIn 3 = .ok (.istore 4, 2) := by decide +kernel
theorem dX3_countMendedIn_5 : decode cX3_countMendedIn 5 = .ok (.iload 4, 2) := by decide +kernel
theorem dX3_countMendedIn_7 : decode cX3_countMendedIn 7 = .ok (.aload_n 0, 1) := by decide +kernel
theorem dX3_countMendedIn_8 : decode cX3_countMendedIn 8 = .ok (.getfield 50, 3) := by decide +kernel
theorem dX3_countMendedIn_11 : decode cX3_countMendedIn 11 = .ok (.if_icmp .ge 50, 3) := by decide +kernel
theorem dX3_countMendedIn_14 : decode cX3_countMendedIn 14 = .ok (.aload_n 0, 1) := by decide +kernel
theorem dX3_countMendedIn_15 : decode cX3_countMendedIn 15 = .ok (.iload 4, 2) := by decide +kernel
theorem dX3_countMendedIn_17 : decode cX3_countMendedIn 17 = .ok (.invokevirtual 53, 3) := by decide +kernel
theorem dX3_countMendedIn_20 : decode cX3_countMendedIn 20 = .ok (.invokevirtual 176, 3) := by decide +kernel
theorem dX3_countMendedIn_23 : decode cX3_countMendedIn 23 = .ok (.ifCond .eq 32, 3) := by decide +kernel
theorem dX3_countMendedIn_26 : decode cX3_countMendedIn 26 = .ok (.aload_n 0, 1) := by decide +kernel
theorem dX3_countMendedIn_27 : decode cX3_countMendedIn 27 = .ok (.iload 4, 2) := by decide +kernel
theorem dX3_countMendedIn_29 : decode cX3_countMendedIn 29 = .ok (.invokevirtual 53, 3) := by decide +kernel
theorem dX3_countMendedIn_32 : decode cX3_countMendedIn 32 = .ok (.getfield 157, 3) := by decide +kernel
theorem dX3_countMendedIn_35 : decode cX3_countMendedIn 35 = .ok (.iload_n 1, 1) := by decide +kernel
theorem dX3_countMendedIn_36 : decode cX3_countMendedIn 36 = .ok (.if_icmp .lt 19, 3) := by decide +kernel
theorem dX3_countMendedIn_39 : decode cX3_countMendedIn 39 = .ok (.aload_n 0, 1) := by decide +kernel
theorem dX3_countMendedIn_40 : decode cX3_countMendedIn 40 = .ok (.iload 4, 2) := by decide +kernel
theorem dX3_countMendedIn_42 : decode cX3_countMendedIn 42 = .ok (.invokevirtual 53, 3) := by decide +kernel
theorem dX3_countMendedIn_45 : decode cX3_countMendedIn 45 = .ok (.getfield 157, 3) := by decide +kernel
theorem dX3_countMendedIn_48 : decode cX3_countMendedIn 48 = .ok (.iload_n 2, 1) := by decide +kernel
theorem dX3_countMendedIn_49 : decode cX3_countMendedIn 49 = .ok (.if_icmp .gt 6, 3) := by decide +kernel
theorem dX3_countMendedIn_52 : decode cX3_countMendedIn 52 = .ok (.iinc 3 1, 3) := by decide +kernel
theorem dX3_countMendedIn_55 : decode cX3_countMendedIn 55 = .ok (.iinc 4 1, 3) := by decide +kernel
theorem dX3_countMendedIn_58 : decode cX3_countMendedIn 58 = .ok (.goto (-53), 3) := by decide +kernel
theorem dX3_countMendedIn_61 : decode cX3_countMendedIn 61 = .ok (.iload_n 3, 1) := by decide +kernel
theorem dX3_countMendedIn_62 : decode cX3_countMendedIn 62 = .ok (.ireturn, 1) := by decide +kernel
theorem dX3_sumOfErrors_0 : decode cX3_sumOfErrors 0 = .ok (.iconst 0, 1) := by decide +kernel
theorem dX3_sumOfErrors_1 : decode cX3_sumOfErrors 1 = .ok (.istore_n 1, 1) := by decide +kernel
theorem dX3_sumOfErrors_2 : decode cX3_sumOfErrors 2 = .ok (.iconst 0, 1) := by decide +kernel
theorem dX3_sumOfErrors_3 : decode cX3_sumOfErrors 3 = .ok (.istore_n 2, 1) := by decide +kernel
theorem dX3_sumOfErrors_4 : decode cX3_sumOfErrors 4 = .ok (.iload_n 2, 1) := by decide +kernel
theorem dX3_sumOfErrors_5 : decode cX3_sumOfErrors 5 = .ok (.aload_n 0, 1) := by decide +kernel
theorem dX3_sumOfErrors_6 : decode cX3_sumOfErrors 6 = .ok (.getfield 50, 3) := by decide +kernel
theorem dX3_sumOfErrors_9 : decode cX3_sumOfErrors 9 = .ok (.if_icmp .ge 35, 3) := by decide +kernel
theorem dX3_sumOfErrors_12 : decode cX3_sumOfErrors 12 = .ok (.aload_n 0, 1) := by decide +kernel
theorem dX3_sumOfErrors_13 : decode cX3_sumOfErrors 13 = .ok (.iload_n 2, 1) := by decide +kernel
theorem dX3_sumOfErrors_14 : decode cX3_sumOfErrors 14 = .ok (.invokevirtual 53, 3) := by decide +kernel
theorem dX3_sumOfErrors_17 : decode cX3_sumOfErrors 17 = .ok (.invokevirtual 176, 3) := by decide +kernel
theorem dX3_sumOfErrors_20 : decode cX3_sumOfErrors 20 = .ok (.ifCond .eq 18, 3) := by decide +kernel
theorem dX3_sumOfErrors_23 : decode cX3_sumOfErrors 23 = .ok (.iload_n 1, 1) := by decide +kernel
theorem dX3_sumOfErrors_24 : decode cX3_sumOfErrors 24 = .ok (.aload_n 0, 1) := by decide +kernel
theorem dX3_sumOfErrors_25 : decode cX3_sumOfErrors 25 = .ok (.iload_n 2, 1) := by decide +kernel
theorem dX3_sumOfErrors_26 : decode cX3_sumOfErrors 26 = .ok (.invokevirtual 53, 3) := by decide +kernel
theorem dX3_sumOfErrors_29 : decode cX3_sumOfErrors 29 = .ok (.aload_n 0, 1) := by decide +kernel
theorem dX3_sumOfErrors_30 : decode cX3_sumOfErrors 30 = .ok (.getfield 41, 3) := by decide +kernel
theorem dX3_sumOfErrors_33 : decode cX3_sumOfErrors 33 = .ok (.invokevirtual 185, 3) := by decide +kernel
theorem dX3_sumOfErrors_36 : decode cX3_sumOfErrors 36 = .ok (.iadd, 1) := by decide +kernel
theorem dX3_sumOfErrors_37 : decode cX3_sumOfErrors 37 = .ok (.istore_n 1, 1) := by decide +kernel
theorem dX3_sumOfErrors_38 : decode cX3_sumOfErrors 38 = .ok (.iinc 2 1, 3) := by decide +kernel
theorem dX3_sumOfErrors_41 : decode cX3_sumOfErrors 41 = .ok (.goto (-37), 3) := by decide +kernel
theorem dX3_sumOfErrors_44 : decode cX3_sumOfErrors 44 = .ok (.iload_n 1, 1) := by decide +kernel
theorem dX3_sumOfErrors_45 : decode cX3_sumOfErrors 45 = .ok (.ireturn, 1) := by decide +kernel
theorem dX3_greatestDistance_0 : decode cX3_greatestDistance 0 = .ok (.iconst 0, 1) := by decide +kernel
theorem dX3_greatestDistance_1 : decode cX3_greatestDistance 1 = .ok (.istore_n 1, 1) := by decide +kernel
theorem dX3_greatestDistance_2 : decode cX3_greatestDistance 2 = .ok (.iconst 0, 1) := by decide +kernel
theorem dX3_greatestDistance_3 : decode cX3_greatestDistance 3 = .ok (.istore_n 2, 1) := by decide +kernel
theorem dX3_greatestDistance_4 : decode cX3_greatestDistance 4 = .ok (.iload_n 2, 1) := by decide +kernel
theorem dX3_greatestDistance_5 : decode cX3_greatestDistance 5 = .ok (.aload_n 0, 1) := by decide +kernel
theorem dX3_greatestDistance_6 : decode cX3_greatestDistance 6 = .ok (.getfield 50, 3) := by decide +kernel
theorem dX3_greatestDistance_9 : decode cX3_greatestDistance 9 = .ok (.if_icmp .ge 26, 3) := by decide +kernel
theorem dX3_greatestDistance_12 : decode cX3_greatestDistance 12 = .ok (.iload_n 1, 1) := by decide +kernel
theorem dX3_greatestDistance_13 : decode cX3_greatestDistance 13 = .ok (.aload_n 0, 1) := by decide +kernel
theorem dX3_greatestDistance_14 : decode cX3_greatestDistance 14 = .ok (.iload_n 2, 1) := by decide +kernel
theorem dX3_greatestDistance_15 : decode cX3_greatestDistance 15 = .ok (.invokevirtual 53, 3) := by decide +kernel
theorem dX3_greatestDistance_18 : decode cX3_greatestDistance 18 = .ok (.aload_n 0, 1) := by decide +kernel
theorem dX3_greatestDistance_19 : decode cX3_greatestDistance 19 = .ok (.getfield 41, 3) := by decide +kernel
theorem dX3_greatestDistance_22 : decode cX3_greatestDistance 22 = .ok (.invokevirtual 188, 3) := by decide +kernel
theorem dX3_greatestDistance_25 : decode cX3_greatestDistance 25 = .ok (.invokestatic 98, 3) := by decide +kernel
theorem dX3_greatestDistance_28 : decode cX3_greatestDistance 28 = .ok (.istore_n 1, 1) := by decide +kernel
theorem dX3_greatestDistance_29 : decode cX3_greatestDistance 29 = .ok (.iinc 2 1, 3) := by decide +kernel
theorem dX3_greatestDistance_32 : decode cX3_greatestDistance 32 = .ok (.goto (-28), 3) := by decide +kernel
theorem dX3_greatestDistance_35 : decode cX3_greatestDistance 35 = .ok (.iload_n 1, 1) := by decide +kernel
theorem dX3_greatestDistance_36 : decode cX3_greatestDistance 36 = .ok (.ireturn, 1) := by decide +kernel
theorem dX4_init_0 : decode cX4_init 0 = .ok (.aload_n 0, 1) := by decide +kernel
theorem dX4_init_1 : decode cX4_init 1 = .ok (.invokespecial 1, 3) := by decide +kernel
theorem dX4_init_4 : decode cX4_init 4 = .ok (.aload_n 0, 1) := by decide +kernel
theorem dX4_init_5 : decode cX4_init 5 = .ok (.new 7, 3) := by decide +kernel
theorem dX4_init_8 : decode cX4_init 8 = .ok (.dup, 1) := by decide +kernel
theorem dX4_init_9 : decode cX4_init 9 = .ok (.invokespecial 9, 3) := by decide +kernel
theorem dX4_init_12 : decode cX4_init 12 = .ok (.putfield 10, 3) := by decide +kernel
theorem dX4_init_15 : decode cX4_init 15 = .ok (.return_, 1) := by decide +kernel
theorem dX4_take_0 : decode cX4_take 0 = .ok (.aload_n 0, 1) := by decide +kernel
theorem dX4_take_1 : decode cX4_take 1 = .ok (.getfield 10, 3) := by decide +kernel
theorem dX4_take_4 : decode cX4_take 4 = .ok (.aload_n 1, 1) := by decide +kernel
theorem dX4_take_5 : decode cX4_take 5 = .ok (.invokevirtual 16, 3) := by decide +kernel
theorem dX4_take_8 : decode cX4_take 8 = .ok (.aload_n 0, 1) := by decide +kernel
theorem dX4_take_9 : decode cX4_take 9 = .ok (.iconst 1, 1) := by decide +kernel
theorem dX4_take_10 : decode cX4_take 10 = .ok (.putfield 20, 3) := by decide +kernel
theorem dX4_take_13 : decode cX4_take 13 = .ok (.return_, 1) := by decide +kernel
theorem dX5_init_0 : decode cX5_init 0 = .ok (.aload_n 0, 1) := by decide +kernel
theorem dX5_init_1 : decode cX5_init 1 = .ok (.invokespecial 3, 3) := by decide +kernel
theorem dX5_init_4 : decode cX5_init 4 = .ok (.aload_n 0, 1) := by decide +kernel
theorem dX5_init_5 : decode cX5_init 5 = .ok (.bipush 6, 2) := by decide +kernel
theorem dX5_init_7 : decode cX5_init 7 = .ok (.newarray .int, 2) := by decide +kernel
theorem dX5_init_9 : decode cX5_init 9 = .ok (.putfield 9, 3) := by decide +kernel
theorem dX5_init_12 : decode cX5_init 12 = .ok (.aload_n 0, 1) := by decide +kernel
theorem dX5_init_13 : decode cX5_init 13 = .ok (.bipush 6, 2) := by decide +kernel
theorem dX5_init_15 : decode cX5_init 15 = .ok (.newarray .int, 2) := by decide +kernel
theorem dX5_init_17 : decode cX5_init 17 = .ok (.putfield 15, 3) := by decide +kernel
theorem dX5_init_20 : decode cX5_init 20 = .ok (.aload_n 0, 1) := by decide +kernel
theorem dX5_init_21 : decode cX5_init 21 = .ok (.iconst 1, 1) := by decide +kernel
theorem dX5_init_22 : decode cX5_init 22 = .ok (.putfield 18, 3) := by decide +kernel
theorem dX5_init_25 : decode cX5_init 25 = .ok (.aload_n 0, 1) := by decide +kernel
theorem dX5_init_26 : decode cX5_init 26 = .ok (.iconst 1, 1) := by decide +kernel
theorem dX5_init_27 : decode cX5_init 27 = .ok (.putfield 22, 3) := by decide +kernel
theorem dX5_init_30 : decode cX5_init 30 = .ok (.aload_n 0, 1) := by decide +kernel
theorem dX5_init_31 : decode cX5_init 31 = .ok (.ldc 25, 2) := by decide +kernel
theorem dX5_init_33 : decode cX5_init 33 = .ok (.putfield 26, 3) := by decide +kernel
theorem dX5_init_36 : decode cX5_init 36 = .ok (.return_, 1) := by decide +kernel
theorem dX5_begin_0 : decode cX5_begin 0 = .ok (.aload_n 0, 1) := by decide +kernel
theorem dX5_begin_1 : decode cX5_begin 1 = .ok (.iload_n 1, 1) := by decide +kernel
theorem dX5_begin_2 : decode cX5_begin 2 = .ok (.putfield 29, 3) := by decide +kernel
theorem dX5_begin_5 : decode cX5_begin 5 = .ok (.aload_n 0, 1) := by decide +kernel
theorem dX5_begin_6 : decode cX5_begin 6 = .ok (.iload_n 2, 1) := by decide +kernel
theorem dX5_begin_7 : decode cX5_begin 7 = .ok (.putfield 18, 3) := by decide +kernel
theorem dX5_begin_10 : decode cX5_begin 10 = .ok (.aload_n 0, 1) := by decide +kernel
theorem dX5_begin_11 : decode cX5_begin 11 = .ok (.iload_n 3, 1) := by decide +kernel
theorem dX5_begin_12 : decode cX5_begin 12 = .ok (.putfield 32, 3) := by decide +kernel
theorem dX5_begin_15 : decode cX5_begin 15 = .ok (.aload_n 0, 1) := by decide +kernel
theorem dX5_begin_16 : decode cX5_begin 16 = .ok (.iload 4, 2) := by decide +kernel
theorem dX5_begin_18 : decode cX5_begin 18 = .ok (.putfield 22, 3) := by decide +kernel
theorem dX5_begin_21 : decode cX5_begin 21 = .ok (.aload_n 0, 1) := by decide +kernel
theorem dX5_begin_22 : decode cX5_begin 22 = .ok (.iconst 0, 1) := by decide +kernel
theorem dX5_begin_23 : decode cX5_begin 23 = .ok (.putfield 35, 3) := by decide +kernel
theorem dX5_begin_26 : decode cX5_begin 26 = .ok (.aload_n 0, 1) := by decide +kernel
theorem dX5_begin_27 : decode cX5_begin 27 = .ok (.iload 5, 2) := by decide +kernel
theorem dX5_begin_29 : decode cX5_begin 29 = .ok (.invokevirtual 38, 3) := by decide +kernel
theorem dX5_begin_32 : decode cX5_begin 32 = .ok (.return_, 1) := by decide +kernel
theorem dX5_startAfresh_0 : decode cX5_startAfresh 0 = .ok (.aload_n 0, 1) := by decide +kernel
theorem dX5_startAfresh_1 : decode cX5_startAfresh 1 = .ok (.iload_n 1, 1) := by decide +kernel
theorem dX5_startAfresh_2 : decode cX5_startAfresh 2 = .ok (.aload_n 0, 1) := by decide +kernel
theorem dX5_startAfresh_3 : decode cX5_startAfresh 3 = .ok (.getfield 32, 3) := by decide +kernel
theorem dX5_startAfresh_6 : decode cX5_startAfresh 6 = .ok (.iadd, 1) := by decide +kernel
theorem dX5_startAfresh_7 : decode cX5_startAfresh 7 = .ok (.putfield 42, 3) := by decide +kernel
theorem dX5_startAfresh_10 : decode cX5_startAfresh 10 = .ok (.aload_n 0, 1) := by decide +kernel
theorem dX5_startAfresh_11 : decode cX5_startAfresh 11 = .ok (.iconst 0, 1) := by decide +kernel
theorem dX5_startAfresh_12 : decode cX5_startAfresh 12 = .ok (.putfield 45, 3) := by decide +kernel
theorem dX5_startAfresh_15 : decode cX5_startAfresh 15 = .ok (.aload_n 0, 1) := by decide +kernel
theorem dX5_startAfresh_16 : decode cX5_startAfresh 16 = .ok (.ldc 25, 2) := by decide +kernel
theorem dX5_startAfresh_18 : decode cX5_startAfresh 18 = .ok (.putfield 26, 3) := by decide +kernel
theorem dX5_startAfresh_21 : decode cX5_startAfresh 21 = .ok (.aload_n 0, 1) := by decide +kernel
theorem dX5_startAfresh_22 : decode cX5_startAfresh 22 = .ok (.iconst 0, 1) := by decide +kernel
theorem dX5_startAfresh_23 : decode cX5_startAfresh 23 = .ok (.putfield 48, 3) := by decide +kernel
theorem dX5_startAfresh_26 : decode cX5_startAfresh 26 = .ok (.aload_n 0, 1) := by decide +kernel
theorem dX5_startAfresh_27 : decode cX5_startAfresh 27 = .ok (.iconst 0, 1) := by decide +kernel
theorem dX5_startAfresh_28 : decode cX5_startAfresh 28 = .ok (.putfield 51, 3) := by decide +kernel
theorem dX5_startAfresh_31 : decode cX5_startAfresh 31 = .ok (.return_, 1) := by decide +kernel
theorem dX5_copyFrom_0 : decode cX5_copyFrom 0 = .ok (.aload_n 0, 1) := by decide +kernel
theorem dX5_copyFrom_1 : decode cX5_copyFrom 1 = .ok (.getfield 9, 3) := by decide +kernel
theorem dX5_copyFrom_4 : decode cX5_copyFrom 4 = .ok (.aload_n 1, 1) := by decide +kernel
theorem dX5_copyFrom_5 : decode cX5_copyFrom 5 = .ok (.getfield 9, 3) := by decide +kernel
theorem dX5_copyFrom_8 : decode cX5_copyFrom 8 = .ok (.invokestatic 55, 3) := by decide +kernel
theorem dX5_copyFrom_11 : decode cX5_copyFrom 11 = .ok (.aload_n 0, 1) := by decide +kernel
theorem dX5_copyFrom_12 : decode cX5_copyFrom 12 = .ok (.getfield 15, 3) := by decide +kernel
theorem dX5_copyFrom_15 : decode cX5_copyFrom 15 = .ok (.aload_n 1, 1) := by decide +kernel
theorem dX5_copyFrom_16 : decode cX5_copyFrom 16 = .ok (.getfield 15, 3) := by decide +kernel
theorem dX5_copyFrom_19 : decode cX5_copyFrom 19 = .ok (.invokestatic 55, 3) := by decide +kernel
theorem dX5_copyFrom_22 : decode cX5_copyFrom 22 = .ok (.aload_n 0, 1) := by decide +kernel
theorem dX5_copyFrom_23 : decode cX5_copyFrom 23 = .ok (.aload_n 1, 1) := by decide +kernel
theorem dX5_copyFrom_24 : decode cX5_copyFrom 24 = .ok (.getfield 45, 3) := by decide +kernel
theorem dX5_copyFrom_27 : decode cX5_copyFrom 27 = .ok (.putfield 45, 3) := by decide +kernel
theorem dX5_copyFrom_30 : decode cX5_copyFrom 30 = .ok (.aload_n 0, 1) := by decide +kernel
theorem dX5_copyFrom_31 : decode cX5_copyFrom 31 = .ok (.aload_n 1, 1) := by decide +kernel
theorem dX5_copyFrom_32 : decode cX5_copyFrom 32 = .ok (.getfield 18, 3) := by decide +kernel
theorem dX5_copyFrom_35 : decode cX5_copyFrom 35 = .ok (.putfield 18, 3) := by decide +kernel
theorem dX5_copyFrom_38 : decode cX5_copyFrom 38 = .ok (.aload_n 0, 1) := by decide +kernel
theorem dX5_copyFrom_39 : decode cX5_copyFrom 39 = .ok (.aload_n 1, 1) := by decide +kernel
theorem dX5_copyFrom_40 : decode cX5_copyFrom 40 = .ok (.getfield 32, 3) := by decide +kernel
theorem dX5_copyFrom_43 : decode cX5_copyFrom 43 = .ok (.putfield 32, 3) := by decide +kernel
theorem dX5_copyFrom_46 : decode cX5_copyFrom 46 = .ok (.aload_n 0, 1) := by decide +kernel
theorem dX5_copyFrom_47 : decode cX5_copyFrom 47 = .ok (.aload_n 1, 1) := by decide +kernel
theorem dX5_copyFrom_48 : decode cX5_copyFrom 48 = .ok (.getfield 51, 3) := by decide +kernel
theorem dX5_copyFrom_51 : decode cX5_copyFrom 51 = .ok (.putfield 51, 3) := by decide +kernel
theorem dX5_copyFrom_54 : decode cX5_copyFrom 54 = .ok (.aload_n 0, 1) := by decide +kernel
theorem dX5_copyFrom_55 : decode cX5_copyFrom 55 = .ok (.aload_n 1, 1) := by decide +kernel
theorem dX5_copyFrom_56 : decode cX5_copyFrom 56 = .ok (.getfield 29, 3) := by decide +kernel
theorem dX5_copyFrom_59 : decode cX5_copyFrom 59 = .ok (.putfield 29, 3) := by decide +kernel
theorem dX5_copyFrom_62 : decode cX5_copyFrom 62 = .ok (.aload_n 0, 1) := by decide +kernel
theorem dX5_copyFrom_63 : decode cX5_copyFrom 63 = .ok (.aload_n 1, 1) := by decide +kernel
theorem dX5_copyFrom_64 : decode cX5_copyFrom 64 = .ok (.getfield 22, 3) := by decide +kernel
theorem dX5_copyFrom_67 : decode cX5_copyFrom 67 = .ok (.putfield 22, 3) := by decide +kernel
theorem dX5_copyFrom_70 : decode cX5_copyFrom 70 = .ok (.aload_n 0, 1) := by decide +kernel
theorem dX5_copyFrom_71 : decode cX5_copyFrom 71 = .ok (.aload_n 1, 1) := by decide +kernel
theorem dX5_copyFrom_72 : decode cX5_copyFrom 72 = .ok (.getfield 42, 3) := by decide +kernel
theorem dX5_copyFrom_75 : decode cX5_copyFrom 75 = .ok (.putfield 42, 3) := by decide +kernel
theorem dX5_copyFrom_78 : decode cX5_copyFrom 78 = .ok (.aload_n 0, 1) := by decide +kernel
theorem dX5_copyFrom_79 : decode cX5_copyFrom 79 = .ok (.aload_n 1, 1) := by decide +kernel
theorem dX5_copyFrom_80 : decode cX5_copyFrom 80 = .ok (.getfield 48, 3) := by decide +kernel
theorem dX5_copyFrom_83 : decode cX5_copyFrom 83 = .ok (.putfield 48, 3) := by decide +kernel
theorem dX5_copyFrom_86 : decode cX5_copyFrom 86 = .ok (.aload_n 0, 1) := by decide +kernel
theorem dX5_copyFrom_87 : decode cX5_copyFrom 87 = .ok (.aload_n 1, 1) := by decide +kernel
theorem dX5_copyFrom_88 : decode cX5_copyFrom 88 = .ok (.getfield 35, 3) := by decide +kernel
theorem dX5_copyFrom_91 : decode cX5_copyFrom 91 = .ok (.putfield 35, 3) := by decide +kernel
theorem dX5_copyFrom_94 : decode cX5_copyFrom 94 = .ok (.aload_n 0, 1) := by decide +kernel
theorem dX5_copyFrom_95 : decode cX5_copyFrom 95 = .ok (.aload_n 1, 1) := by decide +kernel
theorem dX5_copyFrom_96 : decode cX5_copyFrom 96 = .ok (.getfield 26, 3) := by decide +kernel
theorem dX5_copyFrom_99 : decode cX5_copyFrom 99 = .ok (.putfield 26, 3) := by decide +kernel
theorem dX5_copyFrom_102 : decode cX5_copyFrom 102 = .ok (.return_, 1) := by decide +kernel
theorem dX5_follow_0 : decode cX5_follow 0 = .ok (.aload_n 0, 1) := by decide +kernel
theorem dX5_follow_1 : decode cX5_follow 1 = .ok (.dup, 1) := by decide +kernel
theorem dX5_follow_2 : decode cX5_follow 2 = .ok (.getfield 42, 3) := by decide +kernel
theorem dX5_follow_5 : decode cX5_follow 5 = .ok (.aload_n 0, 1) := by decide +kernel
theorem dX5_follow_6 : decode cX5_follow 6 = .ok (.aload_n 0, 1) := by decide +kernel
theorem dX5_follow_7 : decode cX5_follow 7 = .ok (.getfield 42, 3) := by decide +kernel
theorem dX5_follow_10 : decode cX5_follow 10 = .ok (.iload_n 1, 1) := by decide +kernel
theorem dX5_follow_11 : decode cX5_follow 11 = .ok (.invokevirtual 59, 3) := by decide +kernel
theorem dX5_follow_14 : decode cX5_follow 14 = .ok (.iadd, 1) := by decide +kernel
theorem dX5_follow_15 : decode cX5_follow 15 = .ok (.putfield 42, 3) := by decide +kernel
theorem dX5_follow_18 : decode cX5_follow 18 = .ok (.return_, 1) := by decide +kernel
theorem dX5_stepFrom_0 : decode cX5_stepFrom 0 = .ok (.iload_n 2, 1) := by decide +kernel
theorem dX5_stepFrom_1 : decode cX5_stepFrom 1 = .ok (.aload_n 0, 1) := by decide +kernel
theorem dX5_stepFrom_2 : decode cX5_stepFrom 2 = .ok (.getfield 32, 3) := by decide +kernel
theorem dX5_stepFrom_5 : decode cX5_stepFrom 5 = .ok (.iadd, 1) := by decide +kernel
theorem dX5_stepFrom_6 : decode cX5_stepFrom 6 = .ok (.iload_n 1, 1) := by decide +kernel
theorem dX5_stepFrom_7 : decode cX5_stepFrom 7 = .ok (.isub, 1) := by decide +kernel
theorem dX5_stepFrom_8 : decode cX5_stepFrom 8 = .ok (.aload_n 0, 1) := by decide +kernel
theorem dX5_stepFrom_9 : decode cX5_stepFrom 9 = .ok (.getfield 18, 3) := by decide +kernel
theorem dX5_stepFrom_12 : decode cX5_stepFrom 12 = .ok (.invokestatic 63, 3) := by decide +kernel
theorem dX5_stepFrom_15 : decode cX5_stepFrom 15 = .ok (.ireturn, 1) := by decide +kernel
theorem dX5_hoursUntilStill_0 : decode cX5_hoursUntilStill 0 = .ok (.aload_n 0, 1) := by decide +kernel
theorem dX5_hoursUntilStill_1 : decode cX5_hoursUntilStill 1 = .ok (.getfield 42, 3) := by decide +kernel
theorem dX5_hoursUntilStill_4 : decode cX5_hoursUntilStill 4 = .ok (.istore_n 2, 1) := by decide +kernel
theorem dX5_hoursUntilStill_5 : decode cX5_hoursUntilStill 5 = .ok (.iconst 0, 1) := by decide +kernel
theorem dX5_hoursUntilStill_6 : decode cX5_hoursUntilStill 6 = .ok (.istore_n 3, 1) := by decide +kernel
theorem dX5_hoursUntilStill_7 : decode cX5_hoursUntilStill 7 = .ok (.iload_n 3, 1) := by decide +kernel
theorem dX5_hoursUntilStill_8 : decode cX5_hoursUntilStill 8 = .ok (.ldc 66, 2) := by decide +kernel
theorem dX5_hoursUntilStill_10 : decode cX5_hoursUntilStill 10 = .ok (.if_icmp .ge 29, 3) := by decide +kernel
theorem dX5_hoursUntilStill_13 : decode cX5_hoursUntilStill 13 = .ok (.aload_n 0, 1) := by decide +kernel
theorem dX5_hoursUntilStill_14 : decode cX5_hoursUntilStill 14 = .ok (.iload_n 2, 1) := by decide +kernel
theorem dX5_hoursUntilStill_15 : decode cX5_hoursUntilStill 15 = .ok (.iload_n 1, 1) := by decide +kernel
theorem dX5_hoursUntilStill_16 : decode cX5_hoursUntilStill 16 = .ok (.invokevirtual 59, 3) := by decide +kernel
theorem dX5_hoursUntilStill_19 : decode cX5_hoursUntilStill 19 = .ok (.istore 4, 2) := by decide +kernel
theorem dX5_hoursUntilStill_21 : decode cX5_hoursUntilStill 21 = .ok (.iload 4, 2) := by decide +kernel
theorem dX5_hoursUntilStill_23 : decode cX5_hoursUntilStill 23 = .ok (.ifCond .ne 5, 3) := by decide +kernel
theorem dX5_hoursUntilStill_26 : decode cX5_hoursUntilStill 26 = .ok (.iload_n 3, 1) := by decide +kernel
theorem dX5_hoursUntilStill_27 : decode cX5_hoursUntilStill 27 = .ok (.ireturn, 1) := by decide +kernel
theorem dX5_hoursUntilStill_28 : decode cX5_hoursUntilStill 28 = .ok (.iload_n 2, 1) := by decide +kernel
theorem dX5_hoursUntilStill_29 : decode cX5_hoursUntilStill 29 = .ok (.iload 4, 2) := by decide +kernel
theorem dX5_hoursUntilStill_31 : decode cX5_hoursUntilStill 31 = .ok (.iadd, 1) := by decide +kernel
theorem dX5_hoursUntilStill_32 : decode cX5_hoursUntilStill 32 = .ok (.istore_n 2, 1) := by decide +kernel
theorem dX5_hoursUntilStill_33 : decode cX5_hoursUntilStill 33 = .ok (.iinc 3 1, 3) := by decide +kernel
theorem dX5_hoursUntilStill_36 : decode cX5_hoursUntilStill 36 = .ok (.goto (-29), 3) := by decide +kernel
theorem dX5_hoursUntilStill_39 : decode cX5_hoursUntilStill 39 = .ok (.ldc 66, 2) := by decide +kernel
theorem dX5_hoursUntilStill_41 : decode cX5_hoursUntilStill 41 = .ok (.ireturn, 1) := by decide +kernel
theorem dX5_takeReading_0 : decode cX5_takeReading 0 = .ok (.aload_n 0, 1) := by decide +kernel
theorem dX5_takeReading_1 : decode cX5_takeReading 1 = .ok (.getfield 9, 3) := by decide +kernel
theorem dX5_takeReading_4 : decode cX5_takeReading 4 = .ok (.iload_n 1, 1) := by decide +kernel
theorem dX5_takeReading_5 : decode cX5_takeReading 5 = .ok (.invokestatic 67, 3) := by decide +kernel
theorem dX5_takeReading_8 : decode cX5_takeReading 8 = .ok (.aload_n 0, 1) := by decide +kernel
theorem dX5_takeReading_9 : decode cX5_takeReading 9 = .ok (.getfield 15, 3) := by decide +kernel
theorem dX5_takeReading_12 : decode cX5_takeReading 12 = .ok (.aload_n 0, 1) := by decide +kernel
theorem dX5_takeReading_13 : decode cX5_takeReading 13 = .ok (.getfield 42, 3) := by decide +kernel
theorem dX5_takeReading_16 : decode cX5_takeReading 16 = .ok (.invokestatic 67, 3) := by decide +kernel
theorem dX5_takeReading_19 : decode cX5_takeReading 19 = .ok (.aload_n 0, 1) := by decide +kernel
theorem dX5_takeReading_20 : decode cX5_takeReading 20 = .ok (.aload_n 0, 1) := by decide +kernel
theorem dX5_takeReading_21 : decode cX5_takeReading 21 = .ok (.getfield 45, 3) := by decide +kernel
theorem dX5_takeReading_24 : decode cX5_takeReading 24 = .ok (.iconst 1, 1) := by decide +kernel
theorem dX5_takeReading_25 : decode cX5_takeReading 25 = .ok (.iadd, 1) := by decide +kernel
theorem dX5_takeReading_26 : decode cX5_takeReading 26 = .ok (.bipush 6, 2) := by decide +kernel
theorem dX5_takeReading_28 : decode cX5_takeReading 28 = .ok (.invokestatic 71, 3) := by decide +kernel
theorem dX5_takeReading_31 : decode cX5_takeReading 31 = .ok (.putfield 45, 3) := by decide +kernel
theorem dX5_takeReading_34 : decode cX5_takeReading 34 = .ok (.aload_n 0, 1) := by decide +kernel
theorem dX5_takeReading_35 : decode cX5_takeReading 35 = .ok (.aload_n 0, 1) := by decide +kernel
theorem dX5_takeReading_36 : decode cX5_takeReading 36 = .ok (.aload_n 0, 1) := by decide +kernel
theorem dX5_takeReading_37 : decode cX5_takeReading 37 = .ok (.getfield 18, 3) := by decide +kernel
theorem dX5_takeReading_40 : decode cX5_takeReading 40 = .ok (.invokevirtual 76, 3) := by decide +kernel
theorem dX5_takeReading_43 : decode cX5_takeReading 43 = .ok (.putfield 26, 3) := by decide +kernel
theorem dX5_takeReading_46 : decode cX5_takeReading 46 = .ok (.return_, 1) := by decide +kernel
theorem dX5_hourAgo_0 : decode cX5_hourAgo 0 = .ok (.iload_n 1, 1) := by decide +kernel
theorem dX5_hourAgo_1 : decode cX5_hourAgo 1 = .ok (.aload_n 0, 1) := by decide +kernel
theorem dX5_hourAgo_2 : decode cX5_hourAgo 2 = .ok (.getfield 45, 3) := by decide +kernel
theorem dX5_hourAgo_5 : decode cX5_hourAgo 5 = .ok (.if_icmp .ge 14, 3) := by decide +kernel
theorem dX5_hourAgo_8 : decode cX5_hourAgo 8 = .ok (.aload_n 0, 1) := by decide +kernel
theorem dX5_hourAgo_9 : decode cX5_hourAgo 9 = .ok (.getfield 9, 3) := by decide +kernel
theorem dX5_hourAgo_12 : decode cX5_hourAgo 12 = .ok (.iload_n 1, 1) := by decide +kernel
theorem dX5_hourAgo_13 : decode cX5_hourAgo 13 = .ok (.invokestatic 80, 3) := by decide +kernel
theorem dX5_hourAgo_16 : decode cX5_hourAgo 16 = .ok (.goto 5, 3) := by decide +kernel
theorem dX5_hourAgo_19 : decode cX5_hourAgo 19 = .ok (.ldc 25, 2) := by decide +kernel
theorem dX5_hourAgo_21 : decode cX5_hourAgo 21 = .ok (.ireturn, 1) := by decide +kernel
theorem dX5_valueAgo_0 : decode cX5_valueAgo 0 = .ok (.iload_n 1, 1) := by decide +kernel
theorem dX5_valueAgo_1 : decode cX5_valueAgo 1 = .ok (.aload_n 0, 1) := by decide +kernel
theorem dX5_valueAgo_2 : decode cX5_valueAgo 2 = .ok (.getfield 45, 3) := by decide +kernel
theorem dX5_valueAgo_5 : decode cX5_valueAgo 5 = .ok (.if_icmp .ge 14, 3) := by decide +kernel
theorem dX5_valueAgo_8 : decode cX5_valueAgo 8 = .ok (.aload_n 0, 1) := by decide +kernel
theorem dX5_valueAgo_9 : decode cX5_valueAgo 9 = .ok (.getfield 15, 3) := by decide +kernel
theorem dX5_valueAgo_12 : decode cX5_valueAgo 12 = .ok (.iload_n 1, 1) := by decide +kernel
theorem dX5_valueAgo_13 : decode cX5_valueAgo 13 = .ok (.invokestatic 80, 3) := by decide +kernel
theorem dX5_valueAgo_16 : decode cX5_valueAgo 16 = .ok (.goto 5, 3) := by decide +kernel
theorem dX5_valueAgo_19 : decode cX5_valueAgo 19 = .ok (.ldc 25, 2) := by decide +kernel
theorem dX5_valueAgo_21 : decode cX5_valueAgo 21 = .ok (.ireturn, 1) := by decide +kernel
theorem dX5_hasMended_0 : decode cX5_hasMended 0 = .ok (.aload_n 0, 1) := by decide +kernel
theorem dX5_hasMended_1 : decode cX5_hasMended 1 = .ok (.getfield 45, 3) := by decide +kernel
theorem dX5_hasMended_4 : decode cX5_hasMended 4 = .ok (.ifCond .le 7, 3) := by decide +kernel
theorem dX5_hasMended_7 : decode cX5_hasMended 7 = .ok (.iconst 1, 1) := by decide +kernel
theorem dX5_hasMended_8 : decode cX5_hasMended 8 = .ok (.goto 4, 3) := by decide +kernel
theorem dX5_hasMended_11 : decode cX5_hasMended 11 = .ok (.iconst 0, 1) := by decide +kernel
theorem dX5_hasMended_12 : decode cX5_hasMended 12 = .ok (.ireturn, 1) := by decide +kernel
theorem dX5_isAsked_0 : decode cX5_isAsked 0 = .ok (.aload_n 0, 1) := by decide +kernel
theorem dX5_isAsked_1 : decode cX5_isAsked 1 = .ok (.getfield 45, 3) := by decide +kernel
theorem dX5_isAsked_4 : decode cX5_isAsked 4 = .ok (.ifCond .le 14, 3) := by decide +kernel
theorem dX5_isAsked_7 : decode cX5_isAsked 7 = .ok (.aload_n 0, 1) := by decide +kernel
theorem dX5_isAsked_8 : decode cX5_isAsked 8 = .ok (.getfield 51, 3) := by decide +kernel
theorem dX5_isAsked_11 : decode cX5_isAsked 11 = .ok (.ifCond .ne 7, 3) := by decide +kernel
theorem dX5_isAsked_14 : decode cX5_isAsked 14 = .ok (.iconst 1, 1) := by decide +kernel
theorem dX5_isAsked_15 : decode cX5_isAsked 15 = .ok (.goto 4, 3) := by decide +kernel
theorem dX5_isAsked_18 : decode cX5_isAsked 18 = .ok (.iconst 0, 1) := by decide +kernel
theorem dX5_isAsked_19 : decode cX5_isAsked 19 = .ok (.ireturn, 1) := by decide +kernel
theorem dX5_isAskedAndReadIn_0 : decode cX5_isAskedAndReadIn 0 = .ok (.aload_n 0, 1) := by decide +kernel
theorem dX5_isAskedAndReadIn_1 : decode cX5_isAskedAndReadIn 1 = .ok (.invokevirtual 84, 3) := by decide +kernel
theorem dX5_isAskedAndReadIn_4 : decode cX5_isAskedAndReadIn 4 = .ok (.ifCond .eq 16, 3) := by decide +kernel
theorem dX5_isAskedAndReadIn_7 : decode cX5_isAskedAndReadIn 7 = .ok (.aload_n 0, 1) := by decide +kernel
theorem dX5_isAskedAndReadIn_8 : decode cX5_isAskedAndReadIn 8 = .ok (.iconst 0, 1) := by decide +kernel
theorem dX5_isAskedAndReadIn_9 : decode cX5_isAskedAndReadIn 9 = .ok (.invokevirtual 88, 3) := by decide +kernel
theorem dX5_isAskedAndReadIn_12 : decode cX5_isAskedAndReadIn 12 = .ok (.iload_n 1, 1) := by decide +kernel
theorem dX5_isAskedAndReadIn_13 : decode cX5_isAskedAndReadIn 13 = .ok (.if_icmp .ne 7, 3) := by decide +kernel
theorem dX5_isAskedAndReadIn_16 : decode cX5_isAskedAndReadIn 16 = .ok (.iconst 1, 1) := by decide +kernel
theorem dX5_isAskedAndReadIn_17 : decode cX5_isAskedAndReadIn 17 = .ok (.goto 4, 3) := by decide +kernel
theorem dX5_isAskedAndReadIn_20 : decode cX5_isAskedAndReadIn 20 = .ok (.iconst 0, 1) := by decide +kernel
theorem dX5_isAskedAndReadIn_21 : decode cX5_isAskedAndReadIn 21 = .ok (.ireturn, 1) := by decide +kernel
theorem dX5_mendedWith_0 : decode cX5_mendedWith 0 = .ok (.aload_n 0, 1) := by decide +kernel
theorem dX5_mendedWith_1 : decode cX5_mendedWith 1 = .ok (.getfield 45, 3) := by decide +kernel
theorem dX5_mendedWith_4 : decode cX5_mendedWith 4 = .ok (.ifCond .ne 6, 3) := by decide +kernel
theorem dX5_mendedWith_7 : decode cX5_mendedWith 7 = .ok (.ldc 25, 2) := by decide +kernel
theorem dX5_mendedWith_9 : decode cX5_mendedWith 9 = .ok (.ireturn, 1) := by decide +kernel
theorem dX5_mendedWith_10 : decode cX5_mendedWith 10 = .ok (.aload_n 0, 1) := by decide +kernel
theorem dX5_mendedWith_11 : decode cX5_mendedWith 11 = .ok (.getfield 15, 3) := by decide +kernel
theorem dX5_mendedWith_14 : decode cX5_mendedWith 14 = .ok (.iconst 0, 1) := by decide +kernel
theorem dX5_mendedWith_15 : decode cX5_mendedWith 15 = .ok (.invokestatic 80, 3) := by decide +kernel
theorem dX5_mendedWith_18 : decode cX5_mendedWith 18 = .ok (.istore_n 2, 1) := by decide +kernel
theorem dX5_mendedWith_19 : decode cX5_mendedWith 19 = .ok (.aload_n 0, 1) := by decide +kernel
theorem dX5_mendedWith_20 : decode cX5_mendedWith 20 = .ok (.getfield 45, 3) := by decide +kernel
theorem dX5_mendedWith_23 : decode cX5_mendedWith 23 = .ok (.iconst 1, 1) := by decide +kernel
theorem dX5_mendedWith_24 : decode cX5_mendedWith 24 = .ok (.if_icmp .ne 10, 3) := by decide +kernel
theorem dX5_mendedWith_27 : decode cX5_mendedWith 27 = .ok (.iload_n 2, 1) := by decide +kernel
theorem dX5_mendedWith_28 : decode cX5_mendedWith 28 = .ok (.aload_n 0, 1) := by decide +kernel
theorem dX5_mendedWith_29 : decode cX5_mendedWith 29 = .ok (.getfield 32, 3) := by decide +kernel
theorem dX5_mendedWith_32 : decode cX5_mendedWith 32 = .ok (.isub, 1) := by decide +kernel
theorem dX5_mendedWith_33 : decode cX5_mendedWith 33 = .ok (.ireturn, 1) := by decide +kernel
theorem dX5_mendedWith_34 : decode cX5_mendedWith 34 = .ok (.iload_n 2, 1) := by decide +kernel
theorem dX5_mendedWith_35 : decode cX5_mendedWith 35 = .ok (.aload_n 0, 1) := by decide +kernel
theorem dX5_mendedWith_36 : decode cX5_mendedWith 36 = .ok (.getfield 15, 3) := by decide +kernel
theorem dX5_mendedWith_39 : decode cX5_mendedWith 39 = .ok (.iconst 1, 1) := by decide +kernel
theorem dX5_mendedWith_40 : decode cX5_mendedWith 40 = .ok (.invokestatic 80, 3) := by decide +kernel
theorem dX5_mendedWith_43 : decode cX5_mendedWith 43 = .ok (.isub, 1) := by decide +kernel
theorem dX5_mendedWith_44 : decode cX5_mendedWith 44 = .ok (.istore_n 3, 1) := by decide +kernel
theorem dX5_mendedWith_45 : decode cX5_mendedWith 45 = .ok (.aload_n 0, 1) := by decide +kernel
theorem dX5_mendedWith_46 : decode cX5_mendedWith 46 = .ok (.getfield 9, 3) := by decide +kernel
theorem dX5_mendedWith_49 : decode cX5_mendedWith 49 = .ok (.iconst 0, 1) := by decide +kernel
theorem dX5_mendedWith_50 : decode cX5_mendedWith 50 = .ok (.invokestatic 80, 3) := by decide +kernel
theorem dX5_mendedWith_53 : decode cX5_mendedWith 53 = .ok (.aload_n 0, 1) := by decide +kernel
theorem dX5_mendedWith_54 : decode cX5_mendedWith 54 = .ok (.getfield 9, 3) := by decide +kernel
theorem dX5_mendedWith_57 : decode cX5_mendedWith 57 = .ok (.iconst 1, 1) := by decide +kernel
theorem dX5_mendedWith_58 : decode cX5_mendedWith 58 = .ok (.invokestatic 80, 3) := by decide +kernel
theorem dX5_mendedWith_61 : decode cX5_mendedWith 61 = .ok (.isub, 1) := by decide +kernel
theorem dX5_mendedWith_62 : decode cX5_mendedWith 62 = .ok (.istore 4, 2) := by decide +kernel
theorem dX5_mendedWith_64 : decode cX5_mendedWith 64 = .ok (.iload_n 2, 1) := by decide +kernel
theorem dX5_mendedWith_65 : decode cX5_mendedWith 65 = .ok (.iload_n 3, 1) := by decide +kernel
theorem dX5_mendedWith_66 : decode cX5_mendedWith 66 = .ok (.iload_n 1, 1) := by decide +kernel
theorem dX5_mendedWith_67 : decode cX5_mendedWith 67 = .ok (.iconst 1, 1) := by decide +kernel
theorem dX5_mendedWith_68 : decode cX5_mendedWith 68 = .ok (.isub, 1) := by decide +kernel
theorem dX5_mendedWith_69 : decode cX5_mendedWith 69 = .ok (.imul, 1) := by decide +kernel
theorem dX5_mendedWith_70 : decode cX5_mendedWith 70 = .ok (.iload 4, 2) := by decide +kernel
theorem dX5_mendedWith_72 : decode cX5_mendedWith 72 = .ok (.invokestatic 63, 3) := by decide +kernel
theorem dX5_mendedWith_75 : decode cX5_mendedWith 75 = .ok (.iadd, 1) := by decide +kernel
theorem dX5_mendedWith_76 : decode cX5_mendedWith 76 = .ok (.aload_n 0, 1) := by decide +kernel
theorem dX5_mendedWith_77 : decode cX5_mendedWith 77 = .ok (.getfield 32, 3) := by decide +kernel
theorem dX5_mendedWith_80 : decode cX5_mendedWith 80 = .ok (.isub, 1) := by decide +kernel
theorem dX5_mendedWith_81 : decode cX5_mendedWith 81 = .ok (.ireturn, 1) := by decide +kernel
theorem dX5_lagNearestTo_0 : decode cX5_lagNearestTo 0 = .ok (.aload_n 0, 1) := by decide +kernel
theorem dX5_lagNearestTo_1 : decode cX5_lagNearestTo 1 = .ok (.invokevirtual 91, 3) := by decide +kernel
theorem dX5_lagNearestTo_4 : decode cX5_lagNearestTo 4 = .ok (.ifCond .ne 6, 3) := by decide +kernel
theorem dX5_lagNearestTo_7 : decode cX5_lagNearestTo 7 = .ok (.ldc 25, 2) := by decide +kernel
theorem dX5_lagNearestTo_9 : decode cX5_lagNearestTo 9 = .ok (.ireturn, 1) := by decide +kernel
theorem dX5_lagNearestTo_10 : decode cX5_lagNearestTo 10 = .ok (.iconst 1, 1) := by decide +kernel
theorem dX5_lagNearestTo_11 : decode cX5_lagNearestTo 11 = .ok (.istore_n 2, 1) := by decide +kernel
theorem dX5_lagNearestTo_12 : decode cX5_lagNearestTo 12 = .ok (.aload_n 0, 1) := by decide +kernel
theorem dX5_lagNearestTo_13 : decode cX5_lagNearestTo 13 = .ok (.iload_n 2, 1) := by decide +kernel
theorem dX5_lagNearestTo_14 : decode cX5_lagNearestTo 14 = .ok (.invokevirtual 76, 3) := by decide +kernel
theorem dX5_lagNearestTo_17 : decode cX5_lagNearestTo 17 = .ok (.iload_n 1, 1) := by decide +kernel
theorem dX5_lagNearestTo_18 : decode cX5_lagNearestTo 18 = .ok (.isub, 1) := by decide +kernel
theorem dX5_lagNearestTo_19 : decode cX5_lagNearestTo 19 = .ok (.invokestatic 94, 3) := by decide +kernel
theorem dX5_lagNearestTo_22 : decode cX5_lagNearestTo 22 = .ok (.istore_n 3, 1) := by decide +kernel
theorem dX5_lagNearestTo_23 : decode cX5_lagNearestTo 23 = .ok (.iconst 2, 1) := by decide +kernel
theorem dX5_lagNearestTo_24 : decode cX5_lagNearestTo 24 = .ok (.istore 4, 2) := by decide +kernel
theorem dX5_lagNearestTo_26 : decode cX5_lagNearestTo 26 = .ok (.iload 4, 2) := by decide +kernel
theorem dX5_lagNearestTo_28 : decode cX5_lagNearestTo 28 = .ok (.bipush 9, 2) := by decide +kernel
theorem dX5_lagNearestTo_30 : decode cX5_lagNearestTo 30 = .ok (.if_icmp .gt 34, 3) := by decide +kernel
theorem dX5_lagNearestTo_33 : decode cX5_lagNearestTo 33 = .ok (.aload_n 0, 1) := by decide +kernel
theorem dX5_lagNearestTo_34 : decode cX5_lagNearestTo 34 = .ok (.iload 4, 2) := by decide +kernel
theorem dX5_lagNearestTo_36 : decode cX5_lagNearestTo 36 = .ok (.invokevirtual 76, 3) := by decide +kernel
theorem dX5_lagNearestTo_39 : decode cX5_lagNearestTo 39 = .ok (.iload_n 1, 1) := by decide +kernel
theorem dX5_lagNearestTo_40 : decode cX5_lagNearestTo 40 = .ok (.isub, 1) := by decide +kernel
theorem dX5_lagNearestTo_41 : decode cX5_lagNearestTo 41 = .ok (.invokestatic 94, 3) := by decide +kernel
theorem dX5_lagNearestTo_44 : decode cX5_lagNearestTo 44 = .ok (.istore 5, 2) := by decide +kernel
theorem dX5_lagNearestTo_46 : decode cX5_lagNearestTo 46 = .ok (.iload 5, 2) := by decide +kernel
theorem dX5_lagNearestTo_48 : decode cX5_lagNearestTo 48 = .ok (.iload_n 3, 1) := by decide +kernel
theorem dX5_lagNearestTo_49 : decode cX5_lagNearestTo 49 = .ok (.if_icmp .ge 9, 3) := by decide +kernel
theorem dX5_lagNearestTo_52 : decode cX5_lagNearestTo 52 = .ok (.iload 4, 2) := by decide +kernel
theorem dX5_lagNearestTo_54 : decode cX5_lagNearestTo 54 = .ok (.istore_n 2, 1) := by decide +kernel
theorem dX5_lagNearestTo_55 : decode cX5_lagNearestTo 55 = .ok (.iload 5, 2) := by decide +kernel
theorem dX5_lagNearestTo_57 : decode cX5_lagNearestTo 57 = .ok (.istore_n 3, 1) := by decide +kernel
theorem dX5_lagNearestTo_58 : decode cX5_lagNearestTo 58 = .ok (.iinc 4 1, 3) := by decide +kernel
theorem dX5_lagNearestTo_61 : decode cX5_lagNearestTo 61 = .ok (.goto (-35), 3) := by decide +kernel
theorem dX5_lagNearestTo_64 : decode cX5_lagNearestTo 64 = .ok (.iload_n 2, 1) := by decide +kernel
theorem dX5_lagNearestTo_65 : decode cX5_lagNearestTo 65 = .ok (.ireturn, 1) := by decide +kernel
theorem dX5_error_0 : decode cX5_error 0 = .ok (.aload_n 0, 1) := by decide +kernel
theorem dX5_error_1 : decode cX5_error 1 = .ok (.getfield 26, 3) := by decide +kernel
theorem dX5_error_4 : decode cX5_error 4 = .ok (.iload_n 1, 1) := by decide +kernel
theorem dX5_error_5 : decode cX5_error 5 = .ok (.isub, 1) := by decide +kernel
theorem dX5_error_6 : decode cX5_error 6 = .ok (.invokestatic 94, 3) := by decide +kernel
theorem dX5_error_9 : decode cX5_error 9 = .ok (.ireturn, 1) := by decide +kernel
theorem dX5_distance_0 : decode cX5_distance 0 = .ok (.aload_n 0, 1) := by decide +kernel
theorem dX5_distance_1 : decode cX5_distance 1 = .ok (.getfield 42, 3) := by decide +kernel
theorem dX5_distance_4 : decode cX5_distance 4 = .ok (.aload_n 0, 1) := by decide +kernel
theorem dX5_distance_5 : decode cX5_distance 5 = .ok (.getfield 32, 3) := by decide +kernel
theorem dX5_distance_8 : decode cX5_distance 8 = .ok (.isub, 1) := by decide +kernel
theorem dX5_distance_9 : decode cX5_distance 9 = .ok (.iload_n 1, 1) := by decide +kernel
theorem dX5_distance_10 : decode cX5_distance 10 = .ok (.isub, 1) := by decide +kernel
theorem dX5_distance_11 : decode cX5_distance 11 = .ok (.invokestatic 94, 3) := by decide +kernel
theorem dX5_distance_14 : decode cX5_distance 14 = .ok (.ireturn, 1) := by decide +kernel
theorem dX5_compareWith_0 : decode cX5_compareWith 0 = .ok (.aload_n 0, 1) := by decide +kernel
theorem dX5_compareWith_1 : decode cX5_compareWith 1 = .ok (.getfield 26, 3) := by decide +kernel
theorem dX5_compareWith_4 : decode cX5_compareWith 4 = .ok (.iload_n 1, 1) := by decide +kernel
theorem dX5_compareWith_5 : decode cX5_compareWith 5 = .ok (.isub, 1) := by decide +kernel
theorem dX5_compareWith_6 : decode cX5_compareWith 6 = .ok (.invokestatic 94, 3) := by decide +kernel
theorem dX5_compareWith_9 : decode cX5_compareWith 9 = .ok (.iload_n 2, 1) := by decide +kernel
theorem dX5_compareWith_10 : decode cX5_compareWith 10 = .ok (.if_icmp .le 26, 3) := by decide +kernel
theorem dX5_compareWith_13 : decode cX5_compareWith 13 = .ok (.aload_n 0, 1) := by decide +kernel
theorem dX5_compareWith_14 : decode cX5_compareWith 14 = .ok (.dup, 1) := by decide +kernel
theorem dX5_compareWith_15 : decode cX5_compareWith 15 = .ok (.getfield 35, 3) := by decide +kernel
theorem dX5_compareWith_18 : decode cX5_compareWith 18 = .ok (.iconst 1, 1) := by decide +kernel
theorem dX5_compareWith_19 : decode cX5_compareWith 19 = .ok (.iadd, 1) := by decide +kernel
theorem dX5_compareWith_20 : decode cX5_compareWith 20 = .ok (.putfield 35, 3) := by decide +kernel
theorem dX5_compareWith_23 : decode cX5_compareWith 23 = .ok (.aload_n 0, 1) := by decide +kernel
theorem dX5_compareWith_24 : decode cX5_compareWith 24 = .ok (.dup, 1) := by decide +kernel
theorem dX5_compareWith_25 : decode cX5_compareWith 25 = .ok (.getfield 48, 3) := by decide +kernel
theorem dX5_compareWith_28 : decode cX5_compareWith 28 = .ok (.iconst 1, 1) := by decide +kernel
theorem dX5_compareWith_29 : decode cX5_compareWith 29 = .ok (.iadd, 1) := by decide +kernel
theorem dX5_compareWith_30 : decode cX5_compareWith 30 = .ok (.putfield 48, 3) := by decide +kernel
theorem dX5_compareWith_33 : decode cX5_compareWith 33 = .ok (.goto 8, 3) := by decide +kernel
theorem dX5_compareWith_36 : decode cX5_compareWith 36 = .ok (.aload_n 0, 1) := by decide +kernel
theorem dX5_compareWith_37 : decode cX5_compareWith 37 = .ok (.iconst 0, 1) := by decide +kernel
theorem dX5_compareWith_38 : decode cX5_compareWith 38 = .ok (.putfield 48, 3) := by decide +kernel
theorem dX5_compareWith_41 : decode cX5_compareWith 41 = .ok (.return_, 1) := by decide +kernel
theorem dX5_shutOutFrom_0 : decode cX5_shutOutFrom 0 = .ok (.aload_n 0, 1) := by decide +kernel
theorem dX5_shutOutFrom_1 : decode cX5_shutOutFrom 1 = .ok (.getfield 48, 3) := by decide +kernel
theorem dX5_shutOutFrom_4 : decode cX5_shutOutFrom 4 = .ok (.iload_n 1, 1) := by decide +kernel
theorem dX5_shutOutFrom_5 : decode cX5_shutOutFrom 5 = .ok (.if_icmp .lt 8, 3) := by decide +kernel
theorem dX5_shutOutFrom_8 : decode cX5_shutOutFrom 8 = .ok (.aload_n 0, 1) := by decide +kernel
theorem dX5_shutOutFrom_9 : decode cX5_shutOutFrom 9 = .ok (.iconst 1, 1) := by decide +kernel
theorem dX5_shutOutFrom_10 : decode cX5_shutOutFrom 10 = .ok (.putfield 51, 3) := by decide +kernel
theorem dX5_shutOutFrom_13 : decode cX5_shutOutFrom 13 = .ok (.return_, 1) := by decide +kernel
theorem dX5_numberOf_0 : decode cX5_numberOf 0 = .ok (.iload_n 1, 1) := by decide +kernel
theorem dX5_numberOf_1 : decode cX5_numberOf 1 = .ok (.tableswitch 104 0 8 #[51, 56, 61, 66, 71, 76, 81, 94, 99], 51) := by decide +kernel
theorem dX5_numberOf_52 : decode cX5_numberOf 52 = .ok (.aload_n 0, 1) := by decide +kernel
theorem dX5_numberOf_53 : decode cX5_numberOf 53 = .ok (.getfield 29, 3) := by decide +kernel
theorem dX5_numberOf_56 : decode cX5_numberOf 56 = .ok (.ireturn, 1) := by decide +kernel
theorem dX5_numberOf_57 : decode cX5_numberOf 57 = .ok (.aload_n 0, 1) := by decide +kernel
theorem dX5_numberOf_58 : decode cX5_numberOf 58 = .ok (.getfield 18, 3) := by decide +kernel
theorem dX5_numberOf_61 : decode cX5_numberOf 61 = .ok (.ireturn, 1) := by decide +kernel
theorem dX5_numberOf_62 : decode cX5_numberOf 62 = .ok (.aload_n 0, 1) := by decide +kernel
theorem dX5_numberOf_63 : decode cX5_numberOf 63 = .ok (.getfield 32, 3) := by decide +kernel
theorem dX5_numberOf_66 : decode cX5_numberOf 66 = .ok (.ireturn, 1) := by decide +kernel
theorem dX5_numberOf_67 : decode cX5_numberOf 67 = .ok (.aload_n 0, 1) := by decide +kernel
theorem dX5_numberOf_68 : decode cX5_numberOf 68 = .ok (.getfield 22, 3) := by decide +kernel
theorem dX5_numberOf_71 : decode cX5_numberOf 71 = .ok (.ireturn, 1) := by decide +kernel
theorem dX5_numberOf_72 : decode cX5_numberOf 72 = .ok (.aload_n 0, 1) := by decide +kernel
theorem dX5_numberOf_73 : decode cX5_numberOf 73 = .ok (.getfield 42, 3) := by decide +kernel
theorem dX5_numberOf_76 : decode cX5_numberOf 76 = .ok (.ireturn, 1) := by decide +kernel
theorem dX5_numberOf_77 : decode cX5_numberOf 77 = .ok (.aload_n 0, 1) := by decide +kernel
theorem dX5_numberOf_78 : decode cX5_numberOf 78 = .ok (.getfield 48, 3) := by decide +kernel
theorem dX5_numberOf_81 : decode cX5_numberOf 81 = .ok (.ireturn, 1) := by decide +kernel
theorem dX5_numberOf_82 : decode cX5_numberOf 82 = .ok (.aload_n 0, 1) := by decide +kernel
theorem dX5_numberOf_83 : decode cX5_numberOf 83 = .ok (.getfield 51, 3) := by decide +kernel
theorem dX5_numberOf_86 : decode cX5_numberOf 86 = .ok (.ifCond .eq 7, 3) := by decide +kernel
theorem dX5_numberOf_89 : decode cX5_numberOf 89 = .ok (.iconst 1, 1) := by decide +kernel
theorem dX5_numberOf_90 : decode cX5_numberOf 90 = .ok (.goto 4, 3) := by decide +kernel
theorem dX5_numberOf_93 : decode cX5_numberOf 93 = .ok (.iconst 0, 1) := by decide +kernel
theorem dX5_numberOf_94 : decode cX5_numberOf 94 = .ok (.ireturn, 1) := by decide +kernel
theorem dX5_numberOf_95 : decode cX5_numberOf 95 = .ok (.aload_n 0, 1) := by decide +kernel
theorem dX5_numberOf_96 : decode cX5_numberOf 96 = .ok (.getfield 45, 3) := by decide +kernel
theorem dX5_numberOf_99 : decode cX5_numberOf 99 = .ok (.ireturn, 1) := by decide +kernel
theorem dX5_numberOf_100 : decode cX5_numberOf 100 = .ok (.aload_n 0, 1) := by decide +kernel
theorem dX5_numberOf_101 : decode cX5_numberOf 101 = .ok (.getfield 35, 3) := by decide +kernel
theorem dX5_numberOf_104 : decode cX5_numberOf 104 = .ok (.ireturn, 1) := by decide +kernel
theorem dX5_numberOf_105 : decode cX5_numberOf 105 = .ok (.aload_n 0, 1) := by decide +kernel
theorem dX5_numberOf_106 : decode cX5_numberOf 106 = .ok (.getfield 26, 3) := by decide +kernel
theorem dX5_numberOf_109 : decode cX5_numberOf 109 = .ok (.ireturn, 1) := by decide +kernel
theorem dX6_init_0 : decode cX6_init 0 = .ok (.aload_n 0, 1) := by decide +kernel
theorem dX6_init_1 : decode cX6_init 1 = .ok (.invokespecial 1, 3) := by decide +kernel
theorem dX6_init_4 : decode cX6_init 4 = .ok (.aload_n 0, 1) := by decide +kernel
theorem dX6_init_5 : decode cX6_init 5 = .ok (.new 7, 3) := by decide +kernel
theorem dX6_init_8 : decode cX6_init 8 = .ok (.dup, 1) := by decide +kernel
theorem dX6_init_9 : decode cX6_init 9 = .ok (.invokespecial 9, 3) := by decide +kernel
theorem dX6_init_12 : decode cX6_init 12 = .ok (.putfield 10, 3) := by decide +kernel
theorem dX6_init_15 : decode cX6_init 15 = .ok (.aload_n 0, 1) := by decide +kernel
theorem dX6_init_16 : decode cX6_init 16 = .ok (.new 7, 3) := by decide +kernel
theorem dX6_init_19 : decode cX6_init 19 = .ok (.dup, 1) := by decide +kernel
theorem dX6_init_20 : decode cX6_init 20 = .ok (.invokespecial 9, 3) := by decide +kernel
theorem dX6_init_23 : decode cX6_init 23 = .ok (.putfield 16, 3) := by decide +kernel
theorem dX6_init_26 : decode cX6_init 26 = .ok (.aload_n 0, 1) := by decide +kernel
theorem dX6_init_27 : decode cX6_init 27 = .ok (.new 19, 3) := by decide +kernel
theorem dX6_init_30 : decode cX6_init 30 = .ok (.dup, 1) := by decide +kernel
theorem dX6_init_31 : decode cX6_init 31 = .ok (.invokespecial 21, 3) := by decide +kernel
theorem dX6_init_34 : decode cX6_init 34 = .ok (.putfield 22, 3) := by decide +kernel
theorem dX6_init_37 : decode cX6_init 37 = .ok (.aload_n 0, 1) := by decide +kernel
theorem dX6_init_38 : decode cX6_init 38 = .ok (.new 26, 3) := by decide +kernel
theorem dX6_init_41 : decode cX6_init 41 = .ok (.dup, 1) := by decide +kernel
theorem dX6_init_42 : decode cX6_init 42 = .ok (.invokespecial 28, 3) := by decide +kernel
theorem dX6_init_45 : decode cX6_init 45 = .ok (.putfield 29, 3) := by decide +kernel
theorem dX6_init_48 : decode cX6_init 48 = .ok (.aload_n 0, 1) := by decide +kernel
theorem dX6_init_49 : decode cX6_init 49 = .ok (.new 26, 3) := by decide +kernel
theorem dX6_init_52 : decode cX6_init 52 = .ok (.dup, 1) := by decide +kernel
theorem dX6_init_53 : decode cX6_init 53 = .ok (.invokespecial 28, 3) := by decide +kernel
theorem dX6_init_56 : decode cX6_init 56 = .ok (.putfield 33, 3) := by decide +kernel
theorem dX6_init_59 : decode cX6_init 59 = .ok (.aload_n 0, 1) := by decide +kernel
theorem dX6_init_60 : decode cX6_init 60 = .ok (.new 36, 3) := by decide +kernel
theorem dX6_init_63 : decode cX6_init 63 = .ok (.dup, 1) := by decide +kernel
theorem dX6_init_64 : decode cX6_init 64 = .ok (.invokespecial 38, 3) := by decide +kernel
theorem dX6_init_67 : decode cX6_init 67 = .ok (.putfield 39, 3) := by decide +kernel
theorem dX6_init_70 : decode cX6_init 70 = .ok (.return_, 1) := by decide +kernel
theorem dX6_thermometer_0 : decode cX6_thermometer 0 = .ok (.iload_n 1, 1) := by decide +kernel
theorem dX6_thermometer_1 : decode cX6_thermometer 1 = .ok (.invokestatic 43, 3) := by decide +kernel
theorem dX6_thermometer_4 : decode cX6_thermometer 4 = .ok (.iload_n 2, 1) := by decide +kernel
theorem dX6_thermometer_5 : decode cX6_thermometer 5 = .ok (.iconst 1, 1) := by decide +kernel
theorem dX6_thermometer_6 : decode cX6_thermometer 6 = .ok (.bipush 9, 2) := by decide +kernel
theorem dX6_thermometer_8 : decode cX6_thermometer 8 = .ok (.invokestatic 47, 3) := by decide +kernel
theorem dX6_thermometer_11 : decode cX6_thermometer 11 = .ok (.iload_n 3, 1) := by decide +kernel
theorem dX6_thermometer_12 : decode cX6_thermometer 12 = .ok (.sipush (-200), 3) := by decide +kernel
theorem dX6_thermometer_15 : decode cX6_thermometer 15 = .ok (.sipush 200, 3) := by decide +kernel
theorem dX6_thermometer_18 : decode cX6_thermometer 18 = .ok (.invokestatic 47, 3) := by decide +kernel
theorem dX6_thermometer_21 : decode cX6_thermometer 21 = .ok (.iload 4, 2) := by decide +kernel
theorem dX6_thermometer_23 : decode cX6_thermometer 23 = .ok (.iconst 1, 1) := by decide +kernel
theorem dX6_thermometer_24 : decode cX6_thermometer 24 = .ok (.iconst 5, 1) := by decide +kernel
theorem dX6_thermometer_25 : decode cX6_thermometer 25 = .ok (.invokestatic 47, 3) := by decide +kernel
theorem dX6_thermometer_28 : decode cX6_thermometer 28 = .ok (.aload_n 0, 1) := by decide +kernel
theorem dX6_thermometer_29 : decode cX6_thermometer 29 = .ok (.getfield 10, 3) := by decide +kernel
theorem dX6_thermometer_32 : decode cX6_thermometer 32 = .ok (.invokevirtual 51, 3) := by decide +kernel
theorem dX6_thermometer_35 : decode cX6_thermometer 35 = .ok (.ifCond .ne 13, 3) := by decide +kernel
theorem dX6_thermometer_38 : decode cX6_thermometer 38 = .ok (.new 55, 3) := by decide +kernel
theorem dX6_thermometer_41 : decode cX6_thermometer 41 = .ok (.dup, 1) := by decide +kernel
theorem dX6_thermometer_42 : decode cX6_thermometer 42 = .ok (.ldc 57, 2) := by decide +kernel
theorem dX6_thermometer_44 : decode cX6_thermometer 44 = .ok (.invokespecial 59, 3) := by decide +kernel
theorem dX6_thermometer_47 : decode cX6_thermometer 47 = .ok (.athrow, 1) := by decide +kernel
theorem dX6_thermometer_48 : decode cX6_thermometer 48 = .ok (.aload_n 0, 1) := by decide +kernel
theorem dX6_thermometer_49 : decode cX6_thermometer 49 = .ok (.getfield 22, 3) := by decide +kernel
theorem dX6_thermometer_52 : decode cX6_thermometer 52 = .ok (.aload_n 0, 1) := by decide +kernel
theorem dX6_thermometer_53 : decode cX6_thermometer 53 = .ok (.getfield 10, 3) := by decide +kernel
theorem dX6_thermometer_56 : decode cX6_thermometer 56 = .ok (.invokevirtual 62, 3) := by decide +kernel
theorem dX6_thermometer_59 : decode cX6_thermometer 59 = .ok (.aload_n 0, 1) := by decide +kernel
theorem dX6_thermometer_60 : decode cX6_thermometer 60 = .ok (.getfield 10, 3) := by decide +kernel
theorem dX6_thermometer_63 : decode cX6_thermometer 63 = .ok (.iload_n 1, 1) := by decide +kernel
theorem dX6_thermometer_64 : decode cX6_thermometer 64 = .ok (.iload_n 2, 1) := by decide +kernel
theorem dX6_thermometer_65 : decode cX6_thermometer 65 = .ok (.iload_n 3, 1) := by decide +kernel
theorem dX6_thermometer_66 : decode cX6_thermometer 66 = .ok (.iload 4, 2) := by decide +kernel
theorem dX6_thermometer_68 : decode cX6_thermometer 68 = .ok (.invokevirtual 66, 3) := by decide +kernel
theorem dX6_thermometer_71 : decode cX6_thermometer 71 = .ok (.ireturn, 1) := by decide +kernel
theorem dX6_hour_0 : decode cX6_hour 0 = .ok (.iload_n 1, 1) := by decide +kernel
theorem dX6_hour_1 : decode cX6_hour 1 = .ok (.sipush (-5000), 3) := by decide +kernel
theorem dX6_hour_4 : decode cX6_hour 4 = .ok (.sipush 5000, 3) := by decide +kernel
theorem dX6_hour_7 : decode cX6_hour 7 = .ok (.invokestatic 47, 3) := by decide +kernel
theorem dX6_hour_10 : decode cX6_hour 10 = .ok (.aload_n 0, 1) := by decide +kernel
theorem dX6_hour_11 : decode cX6_hour 11 = .ok (.iconst 1, 1) := by decide +kernel
theorem dX6_hour_12 : decode cX6_hour 12 = .ok (.invokevirtual 70, 3) := by decide +kernel
theorem dX6_hour_15 : decode cX6_hour 15 = .ok (.aload_n 0, 1) := by decide +kernel
theorem dX6_hour_16 : decode cX6_hour 16 = .ok (.getfield 22, 3) := by decide +kernel
theorem dX6_hour_19 : decode cX6_hour 19 = .ok (.aload_n 0, 1) := by decide +kernel
theorem dX6_hour_20 : decode cX6_hour 20 = .ok (.getfield 10, 3) := by decide +kernel
theorem dX6_hour_23 : decode cX6_hour 23 = .ok (.invokevirtual 62, 3) := by decide +kernel
theorem dX6_hour_26 : decode cX6_hour 26 = .ok (.aload_n 0, 1) := by decide +kernel
theorem dX6_hour_27 : decode cX6_hour 27 = .ok (.getfield 10, 3) := by decide +kernel
theorem dX6_hour_30 : decode cX6_hour 30 = .ok (.iload_n 1, 1) := by decide +kernel
theorem dX6_hour_31 : decode cX6_hour 31 = .ok (.invokevirtual 73, 3) := by decide +kernel
theorem dX6_hour_34 : decode cX6_hour 34 = .ok (.ireturn, 1) := by decide +kernel
theorem dX6_hours_0 : decode cX6_hours 0 = .ok (.iload_n 1, 1) := by decide +kernel
theorem dX6_hours_1 : decode cX6_hours 1 = .ok (.iconst 1, 1) := by decide +kernel
theorem dX6_hours_2 : decode cX6_hours 2 = .ok (.bipush 24, 2) := by decide +kernel
theorem dX6_hours_4 : decode cX6_hours 4 = .ok (.invokestatic 47, 3) := by decide +kernel
theorem dX6_hours_7 : decode cX6_hours 7 = .ok (.iload_n 2, 1) := by decide +kernel
theorem dX6_hours_8 : decode cX6_hours 8 = .ok (.sipush (-500), 3) := by decide +kernel
theorem dX6_hours_11 : decode cX6_hours 11 = .ok (.sipush 500, 3) := by decide +kernel
theorem dX6_hours_14 : decode cX6_hours 14 = .ok (.invokestatic 47, 3) := by decide +kernel
theorem dX6_hours_17 : decode cX6_hours 17 = .ok (.aload_n 0, 1) := by decide +kernel
theorem dX6_hours_18 : decode cX6_hours 18 = .ok (.iload_n 1, 1) := by decide +kernel
theorem dX6_hours_19 : decode cX6_hours 19 = .ok (.invokevirtual 70, 3) := by decide +kernel
theorem dX6_hours_22 : decode cX6_hours 22 = .ok (.aload_n 0, 1) := by decide +kernel
theorem dX6_hours_23 : decode cX6_hours 23 = .ok (.getfield 22, 3) := by decide +kernel
theorem dX6_hours_26 : decode cX6_hours 26 = .ok (.aload_n 0, 1) := by decide +kernel
theorem dX6_hours_27 : decode cX6_hours 27 = .ok (.getfield 10, 3) := by decide +kernel
theorem dX6_hours_30 : decode cX6_hours 30 = .ok (.invokevirtual 62, 3) := by decide +kernel
theorem dX6_hours_33 : decode cX6_hours 33 = .ok (.aload_n 0, 1) := by decide +kernel
theorem dX6_hours_34 : decode cX6_hours 34 = .ok (.getfield 10, 3) := by decide +kernel
theorem dX6_hours_37 : decode cX6_hours 37 = .ok (.iload_n 1, 1) := by decide +kernel
theorem dX6_hours_38 : decode cX6_hours 38 = .ok (.iload_n 2, 1) := by decide +kernel
theorem dX6_hours_39 : decode cX6_hours 39 = .ok (.invokevirtual 77, 3) := by decide +kernel
theorem dX6_hours_42 : decode cX6_hours 42 = .ok (.aload_n 0, 1) := by decide +kernel
theorem dX6_hours_43 : decode cX6_hours 43 = .ok (.getfield 10, 3) := by decide +kernel
theorem dX6_hours_46 : decode cX6_hours 46 = .ok (.getfield 81, 3) := by decide +kernel
theorem dX6_hours_49 : decode cX6_hours 49 = .ok (.ireturn, 1) := by decide +kernel
theorem dX6_period_0 : decode cX6_period 0 = .ok (.iload_n 1, 1) := by decide +kernel
theorem dX6_period_1 : decode cX6_period 1 = .ok (.invokestatic 43, 3) := by decide +kernel
theorem dX6_period_4 : decode cX6_period 4 = .ok (.iload_n 2, 1) := by decide +kernel
theorem dX6_period_5 : decode cX6_period 5 = .ok (.iconst 1, 1) := by decide +kernel
theorem dX6_period_6 : decode cX6_period 6 = .ok (.bipush 6, 2) := by decide +kernel
theorem dX6_period_8 : decode cX6_period 8 = .ok (.invokestatic 47, 3) := by decide +kernel
theorem dX6_period_11 : decode cX6_period 11 = .ok (.aload_n 0, 1) := by decide +kernel
theorem dX6_period_12 : decode cX6_period 12 = .ok (.getfield 22, 3) := by decide +kernel
theorem dX6_period_15 : decode cX6_period 15 = .ok (.aload_n 0, 1) := by decide +kernel
theorem dX6_period_16 : decode cX6_period 16 = .ok (.getfield 10, 3) := by decide +kernel
theorem dX6_period_19 : decode cX6_period 19 = .ok (.invokevirtual 62, 3) := by decide +kernel
theorem dX6_period_22 : decode cX6_period 22 = .ok (.aload_n 0, 1) := by decide +kernel
theorem dX6_period_23 : decode cX6_period 23 = .ok (.getfield 10, 3) := by decide +kernel
theorem dX6_period_26 : decode cX6_period 26 = .ok (.iload_n 1, 1) := by decide +kernel
theorem dX6_period_27 : decode cX6_period 27 = .ok (.invokevirtual 85, 3) := by decide +kernel
theorem dX6_period_30 : decode cX6_period 30 = .ok (.istore_n 3, 1) := by decide +kernel
theorem dX6_period_31 : decode cX6_period 31 = .ok (.aload_n 0, 1) := by decide +kernel
theorem dX6_period_32 : decode cX6_period 32 = .ok (.getfield 10, 3) := by decide +kernel
theorem dX6_period_35 : decode cX6_period 35 = .ok (.iload_n 1, 1) := by decide +kernel
theorem dX6_period_36 : decode cX6_period 36 = .ok (.iload_n 2, 1) := by decide +kernel
theorem dX6_period_37 : decode cX6_period 37 = .ok (.invokevirtual 88, 3) := by decide +kernel
theorem dX6_period_40 : decode cX6_period 40 = .ok (.iload_n 3, 1) := by decide +kernel
theorem dX6_period_41 : decode cX6_period 41 = .ok (.ireturn, 1) := by decide +kernel
theorem dX6_calibrate_0 : decode cX6_calibrate 0 = .ok (.aload_n 0, 1) := by decide +kernel
theorem dX6_calibrate_1 : decode cX6_calibrate 1 = .ok (.iload_n 1, 1) := by decide +kernel
theorem dX6_calibrate_2 : decode cX6_calibrate 2 = .ok (.invokevirtual 91, 3) := by decide +kernel
theorem dX6_calibrate_5 : decode cX6_calibrate 5 = .ok (.aload_n 0, 1) := by decide +kernel
theorem dX6_calibrate_6 : decode cX6_calibrate 6 = .ok (.getfield 22, 3) := by decide +kernel
theorem dX6_calibrate_9 : decode cX6_calibrate 9 = .ok (.aload_n 0, 1) := by decide +kernel
theorem dX6_calibrate_10 : decode cX6_calibrate 10 = .ok (.getfield 10, 3) := by decide +kernel
theorem dX6_calibrate_13 : decode cX6_calibrate 13 = .ok (.invokevirtual 62, 3) := by decide +kernel
theorem dX6_calibrate_16 : decode cX6_calibrate 16 = .ok (.aload_n 0, 1) := by decide +kernel
theorem dX6_calibrate_17 : decode cX6_calibrate 17 = .ok (.getfield 10, 3) := by decide +kernel
theorem dX6_calibrate_20 : decode cX6_calibrate 20 = .ok (.iload_n 1, 1) := by decide +kernel
theorem dX6_calibrate_21 : decode cX6_calibrate 21 = .ok (.invokevirtual 94, 3) := by decide +kernel
theorem dX6_calibrate_24 : decode cX6_calibrate 24 = .ok (.getfield 98, 3) := by decide +kernel
theorem dX6_calibrate_27 : decode cX6_calibrate 27 = .ok (.istore_n 2, 1) := by decide +kernel
theorem dX6_calibrate_28 : decode cX6_calibrate 28 = .ok (.aload_n 0, 1) := by decide +kernel
theorem dX6_calibrate_29 : decode cX6_calibrate 29 = .ok (.getfield 10, 3) := by decide +kernel
theorem dX6_calibrate_32 : decode cX6_calibrate 32 = .ok (.iload_n 1, 1) := by decide +kernel
theorem dX6_calibrate_33 : decode cX6_calibrate 33 = .ok (.invokevirtual 94, 3) := by decide +kernel
theorem dX6_calibrate_36 : decode cX6_calibrate 36 = .ok (.aload_n 0, 1) := by decide +kernel
theorem dX6_calibrate_37 : decode cX6_calibrate 37 = .ok (.getfield 10, 3) := by decide +kernel
theorem dX6_calibrate_40 : decode cX6_calibrate 40 = .ok (.getfield 81, 3) := by decide +kernel
theorem dX6_calibrate_43 : decode cX6_calibrate 43 = .ok (.invokevirtual 103, 3) := by decide +kernel
theorem dX6_calibrate_46 : decode cX6_calibrate 46 = .ok (.iload_n 2, 1) := by decide +kernel
theorem dX6_calibrate_47 : decode cX6_calibrate 47 = .ok (.ireturn, 1) := by decide +kernel
theorem dX6_knock_0 : decode cX6_knock 0 = .ok (.aload_n 0, 1) := by decide +kernel
theorem dX6_knock_1 : decode cX6_knock 1 = .ok (.iload_n 1, 1) := by decide +kernel
theorem dX6_knock_2 : decode cX6_knock 2 = .ok (.invokevirtual 91, 3) := by decide +kernel
theorem dX6_knock_5 : decode cX6_knock 5 = .ok (.iload_n 2, 1) := by decide +kernel
theorem dX6_knock_6 : decode cX6_knock 6 = .ok (.sipush (-3000), 3) := by decide +kernel
theorem dX6_knock_9 : decode cX6_knock 9 = .ok (.sipush 3000, 3) := by decide +kernel
theorem dX6_knock_12 : decode cX6_knock 12 = .ok (.invokestatic 47, 3) := by decide +kernel
theorem dX6_knock_15 : decode cX6_knock 15 = .ok (.aload_n 0, 1) := by decide +kernel
theorem dX6_knock_16 : decode cX6_knock 16 = .ok (.getfield 10, 3) := by decide +kernel
theorem dX6_knock_19 : decode cX6_knock 19 = .ok (.iload_n 1, 1) := by decide +kernel
theorem dX6_knock_20 : decode cX6_knock 20 = .ok (.invokevirtual 94, 3) := by decide +kernel
theorem dX6_knock_23 : decode cX6_knock 23 = .ok (.getfield 106, 3) := by decide +kernel
theorem dX6_knock_26 : decode cX6_knock 26 = .ok (.iload_n 2, 1) := by decide +kernel
theorem dX6_knock_27 : decode cX6_knock 27 = .ok (.iadd, 1) := by decide +kernel
theorem dX6_knock_28 : decode cX6_knock 28 = .ok (.istore_n 3, 1) := by decide +kernel
theorem dX6_knock_29 : decode cX6_knock 29 = .ok (.iload_n 3, 1) := by decide +kernel
theorem dX6_knock_30 : decode cX6_knock 30 = .ok (.sipush (-20000), 3) := by decide +kernel
theorem dX6_knock_33 : decode cX6_knock 33 = .ok (.if_icmp .lt 10, 3) := by decide +kernel
theorem dX6_knock_36 : decode cX6_knock 36 = .ok (.iload_n 3, 1) := by decide +kernel
theorem dX6_knock_37 : decode cX6_knock 37 = .ok (.sipush 20000, 3) := by decide +kernel
theorem dX6_knock_40 : decode cX6_knock 40 = .ok (.if_icmp .le 13, 3) := by decide +kernel
theorem dX6_knock_43 : decode cX6_knock 43 = .ok (.new 55, 3) := by decide +kernel
theorem dX6_knock_46 : decode cX6_knock 46 = .ok (.dup, 1) := by decide +kernel
theorem dX6_knock_47 : decode cX6_knock 47 = .ok (.ldc 109, 2) := by decide +kernel
theorem dX6_knock_49 : decode cX6_knock 49 = .ok (.invokespecial 59, 3) := by decide +kernel
theorem dX6_knock_52 : decode cX6_knock 52 = .ok (.athrow, 1) := by decide +kernel
theorem dX6_knock_53 : decode cX6_knock 53 = .ok (.aload_n 0, 1) := by decide +kernel
theorem dX6_knock_54 : decode cX6_knock 54 = .ok (.getfield 22, 3) := by decide +kernel
theorem dX6_knock_57 : decode cX6_knock 57 = .ok (.aload_n 0, 1) := by decide +kernel
theorem dX6_knock_58 : decode cX6_knock 58 = .ok (.getfield 10, 3) := by decide +kernel
theorem dX6_knock_61 : decode cX6_knock 61 = .ok (.invokevirtual 62, 3) := by decide +kernel
theorem dX6_knock_64 : decode cX6_knock 64 = .ok (.aload_n 0, 1) := by decide +kernel
theorem dX6_knock_65 : decode cX6_knock 65 = .ok (.getfield 10, 3) := by decide +kernel
theorem dX6_knock_68 : decode cX6_knock 68 = .ok (.iload_n 1, 1) := by decide +kernel
theorem dX6_knock_69 : decode cX6_knock 69 = .ok (.invokevirtual 94, 3) := by decide +kernel
theorem dX6_knock_72 : decode cX6_knock 72 = .ok (.iload_n 3, 1) := by decide +kernel
theorem dX6_knock_73 : decode cX6_knock 73 = .ok (.putfield 106, 3) := by decide +kernel
theorem dX6_knock_76 : decode cX6_knock 76 = .ok (.iload_n 3, 1) := by decide +kernel
theorem dX6_knock_77 : decode cX6_knock 77 = .ok (.ldc 111, 2) := by decide +kernel
theorem dX6_knock_79 : decode cX6_knock 79 = .ok (.iadd, 1) := by decide +kernel
theorem dX6_knock_80 : decode cX6_knock 80 = .ok (.ireturn, 1) := by decide +kernel
theorem dX6_set_0 : decode cX6_set 0 = .ok (.iload_n 1, 1) := by decide +kernel
theorem dX6_set_1 : decode cX6_set 1 = .ok (.ifCond .eq 18, 3) := by decide +kernel
theorem dX6_set_4 : decode cX6_set 4 = .ok (.iload_n 1, 1) := by decide +kernel
theorem dX6_set_5 : decode cX6_set 5 = .ok (.iconst 1, 1) := by decide +kernel
theorem dX6_set_6 : decode cX6_set 6 = .ok (.if_icmp .eq 13, 3) := by decide +kernel
theorem dX6_set_9 : decode cX6_set 9 = .ok (.new 112, 3) := by decide +kernel
theorem dX6_set_12 : decode cX6_set 12 = .ok (.dup, 1) := by decide +kernel
theorem dX6_set_13 : decode cX6_set 13 = .ok (.ldc 114, 2) := by decide +kernel
theorem dX6_set_15 : decode cX6_set 15 = .ok (.invokespecial 116, 3) := by decide +kernel
theorem dX6_set_18 : decode cX6_set 18 = .ok (.athrow, 1) := by decide +kernel
theorem dX6_set_19 : decode cX6_set 19 = .ok (.iload_n 2, 1) := by decide +kernel
theorem dX6_set_20 : decode cX6_set 20 = .ok (.iload_n 1, 1) := by decide +kernel
theorem dX6_set_21 : decode cX6_set 21 = .ok (.ifCond .ne 8, 3) := by decide +kernel
theorem dX6_set_24 : decode cX6_set 24 = .ok (.bipush 10, 2) := by decide +kernel
theorem dX6_set_26 : decode cX6_set 26 = .ok (.goto 4, 3) := by decide +kernel
theorem dX6_set_29 : decode cX6_set 29 = .ok (.iconst 1, 1) := by decide +kernel
theorem dX6_set_30 : decode cX6_set 30 = .ok (.iload_n 1, 1) := by decide +kernel
theorem dX6_set_31 : decode cX6_set 31 = .ok (.ifCond .ne 9, 3) := by decide +kernel
theorem dX6_set_34 : decode cX6_set 34 = .ok (.sipush 2000, 3) := by decide +kernel
theorem dX6_set_37 : decode cX6_set 37 = .ok (.goto 4, 3) := by decide +kernel
theorem dX6_set_40 : decode cX6_set 40 = .ok (.iconst 5, 1) := by decide +kernel
theorem dX6_set_41 : decode cX6_set 41 = .ok (.invokestatic 47, 3) := by decide +kernel
theorem dX6_set_44 : decode cX6_set 44 = .ok (.aload_n 0, 1) := by decide +kernel
theorem dX6_set_45 : decode cX6_set 45 = .ok (.getfield 22, 3) := by decide +kernel
theorem dX6_set_48 : decode cX6_set 48 = .ok (.aload_n 0, 1) := by decide +kernel
theorem dX6_set_49 : decode cX6_set 49 = .ok (.getfield 10, 3) := by decide +kernel
theorem dX6_set_52 : decode cX6_set 52 = .ok (.invokevirtual 62, 3) := by decide +kernel
theorem dX6_set_55 : decode cX6_set 55 = .ok (.iload_n 1, 1) := by decide +kernel
theorem dX6_set_56 : decode cX6_set 56 = .ok (.ifCond .ne 13, 3) := by decide +kernel
theorem dX6_set_59 : decode cX6_set 59 = .ok (.aload_n 0, 1) := by decide +kernel
theorem dX6_set_60 : decode cX6_set 60 = .ok (.getfield 10, 3) := by decide +kernel
theorem dX6_set_63 : decode cX6_set 63 = .ok (.getfield 117, 3) := by decide +kernel
theorem dX6_set_66 : decode cX6_set 66 = .ok (.goto 10, 3) := by decide +kernel
theorem dX6_set_69 : decode cX6_set 69 = .ok (.aload_n 0, 1) := by decide +kernel
theorem dX6_set_70 : decode cX6_set 70 = .ok (.getfield 10, 3) := by decide +kernel
theorem dX6_set_73 : decode cX6_set 73 = .ok (.getfield 120, 3) := by decide +kernel
theorem dX6_set_76 : decode cX6_set 76 = .ok (.istore_n 3, 1) := by decide +kernel
theorem dX6_set_77 : decode cX6_set 77 = .ok (.iload_n 1, 1) := by decide +kernel
theorem dX6_set_78 : decode cX6_set 78 = .ok (.ifCond .ne 14, 3) := by decide +kernel
theorem dX6_set_81 : decode cX6_set 81 = .ok (.aload_n 0, 1) := by decide +kernel
theorem dX6_set_82 : decode cX6_set 82 = .ok (.getfield 10, 3) := by decide +kernel
theorem dX6_set_85 : decode cX6_set 85 = .ok (.iload_n 2, 1) := by decide +kernel
theorem dX6_set_86 : decode cX6_set 86 = .ok (.putfield 117, 3) := by decide +kernel
theorem dX6_set_89 : decode cX6_set 89 = .ok (.goto 11, 3) := by decide +kernel
theorem dX6_set_92 : decode cX6_set 92 = .ok (.aload_n 0, 1) := by decide +kernel
theorem dX6_set_93 : decode cX6_set 93 = .ok (.getfield 10, 3) := by decide +kernel
theorem dX6_set_96 : decode cX6_set 96 = .ok (.iload_n 2, 1) := by decide +kernel
theorem dX6_set_97 : decode cX6_set 97 = .ok (.putfield 120, 3) := by decide +kernel
theorem dX6_set_100 : decode cX6_set 100 = .ok (.iload_n 3, 1) := by decide +kernel
theorem dX6_set_101 : decode cX6_set 101 = .ok (.ireturn, 1) := by decide +kernel
theorem dX6_append_0 : decode cX6_append 0 = .ok (.iload_n 1, 1) := by decide +kernel
theorem dX6_append_1 : decode cX6_append 1 = .ok (.bipush 33, 2) := by decide +kernel
theorem dX6_append_3 : decode cX6_append 3 = .ok (.bipush 126, 2) := by decide +kernel
theorem dX6_append_5 : decode cX6_append 5 = .ok (.invokestatic 47, 3) := by decide +kernel
theorem dX6_append_8 : decode cX6_append 8 = .ok (.aload_n 0, 1) := by decide +kernel
theorem dX6_append_9 : decode cX6_append 9 = .ok (.getfield 39, 3) := by decide +kernel
theorem dX6_append_12 : decode cX6_append 12 = .ok (.invokevirtual 123, 3) := by decide +kernel
theorem dX6_append_15 : decode cX6_append 15 = .ok (.ifCond .eq 13, 3) := by decide +kernel
theorem dX6_append_18 : decode cX6_append 18 = .ok (.new 55, 3) := by decide +kernel
theorem dX6_append_21 : decode cX6_append 21 = .ok (.dup, 1) := by decide +kernel
theorem dX6_append_22 : decode cX6_append 22 = .ok (.ldc 126, 2) := by decide +kernel
theorem dX6_append_24 : decode cX6_append 24 = .ok (.invokespecial 59, 3) := by decide +kernel
theorem dX6_append_27 : decode cX6_append 27 = .ok (.athrow, 1) := by decide +kernel
theorem dX6_append_28 : decode cX6_append 28 = .ok (.aload_n 0, 1) := by decide +kernel
theorem dX6_append_29 : decode cX6_append 29 = .ok (.getfield 39, 3) := by decide +kernel
theorem dX6_append_32 : decode cX6_append 32 = .ok (.iload_n 1, 1) := by decide +kernel
theorem dX6_append_33 : decode cX6_append 33 = .ok (.i2c, 1) := by decide +kernel
theorem dX6_append_34 : decode cX6_append 34 = .ok (.invokevirtual 128, 3) := by decide +kernel
theorem dX6_append_37 : decode cX6_append 37 = .ok (.aload_n 0, 1) := by decide +kernel
theorem dX6_append_38 : decode cX6_append 38 = .ok (.getfield 39, 3) := by decide +kernel
theorem dX6_append_41 : decode cX6_append 41 = .ok (.getfield 132, 3) := by decide +kernel
theorem dX6_append_44 : decode cX6_append 44 = .ok (.ireturn, 1) := by decide +kernel
theorem dX6_clearBuffer_0 : decode cX6_clearBuffer 0 = .ok (.aload_n 0, 1) := by decide +kernel
theorem dX6_clearBuffer_1 : decode cX6_clearBuffer 1 = .ok (.getfield 39, 3) := by decide +kernel
theorem dX6_clearBuffer_4 : decode cX6_clearBuffer 4 = .ok (.getfield 132, 3) := by decide +kernel
theorem dX6_clearBuffer_7 : decode cX6_clearBuffer 7 = .ok (.istore_n 1, 1) := by decide +kernel
theorem dX6_clearBuffer_8 : decode cX6_clearBuffer 8 = .ok (.aload_n 0, 1) := by decide +kernel
theorem dX6_clearBuffer_9 : decode cX6_clearBuffer 9 = .ok (.getfield 39, 3) := by decide +kernel
theorem dX6_clearBuffer_12 : decode cX6_clearBuffer 12 = .ok (.iconst 0, 1) := by decide +kernel
theorem dX6_clearBuffer_13 : decode cX6_clearBuffer 13 = .ok (.putfield 132, 3) := by decide +kernel
theorem dX6_clearBuffer_16 : decode cX6_clearBuffer 16 = .ok (.iload_n 1, 1) := by decide +kernel
theorem dX6_clearBuffer_17 : decode cX6_clearBuffer 17 = .ok (.ireturn, 1) := by decide +kernel
theorem dX6_firstError_0 : decode cX6_firstError 0 = .ok (.aload_n 0, 1) := by decide +kernel
theorem dX6_firstError_1 : decode cX6_firstError 1 = .ok (.getfield 39, 3) := by decide +kernel
theorem dX6_firstError_4 : decode cX6_firstError 4 = .ok (.invokevirtual 135, 3) := by decide +kernel
theorem dX6_firstError_7 : decode cX6_firstError 7 = .ok (.ireturn, 1) := by decide +kernel
theorem dX6_execute_0 : decode cX6_execute 0 = .ok (.aload_n 0, 1) := by decide +kernel
theorem dX6_execute_1 : decode cX6_execute 1 = .ok (.getfield 39, 3) := by decide +kernel
theorem dX6_execute_4 : decode cX6_execute 4 = .ok (.invokevirtual 139, 3) := by decide +kernel
theorem dX6_execute_7 : decode cX6_execute 7 = .ok (.ifCond .ne 13, 3) := by decide +kernel
theorem dX6_execute_10 : decode cX6_execute 10 = .ok (.new 142, 3) := by decide +kernel
theorem dX6_execute_13 : decode cX6_execute 13 = .ok (.dup, 1) := by decide +kernel
theorem dX6_execute_14 : decode cX6_execute 14 = .ok (.ldc 144, 2) := by decide +kernel
theorem dX6_execute_16 : decode cX6_execute 16 = .ok (.invokespecial 146, 3) := by decide +kernel
theorem dX6_execute_19 : decode cX6_execute 19 = .ok (.athrow, 1) := by decide +kernel
theorem dX6_execute_20 : decode cX6_execute 20 = .ok (.aload_n 0, 1) := by decide +kernel
theorem dX6_execute_21 : decode cX6_execute 21 = .ok (.getfield 22, 3) := by decide +kernel
theorem dX6_execute_24 : decode cX6_execute 24 = .ok (.aload_n 0, 1) := by decide +kernel
theorem dX6_execute_25 : decode cX6_execute 25 = .ok (.getfield 10, 3) := by decide +kernel
theorem dX6_execute_28 : decode cX6_execute 28 = .ok (.invokevirtual 62, 3) := by decide +kernel
theorem dX6_execute_31 : decode cX6_execute 31 = .ok (.iconst 0, 1) := by decide +kernel
theorem dX6_execute_32 : decode cX6_execute 32 = .ok (.istore_n 1, 1) := by decide +kernel
theorem dX6_execute_33 : decode cX6_execute 33 = .ok (.aload_n 0, 1) := by decide +kernel
theorem dX6_execute_34 : decode cX6_execute 34 = .ok (.getfield 39, 3) := by decide +kernel
theorem dX6_execute_37 : decode cX6_execute 37 = .ok (.invokevirtual 147, 3) := by decide +kernel
theorem dX6_execute_40 : decode cX6_execute 40 = .ok (.iload_n 1, 1) := by decide +kernel
theorem dX6_execute_41 : decode cX6_execute 41 = .ok (.bipush 60, 2) := by decide +kernel
theorem dX6_execute_43 : decode cX6_execute 43 = .ok (.if_icmp .ge 26, 3) := by decide +kernel
theorem dX6_execute_46 : decode cX6_execute 46 = .ok (.aload_n 0, 1) := by decide +kernel
theorem dX6_execute_47 : decode cX6_execute 47 = .ok (.getfield 39, 3) := by decide +kernel
theorem dX6_execute_50 : decode cX6_execute 50 = .ok (.invokevirtual 150, 3) := by decide +kernel
theorem dX6_execute_53 : decode cX6_execute 53 = .ok (.ifCond .eq 16, 3) := by decide +kernel
theorem dX6_execute_56 : decode cX6_execute 56 = .ok (.aload_n 0, 1) := by decide +kernel
theorem dX6_execute_57 : decode cX6_execute 57 = .ok (.invokevirtual 153, 3) := by decide +kernel
theorem dX6_execute_60 : decode cX6_execute 60 = .ok (.ifCond .eq 9, 3) := by decide +kernel
theorem dX6_execute_63 : decode cX6_execute 63 = .ok (.iinc 1 1, 3) := by decide +kernel
theorem dX6_execute_66 : decode cX6_execute 66 = .ok (.goto (-26), 3) := by decide +kernel
theorem dX6_execute_69 : decode cX6_execute 69 = .ok (.aload_n 0, 1) := by decide +kernel
theorem dX6_execute_70 : decode cX6_execute 70 = .ok (.getfield 39, 3) := by decide +kernel
theorem dX6_execute_73 : decode cX6_execute 73 = .ok (.iconst 0, 1) := by decide +kernel
theorem dX6_execute_74 : decode cX6_execute 74 = .ok (.putfield 132, 3) := by decide +kernel
theorem dX6_execute_77 : decode cX6_execute 77 = .ok (.iload_n 1, 1) := by decide +kernel
theorem dX6_execute_78 : decode cX6_execute 78 = .ok (.ireturn, 1) := by decide +kernel
theorem dX6_undo_0 : decode cX6_undo 0 = .ok (.aload_n 0, 1) := by decide +kernel
theorem dX6_undo_1 : decode cX6_undo 1 = .ok (.getfield 22, 3) := by decide +kernel
theorem dX6_undo_4 : decode cX6_undo 4 = .ok (.getfield 156, 3) := by decide +kernel
theorem dX6_undo_7 : decode cX6_undo 7 = .ok (.ifCond .ne 13, 3) := by decide +kernel
theorem dX6_undo_10 : decode cX6_undo 10 = .ok (.new 55, 3) := by decide +kernel
theorem dX6_undo_13 : decode cX6_undo 13 = .ok (.dup, 1) := by decide +kernel
theorem dX6_undo_14 : decode cX6_undo 14 = .ok (.ldc 159, 2) := by decide +kernel
theorem dX6_undo_16 : decode cX6_undo 16 = .ok (.invokespecial 59, 3) := by decide +kernel
theorem dX6_undo_19 : decode cX6_undo 19 = .ok (.athrow, 1) := by decide +kernel
theorem dX6_undo_20 : decode cX6_undo 20 = .ok (.aload_n 0, 1) := by decide +kernel
theorem dX6_undo_21 : decode cX6_undo 21 = .ok (.getfield 22, 3) := by decide +kernel
theorem dX6_undo_24 : decode cX6_undo 24 = .ok (.aload_n 0, 1) := by decide +kernel
theorem dX6_undo_25 : decode cX6_undo 25 = .ok (.getfield 10, 3) := by decide +kernel
theorem dX6_undo_28 : decode cX6_undo 28 = .ok (.invokevirtual 161, 3) := by decide +kernel
theorem dX6_undo_31 : decode cX6_undo 31 = .ok (.aload_n 0, 1) := by decide +kernel
theorem dX6_undo_32 : decode cX6_undo 32 = .ok (.getfield 22, 3) := by decide +kernel
theorem dX6_undo_35 : decode cX6_undo 35 = .ok (.getfield 156, 3) := by decide +kernel
theorem dX6_undo_38 : decode cX6_undo 38 = .ok (.ireturn, 1) := by decide +kernel
theorem dX6_keep_0 : decode cX6_keep 0 = .ok (.iload_n 1, 1) := by decide +kernel
theorem dX6_keep_1 : decode cX6_keep 1 = .ok (.iconst 0, 1) := by decide +kernel
theorem dX6_keep_2 : decode cX6_keep 2 = .ok (.iconst 1, 1) := by decide +kernel
theorem dX6_keep_3 : decode cX6_keep 3 = .ok (.invokestatic 47, 3) := by decide +kernel
theorem dX6_keep_6 : decode cX6_keep 6 = .ok (.aload_n 0, 1) := by decide +kernel
theorem dX6_keep_7 : decode cX6_keep 7 = .ok (.iload_n 1, 1) := by decide +kernel
theorem dX6_keep_8 : decode cX6_keep 8 = .ok (.invokevirtual 164, 3) := by decide +kernel
theorem dX6_keep_11 : decode cX6_keep 11 = .ok (.aload_n 0, 1) := by decide +kernel
theorem dX6_keep_12 : decode cX6_keep 12 = .ok (.getfield 10, 3) := by decide +kernel
theorem dX6_keep_15 : decode cX6_keep 15 = .ok (.invokevirtual 168, 3) := by decide +kernel
theorem dX6_keep_18 : decode cX6_keep 18 = .ok (.aload_n 0, 1) := by decide +kernel
theorem dX6_keep_19 : decode cX6_keep 19 = .ok (.getfield 10, 3) := by decide +kernel
theorem dX6_keep_22 : decode cX6_keep 22 = .ok (.getfield 171, 3) := by decide +kernel
theorem dX6_keep_25 : decode cX6_keep 25 = .ok (.ireturn, 1) := by decide +kernel
theorem dX6_goBack_0 : decode cX6_goBack 0 = .ok (.iload_n 1, 1) := by decide +kernel
theorem dX6_goBack_1 : decode cX6_goBack 1 = .ok (.iconst 0, 1) := by decide +kernel
theorem dX6_goBack_2 : decode cX6_goBack 2 = .ok (.iconst 1, 1) := by decide +kernel
theorem dX6_goBack_3 : decode cX6_goBack 3 = .ok (.invokestatic 47, 3) := by decide +kernel
theorem dX6_goBack_6 : decode cX6_goBack 6 = .ok (.aload_n 0, 1) := by decide +kernel
theorem dX6_goBack_7 : decode cX6_goBack 7 = .ok (.iload_n 1, 1) := by decide +kernel
theorem dX6_goBack_8 : decode cX6_goBack 8 = .ok (.invokevirtual 164, 3) := by decide +kernel
theorem dX6_goBack_11 : decode cX6_goBack 11 = .ok (.getfield 174, 3) := by decide +kernel
theorem dX6_goBack_14 : decode cX6_goBack 14 = .ok (.ifCond .ne 13, 3) := by decide +kernel
theorem dX6_goBack_17 : decode cX6_goBack 17 = .ok (.new 55, 3) := by decide +kernel
theorem dX6_goBack_20 : decode cX6_goBack 20 = .ok (.dup, 1) := by decide +kernel
theorem dX6_goBack_21 : decode cX6_goBack 21 = .ok (.ldc 178, 2) := by decide +kernel
theorem dX6_goBack_23 : decode cX6_goBack 23 = .ok (.invokespecial 59, 3) := by decide +kernel
theorem dX6_goBack_26 : decode cX6_goBack 26 = .ok (.athrow, 1) := by decide +kernel
theorem dX6_goBack_27 : decode cX6_goBack 27 = .ok (.aload_n 0, 1) := by decide +kernel
theorem dX6_goBack_28 : decode cX6_goBack 28 = .ok (.getfield 22, 3) := by decide +kernel
theorem dX6_goBack_31 : decode cX6_goBack 31 = .ok (.aload_n 0, 1) := by decide +kernel
theorem dX6_goBack_32 : decode cX6_goBack 32 = .ok (.getfield 10, 3) := by decide +kernel
theorem dX6_goBack_35 : decode cX6_goBack 35 = .ok (.invokevirtual 62, 3) := by decide +kernel
theorem dX6_goBack_38 : decode cX6_goBack 38 = .ok (.aload_n 0, 1) := by decide +kernel
theorem dX6_goBack_39 : decode cX6_goBack 39 = .ok (.getfield 10, 3) := by decide +kernel
theorem dX6_goBack_42 : decode cX6_goBack 42 = .ok (.aload_n 0, 1) := by decide +kernel
theorem dX6_goBack_43 : decode cX6_goBack 43 = .ok (.iload_n 1, 1) := by decide +kernel
theorem dX6_goBack_44 : decode cX6_goBack 44 = .ok (.invokevirtual 164, 3) := by decide +kernel
theorem dX6_goBack_47 : decode cX6_goBack 47 = .ok (.getfield 180, 3) := by decide +kernel
theorem dX6_goBack_50 : decode cX6_goBack 50 = .ok (.invokevirtual 183, 3) := by decide +kernel
theorem dX6_goBack_53 : decode cX6_goBack 53 = .ok (.aload_n 0, 1) := by decide +kernel
theorem dX6_goBack_54 : decode cX6_goBack 54 = .ok (.getfield 10, 3) := by decide +kernel
theorem dX6_goBack_57 : decode cX6_goBack 57 = .ok (.getfield 171, 3) := by decide +kernel
theorem dX6_goBack_60 : decode cX6_goBack 60 = .ok (.ireturn, 1) := by decide +kernel
theorem dX6_ofThermometer_0 : decode cX6_ofThermometer 0 = .ok (.aload_n 0, 1) := by decide +kernel
theorem dX6_ofThermometer_1 : decode cX6_ofThermometer 1 = .ok (.iload_n 1, 1) := by decide +kernel
theorem dX6_ofThermometer_2 : decode cX6_ofThermometer 2 = .ok (.invokevirtual 91, 3) := by decide +kernel
theorem dX6_ofThermometer_5 : decode cX6_ofThermometer 5 = .ok (.iload_n 2, 1) := by decide +kernel
theorem dX6_ofThermometer_6 : decode cX6_ofThermometer 6 = .ok (.iconst 0, 1) := by decide +kernel
theorem dX6_ofThermometer_7 : decode cX6_ofThermometer 7 = .ok (.bipush 9, 2) := by decide +kernel
theorem dX6_ofThermometer_9 : decode cX6_ofThermometer 9 = .ok (.invokestatic 47, 3) := by decide +kernel
theorem dX6_ofThermometer_12 : decode cX6_ofThermometer 12 = .ok (.aload_n 0, 1) := by decide +kernel
theorem dX6_ofThermometer_13 : decode cX6_ofThermometer 13 = .ok (.getfield 10, 3) := by decide +kernel
theorem dX6_ofThermometer_16 : decode cX6_ofThermometer 16 = .ok (.iload_n 1, 1) := by decide +kernel
theorem dX6_ofThermometer_17 : decode cX6_ofThermometer 17 = .ok (.invokevirtual 94, 3) := by decide +kernel
theorem dX6_ofThermometer_20 : decode cX6_ofThermometer 20 = .ok (.iload_n 2, 1) := by decide +kernel
theorem dX6_ofThermometer_21 : decode cX6_ofThermometer 21 = .ok (.invokevirtual 186, 3) := by decide +kernel
theorem dX6_ofThermometer_24 : decode cX6_ofThermometer 24 = .ok (.ireturn, 1) := by decide +kernel
theorem dX6_reading_0 : decode cX6_reading 0 = .ok (.aload_n 0, 1) := by decide +kernel
theorem dX6_reading_1 : decode cX6_reading 1 = .ok (.iload_n 1, 1) := by decide +kernel
theorem dX6_reading_2 : decode cX6_reading 2 = .ok (.invokevirtual 91, 3) := by decide +kernel
theorem dX6_reading_5 : decode cX6_reading 5 = .ok (.iload_n 2, 1) := by decide +kernel
theorem dX6_reading_6 : decode cX6_reading 6 = .ok (.invokestatic 189, 3) := by decide +kernel
theorem dX6_reading_9 : decode cX6_reading 9 = .ok (.iload_n 3, 1) := by decide +kernel
theorem dX6_reading_10 : decode cX6_reading 10 = .ok (.iconst 0, 1) := by decide +kernel
theorem dX6_reading_11 : decode cX6_reading 11 = .ok (.iconst 1, 1) := by decide +kernel
theorem dX6_reading_12 : decode cX6_reading 12 = .ok (.invokestatic 47, 3) := by decide +kernel
theorem dX6_reading_15 : decode cX6_reading 15 = .ok (.aload_n 0, 1) := by decide +kernel
theorem dX6_reading_16 : decode cX6_reading 16 = .ok (.getfield 10, 3) := by decide +kernel
theorem dX6_reading_19 : decode cX6_reading 19 = .ok (.iload_n 1, 1) := by decide +kernel
theorem dX6_reading_20 : decode cX6_reading 20 = .ok (.invokevirtual 94, 3) := by decide +kernel
theorem dX6_reading_23 : decode cX6_reading 23 = .ok (.astore 4, 2) := by decide +kernel
theorem dX6_reading_25 : decode cX6_reading 25 = .ok (.iload_n 3, 1) := by decide +kernel
theorem dX6_reading_26 : decode cX6_reading 26 = .ok (.ifCond .ne 12, 3) := by decide +kernel
theorem dX6_reading_29 : decode cX6_reading 29 = .ok (.aload 4, 2) := by decide +kernel
theorem dX6_reading_31 : decode cX6_reading 31 = .ok (.iload_n 2, 1) := by decide +kernel
theorem dX6_reading_32 : decode cX6_reading 32 = .ok (.invokevirtual 192, 3) := by decide +kernel
theorem dX6_reading_35 : decode cX6_reading 35 = .ok (.goto 9, 3) := by decide +kernel
theorem dX6_reading_38 : decode cX6_reading 38 = .ok (.aload 4, 2) := by decide +kernel
theorem dX6_reading_40 : decode cX6_reading 40 = .ok (.iload_n 2, 1) := by decide +kernel
theorem dX6_reading_41 : decode cX6_reading 41 = .ok (.invokevirtual 195, 3) := by decide +kernel
theorem dX6_reading_44 : decode cX6_reading 44 = .ok (.ireturn, 1) := by decide +kernel
theorem dX6_row_0 : decode cX6_row 0 = .ok (.iload_n 1, 1) := by decide +kernel
theorem dX6_row_1 : decode cX6_row 1 = .ok (.invokestatic 43, 3) := by decide +kernel
theorem dX6_row_4 : decode cX6_row 4 = .ok (.iload_n 2, 1) := by decide +kernel
theorem dX6_row_5 : decode cX6_row 5 = .ok (.iconst 0, 1) := by decide +kernel
theorem dX6_row_6 : decode cX6_row 6 = .ok (.iconst 3, 1) := by decide +kernel
theorem dX6_row_7 : decode cX6_row 7 = .ok (.invokestatic 47, 3) := by decide +kernel
theorem dX6_row_10 : decode cX6_row 10 = .ok (.iload_n 2, 1) := by decide +kernel
theorem dX6_row_11 : decode cX6_row 11 = .ok (.tableswitch 52 0 2 #[25, 34, 43], 25) := by decide +kernel
theorem dX6_row_36 : decode cX6_row 36 = .ok (.aload_n 0, 1) := by decide +kernel
theorem dX6_row_37 : decode cX6_row 37 = .ok (.getfield 10, 3) := by decide +kernel
theorem dX6_row_40 : decode cX6_row 40 = .ok (.iload_n 1, 1) := by decide +kernel
theorem dX6_row_41 : decode cX6_row 41 = .ok (.invokevirtual 85, 3) := by decide +kernel
theorem dX6_row_44 : decode cX6_row 44 = .ok (.ireturn, 1) := by decide +kernel
theorem dX6_row_45 : decode cX6_row 45 = .ok (.aload_n 0, 1) := by decide +kernel
theorem dX6_row_46 : decode cX6_row 46 = .ok (.getfield 10, 3) := by decide +kernel
theorem dX6_row_49 : decode cX6_row 49 = .ok (.iload_n 1, 1) := by decide +kernel
theorem dX6_row_50 : decode cX6_row 50 = .ok (.invokevirtual 198, 3) := by decide +kernel
theorem dX6_row_53 : decode cX6_row 53 = .ok (.ireturn, 1) := by decide +kernel
theorem dX6_row_54 : decode cX6_row 54 = .ok (.aload_n 0, 1) := by decide +kernel
theorem dX6_row_55 : decode cX6_row 55 = .ok (.getfield 10, 3) := by decide +kernel
theorem dX6_row_58 : decode cX6_row 58 = .ok (.iload_n 1, 1) := by decide +kernel
theorem dX6_row_59 : decode cX6_row 59 = .ok (.invokevirtual 201, 3) := by decide +kernel
theorem dX6_row_62 : decode cX6_row 62 = .ok (.ireturn, 1) := by decide +kernel
theorem dX6_row_63 : decode cX6_row 63 = .ok (.aload_n 0, 1) := by decide +kernel
theorem dX6_row_64 : decode cX6_row 64 = .ok (.getfield 10, 3) := by decide +kernel
theorem dX6_row_67 : decode cX6_row 67 = .ok (.iload_n 1, 1) := by decide +kernel
theorem dX6_row_68 : decode cX6_row 68 = .ok (.invokevirtual 204, 3) := by decide +kernel
theorem dX6_row_71 : decode cX6_row 71 = .ok (.ireturn, 1) := by decide +kernel
theorem dX6_count_0 : decode cX6_count 0 = .ok (.iload_n 1, 1) := by decide +kernel
theorem dX6_count_1 : decode cX6_count 1 = .ok (.iconst 0, 1) := by decide +kernel
theorem dX6_count_2 : decode cX6_count 2 = .ok (.bipush 13, 2) := by decide +kernel
theorem dX6_count_4 : decode cX6_count 4 = .ok (.invokestatic 47, 3) := by decide +kernel
theorem dX6_count_7 : decode cX6_count 7 = .ok (.iload_n 1, 1) := by decide +kernel
theorem dX6_count_8 : decode cX6_count 8 = .ok (.tableswitch 173 0 12 #[68, 76, 84, 92, 100, 108, 116, 124, 133, 141, 149, 157, 165], 68) := by decide +kernel
theorem dX6_count_76 : decode cX6_count 76 = .ok (.aload_n 0, 1) := by decide +kernel
theorem dX6_count_77 : decode cX6_count 77 = .ok (.getfield 10, 3) := by decide +kernel
theorem dX6_count_80 : decode cX6_count 80 = .ok (.getfield 171, 3) := by decide +kernel
theorem dX6_count_83 : decode cX6_count 83 = .ok (.ireturn, 1) := by decide +kernel
theorem dX6_count_84 : decode cX6_count 84 = .ok (.aload_n 0, 1) := by decide +kernel
theorem dX6_count_85 : decode cX6_count 85 = .ok (.getfield 10, 3) := by decide +kernel
theorem dX6_count_88 : decode cX6_count 88 = .ok (.getfield 207, 3) := by decide +kernel
theorem dX6_count_91 : decode cX6_count 91 = .ok (.ireturn, 1) := by decide +kernel
theorem dX6_count_92 : decode cX6_count 92 = .ok (.aload_n 0, 1) := by decide +kernel
theorem dX6_count_93 : decode cX6_count 93 = .ok (.getfield 10, 3) := by decide +kernel
theorem dX6_count_96 : decode cX6_count 96 = .ok (.getfield 81, 3) := by decide +kernel
theorem dX6_count_99 : decode cX6_count 99 = .ok (.ireturn, 1) := by decide +kernel
theorem dX6_count_100 : decode cX6_count 100 = .ok (.aload_n 0, 1) := by decide +kernel
theorem dX6_count_101 : decode cX6_count 101 = .ok (.getfield 10, 3) := by decide +kernel
theorem dX6_count_104 : decode cX6_count 104 = .ok (.invokevirtual 208, 3) := by decide +kernel
theorem dX6_count_107 : decode cX6_count 107 = .ok (.ireturn, 1) := by decide +kernel
theorem dX6_count_108 : decode cX6_count 108 = .ok (.aload_n 0, 1) := by decide +kernel
theorem dX6_count_109 : decode cX6_count 109 = .ok (.getfield 10, 3) := by decide +kernel
theorem dX6_count_112 : decode cX6_count 112 = .ok (.invokevirtual 211, 3) := by decide +kernel
theorem dX6_count_115 : decode cX6_count 115 = .ok (.ireturn, 1) := by decide +kernel
theorem dX6_count_116 : decode cX6_count 116 = .ok (.aload_n 0, 1) := by decide +kernel
theorem dX6_count_117 : decode cX6_count 117 = .ok (.getfield 10, 3) := by decide +kernel
theorem dX6_count_120 : decode cX6_count 120 = .ok (.invokevirtual 214, 3) := by decide +kernel
theorem dX6_count_123 : decode cX6_count 123 = .ok (.ireturn, 1) := by decide +kernel
theorem dX6_count_124 : decode cX6_count 124 = .ok (.aload_n 0, 1) := by decide +kernel
theorem dX6_count_125 : decode cX6_count 125 = .ok (.getfield 10, 3) := by decide +kernel
theorem dX6_count_128 : decode cX6_count 128 = .ok (.invokevirtual 217, 3) := by decide +kernel
theorem dX6_count_131 : decode cX6_count 131 = .ok (.ireturn, 1) := by decide +kernel
theorem dX6_count_132 : decode cX6_count 132 = .ok (.aload_n 0, 1) := by decide +kernel
theorem dX6_count_133 : decode cX6_count 133 = .ok (.getfield 10, 3) := by decide +kernel
theorem dX6_count_136 : decode cX6_count 136 = .ok (.iconst (-1), 1) := by decide +kernel
theorem dX6_count_137 : decode cX6_count 137 = .ok (.invokevirtual 220, 3) := by decide +kernel
theorem dX6_count_140 : decode cX6_count 140 = .ok (.ireturn, 1) := by decide +kernel
theorem dX6_count_141 : decode cX6_count 141 = .ok (.aload_n 0, 1) := by decide +kernel
theorem dX6_count_142 : decode cX6_count 142 = .ok (.getfield 10, 3) := by decide +kernel
theorem dX6_count_145 : decode cX6_count 145 = .ok (.getfield 223, 3) := by decide +kernel
theorem dX6_count_148 : decode cX6_count 148 = .ok (.ireturn, 1) := by decide +kernel
theorem dX6_count_149 : decode cX6_count 149 = .ok (.aload_n 0, 1) := by decide +kernel
theorem dX6_count_150 : decode cX6_count 150 = .ok (.getfield 10, 3) := by decide +kernel
theorem dX6_count_153 : decode cX6_count 153 = .ok (.getfield 226, 3) := by decide +kernel
theorem dX6_count_156 : decode cX6_count 156 = .ok (.ireturn, 1) := by decide +kernel
theorem dX6_count_157 : decode cX6_count 157 = .ok (.aload_n 0, 1) := by decide +kernel
theorem dX6_count_158 : decode cX6_count 158 = .ok (.getfield 22, 3) := by decide +kernel
theorem dX6_count_161 : decode cX6_count 161 = .ok (.getfield 156, 3) := by decide +kernel
theorem dX6_count_164 : decode cX6_count 164 = .ok (.ireturn, 1) := by decide +kernel
theorem dX6_count_165 : decode cX6_count 165 = .ok (.aload_n 0, 1) := by decide +kernel
theorem dX6_count_166 : decode cX6_count 166 = .ok (.getfield 39, 3) := by decide +kernel
theorem dX6_count_169 : decode cX6_count 169 = .ok (.getfield 132, 3) := by decide +kernel
theorem dX6_count_172 : decode cX6_count 172 = .ok (.ireturn, 1) := by decide +kernel
theorem dX6_count_173 : decode cX6_count 173 = .ok (.aload_n 0, 1) := by decide +kernel
theorem dX6_count_174 : decode cX6_count 174 = .ok (.getfield 10, 3) := by decide +kernel
theorem dX6_count_177 : decode cX6_count 177 = .ok (.getfield 117, 3) := by decide +kernel
theorem dX6_count_180 : decode cX6_count 180 = .ok (.ireturn, 1) := by decide +kernel
theorem dX6_count_181 : decode cX6_count 181 = .ok (.aload_n 0, 1) := by decide +kernel
theorem dX6_count_182 : decode cX6_count 182 = .ok (.getfield 10, 3) := by decide +kernel
theorem dX6_count_185 : decode cX6_count 185 = .ok (.getfield 120, 3) := by decide +kernel
theorem dX6_count_188 : decode cX6_count 188 = .ok (.ireturn, 1) := by decide +kernel
theorem dX6_ranked_0 : decode cX6_ranked 0 = .ok (.iload_n 1, 1) := by decide +kernel
theorem dX6_ranked_1 : decode cX6_ranked 1 = .ok (.iconst 0, 1) := by decide +kernel
theorem dX6_ranked_2 : decode cX6_ranked 2 = .ok (.iconst 1, 1) := by decide +kernel
theorem dX6_ranked_3 : decode cX6_ranked 3 = .ok (.invokestatic 47, 3) := by decide +kernel
theorem dX6_ranked_6 : decode cX6_ranked 6 = .ok (.iload_n 2, 1) := by decide +kernel
theorem dX6_ranked_7 : decode cX6_ranked 7 = .ok (.invokestatic 189, 3) := by decide +kernel
theorem dX6_ranked_10 : decode cX6_ranked 10 = .ok (.aload_n 0, 1) := by decide +kernel
theorem dX6_ranked_11 : decode cX6_ranked 11 = .ok (.getfield 10, 3) := by decide +kernel
theorem dX6_ranked_14 : decode cX6_ranked 14 = .ok (.iload_n 1, 1) := by decide +kernel
theorem dX6_ranked_15 : decode cX6_ranked 15 = .ok (.iload_n 2, 1) := by decide +kernel
theorem dX6_ranked_16 : decode cX6_ranked 16 = .ok (.invokevirtual 229, 3) := by decide +kernel
theorem dX6_ranked_19 : decode cX6_ranked 19 = .ok (.ireturn, 1) := by decide +kernel
theorem dX6_between_0 : decode cX6_between 0 = .ok (.aload_n 0, 1) := by decide +kernel
theorem dX6_between_1 : decode cX6_between 1 = .ok (.getfield 10, 3) := by decide +kernel
theorem dX6_between_4 : decode cX6_between 4 = .ok (.iload_n 1, 1) := by decide +kernel
theorem dX6_between_5 : decode cX6_between 5 = .ok (.iload_n 2, 1) := by decide +kernel
theorem dX6_between_6 : decode cX6_between 6 = .ok (.invokevirtual 233, 3) := by decide +kernel
theorem dX6_between_9 : decode cX6_between 9 = .ok (.ireturn, 1) := by decide +kernel
theorem dX6_ifLag_0 : decode cX6_ifLag 0 = .ok (.aload_n 0, 1) := by decide +kernel
theorem dX6_ifLag_1 : decode cX6_ifLag 1 = .ok (.iload_n 1, 1) := by decide +kernel
theorem dX6_ifLag_2 : decode cX6_ifLag 2 = .ok (.invokevirtual 91, 3) := by decide +kernel
theorem dX6_ifLag_5 : decode cX6_ifLag 5 = .ok (.iload_n 2, 1) := by decide +kernel
theorem dX6_ifLag_6 : decode cX6_ifLag 6 = .ok (.iconst 1, 1) := by decide +kernel
theorem dX6_ifLag_7 : decode cX6_ifLag 7 = .ok (.bipush 9, 2) := by decide +kernel
theorem dX6_ifLag_9 : decode cX6_ifLag 9 = .ok (.invokestatic 47, 3) := by decide +kernel
theorem dX6_ifLag_12 : decode cX6_ifLag 12 = .ok (.aload_n 0, 1) := by decide +kernel
theorem dX6_ifLag_13 : decode cX6_ifLag 13 = .ok (.getfield 10, 3) := by decide +kernel
theorem dX6_ifLag_16 : decode cX6_ifLag 16 = .ok (.iload_n 1, 1) := by decide +kernel
theorem dX6_ifLag_17 : decode cX6_ifLag 17 = .ok (.invokevirtual 94, 3) := by decide +kernel
theorem dX6_ifLag_20 : decode cX6_ifLag 20 = .ok (.iload_n 2, 1) := by decide +kernel
theorem dX6_ifLag_21 : decode cX6_ifLag 21 = .ok (.invokevirtual 236, 3) := by decide +kernel
theorem dX6_ifLag_24 : decode cX6_ifLag 24 = .ok (.ireturn, 1) := by decide +kernel
theorem dX6_bestLag_0 : decode cX6_bestLag 0 = .ok (.aload_n 0, 1) := by decide +kernel
theorem dX6_bestLag_1 : decode cX6_bestLag 1 = .ok (.iload_n 1, 1) := by decide +kernel
theorem dX6_bestLag_2 : decode cX6_bestLag 2 = .ok (.invokevirtual 91, 3) := by decide +kernel
theorem dX6_bestLag_5 : decode cX6_bestLag 5 = .ok (.aload_n 0, 1) := by decide +kernel
theorem dX6_bestLag_6 : decode cX6_bestLag 6 = .ok (.getfield 10, 3) := by decide +kernel
theorem dX6_bestLag_9 : decode cX6_bestLag 9 = .ok (.iload_n 1, 1) := by decide +kernel
theorem dX6_bestLag_10 : decode cX6_bestLag 10 = .ok (.invokevirtual 94, 3) := by decide +kernel
theorem dX6_bestLag_13 : decode cX6_bestLag 13 = .ok (.aload_n 0, 1) := by decide +kernel
theorem dX6_bestLag_14 : decode cX6_bestLag 14 = .ok (.getfield 10, 3) := by decide +kernel
theorem dX6_bestLag_17 : decode cX6_bestLag 17 = .ok (.getfield 81, 3) := by decide +kernel
theorem dX6_bestLag_20 : decode cX6_bestLag 20 = .ok (.invokevirtual 239, 3) := by decide +kernel
theorem dX6_bestLag_23 : decode cX6_bestLag 23 = .ok (.ireturn, 1) := by decide +kernel
theorem dX6_ifStill_0 : decode cX6_ifStill 0 = .ok (.iload_n 1, 1) := by decide +kernel
theorem dX6_ifStill_1 : decode cX6_ifStill 1 = .ok (.iconst 1, 1) := by decide +kernel
theorem dX6_ifStill_2 : decode cX6_ifStill 2 = .ok (.bipush 48, 2) := by decide +kernel
theorem dX6_ifStill_4 : decode cX6_ifStill 4 = .ok (.invokestatic 47, 3) := by decide +kernel
theorem dX6_ifStill_7 : decode cX6_ifStill 7 = .ok (.iload_n 2, 1) := by decide +kernel
theorem dX6_ifStill_8 : decode cX6_ifStill 8 = .ok (.iconst 0, 1) := by decide +kernel
theorem dX6_ifStill_9 : decode cX6_ifStill 9 = .ok (.iconst 3, 1) := by decide +kernel
theorem dX6_ifStill_10 : decode cX6_ifStill 10 = .ok (.invokestatic 47, 3) := by decide +kernel
theorem dX6_ifStill_13 : decode cX6_ifStill 13 = .ok (.aload_n 0, 1) := by decide +kernel
theorem dX6_ifStill_14 : decode cX6_ifStill 14 = .ok (.getfield 16, 3) := by decide +kernel
theorem dX6_ifStill_17 : decode cX6_ifStill 17 = .ok (.aload_n 0, 1) := by decide +kernel
theorem dX6_ifStill_18 : decode cX6_ifStill 18 = .ok (.getfield 10, 3) := by decide +kernel
theorem dX6_ifStill_21 : decode cX6_ifStill 21 = .ok (.invokevirtual 183, 3) := by decide +kernel
theorem dX6_ifStill_24 : decode cX6_ifStill 24 = .ok (.aload_n 0, 1) := by decide +kernel
theorem dX6_ifStill_25 : decode cX6_ifStill 25 = .ok (.getfield 16, 3) := by decide +kernel
theorem dX6_ifStill_28 : decode cX6_ifStill 28 = .ok (.iload_n 1, 1) := by decide +kernel
theorem dX6_ifStill_29 : decode cX6_ifStill 29 = .ok (.iconst 0, 1) := by decide +kernel
theorem dX6_ifStill_30 : decode cX6_ifStill 30 = .ok (.invokevirtual 77, 3) := by decide +kernel
theorem dX6_ifStill_33 : decode cX6_ifStill 33 = .ok (.iload_n 2, 1) := by decide +kernel
theorem dX6_ifStill_34 : decode cX6_ifStill 34 = .ok (.tableswitch 58 0 2 #[26, 34, 42], 26) := by decide +kernel
theorem dX6_ifStill_60 : decode cX6_ifStill 60 = .ok (.aload_n 0, 1) := by decide +kernel
theorem dX6_ifStill_61 : decode cX6_ifStill 61 = .ok (.getfield 16, 3) := by decide +kernel
theorem dX6_ifStill_64 : decode cX6_ifStill 64 = .ok (.invokevirtual 214, 3) := by decide +kernel
theorem dX6_ifStill_67 : decode cX6_ifStill 67 = .ok (.ireturn, 1) := by decide +kernel
theorem dX6_ifStill_68 : decode cX6_ifStill 68 = .ok (.aload_n 0, 1) := by decide +kernel
theorem dX6_ifStill_69 : decode cX6_ifStill 69 = .ok (.getfield 16, 3) := by decide +kernel
theorem dX6_ifStill_72 : decode cX6_ifStill 72 = .ok (.invokevirtual 211, 3) := by decide +kernel
theorem dX6_ifStill_75 : decode cX6_ifStill 75 = .ok (.ireturn, 1) := by decide +kernel
theorem dX6_ifStill_76 : decode cX6_ifStill 76 = .ok (.aload_n 0, 1) := by decide +kernel
theorem dX6_ifStill_77 : decode cX6_ifStill 77 = .ok (.getfield 16, 3) := by decide +kernel
theorem dX6_ifStill_80 : decode cX6_ifStill 80 = .ok (.getfield 226, 3) := by decide +kernel
theorem dX6_ifStill_83 : decode cX6_ifStill 83 = .ok (.aload_n 0, 1) := by decide +kernel
theorem dX6_ifStill_84 : decode cX6_ifStill 84 = .ok (.getfield 10, 3) := by decide +kernel
theorem dX6_ifStill_87 : decode cX6_ifStill 87 = .ok (.getfield 226, 3) := by decide +kernel
theorem dX6_ifStill_90 : decode cX6_ifStill 90 = .ok (.isub, 1) := by decide +kernel
theorem dX6_ifStill_91 : decode cX6_ifStill 91 = .ok (.ireturn, 1) := by decide +kernel
theorem dX6_ifStill_92 : decode cX6_ifStill 92 = .ok (.aload_n 0, 1) := by decide +kernel
theorem dX6_ifStill_93 : decode cX6_ifStill 93 = .ok (.getfield 16, 3) := by decide +kernel
theorem dX6_ifStill_96 : decode cX6_ifStill 96 = .ok (.invokevirtual 242, 3) := by decide +kernel
theorem dX6_ifStill_99 : decode cX6_ifStill 99 = .ok (.ireturn, 1) := by decide +kernel
theorem dX6_stillIn_0 : decode cX6_stillIn 0 = .ok (.aload_n 0, 1) := by decide +kernel
theorem dX6_stillIn_1 : decode cX6_stillIn 1 = .ok (.iload_n 1, 1) := by decide +kernel
theorem dX6_stillIn_2 : decode cX6_stillIn 2 = .ok (.invokevirtual 91, 3) := by decide +kernel
theorem dX6_stillIn_5 : decode cX6_stillIn 5 = .ok (.aload_n 0, 1) := by decide +kernel
theorem dX6_stillIn_6 : decode cX6_stillIn 6 = .ok (.getfield 10, 3) := by decide +kernel
theorem dX6_stillIn_9 : decode cX6_stillIn 9 = .ok (.iload_n 1, 1) := by decide +kernel
theorem dX6_stillIn_10 : decode cX6_stillIn 10 = .ok (.invokevirtual 94, 3) := by decide +kernel
theorem dX6_stillIn_13 : decode cX6_stillIn 13 = .ok (.aload_n 0, 1) := by decide +kernel
theorem dX6_stillIn_14 : decode cX6_stillIn 14 = .ok (.getfield 10, 3) := by decide +kernel
theorem dX6_stillIn_17 : decode cX6_stillIn 17 = .ok (.getfield 81, 3) := by decide +kernel
theorem dX6_stillIn_20 : decode cX6_stillIn 20 = .ok (.invokevirtual 245, 3) := by decide +kernel
theorem dX6_stillIn_23 : decode cX6_stillIn 23 = .ok (.ireturn, 1) := by decide +kernel
theorem dX6_meanError_0 : decode cX6_meanError 0 = .ok (.aload_n 0, 1) := by decide +kernel
theorem dX6_meanError_1 : decode cX6_meanError 1 = .ok (.getfield 10, 3) := by decide +kernel
theorem dX6_meanError_4 : decode cX6_meanError 4 = .ok (.invokevirtual 248, 3) := by decide +kernel
theorem dX6_meanError_7 : decode cX6_meanError 7 = .ok (.istore_n 1, 1) := by decide +kernel
theorem dX6_meanError_8 : decode cX6_meanError 8 = .ok (.iload_n 1, 1) := by decide +kernel
theorem dX6_meanError_9 : decode cX6_meanError 9 = .ok (.ifCond .ne 7, 3) := by decide +kernel
theorem dX6_meanError_12 : decode cX6_meanError 12 = .ok (.dconst 0, 1) := by decide +kernel
theorem dX6_meanError_13 : decode cX6_meanError 13 = .ok (.goto 14, 3) := by decide +kernel
theorem dX6_meanError_16 : decode cX6_meanError 16 = .ok (.aload_n 0, 1) := by decide +kernel
theorem dX6_meanError_17 : decode cX6_meanError 17 = .ok (.getfield 10, 3) := by decide +kernel
theorem dX6_meanError_20 : decode cX6_meanError 20 = .ok (.invokevirtual 251, 3) := by decide +kernel
theorem dX6_meanError_23 : decode cX6_meanError 23 = .ok (.i2d, 1) := by decide +kernel
theorem dX6_meanError_24 : decode cX6_meanError 24 = .ok (.iload_n 1, 1) := by decide +kernel
theorem dX6_meanError_25 : decode cX6_meanError 25 = .ok (.i2d, 1) := by decide +kernel
theorem dX6_meanError_26 : decode cX6_meanError 26 = .ok (.ddiv, 1) := by decide +kernel
theorem dX6_meanError_27 : decode cX6_meanError 27 = .ok (.dreturn, 1) := by decide +kernel
theorem dX6_checkRow_0 : decode cX6_checkRow 0 = .ok (.iload_n 0, 1) := by decide +kernel
theorem dX6_checkRow_1 : decode cX6_checkRow 1 = .ok (.ifCond .lt 8, 3) := by decide +kernel
theorem dX6_checkRow_4 : decode cX6_checkRow 4 = .ok (.iload_n 0, 1) := by decide +kernel
theorem dX6_checkRow_5 : decode cX6_checkRow 5 = .ok (.iconst 4, 1) := by decide +kernel
theorem dX6_checkRow_6 : decode cX6_checkRow 6 = .ok (.if_icmp .lt 13, 3) := by decide +kernel
theorem dX6_checkRow_9 : decode cX6_checkRow 9 = .ok (.new 112, 3) := by decide +kernel
theorem dX6_checkRow_12 : decode cX6_checkRow 12 = .ok (.dup, 1) := by decide +kernel
theorem dX6_checkRow_13 : decode cX6_checkRow 13 = .ok (.ldc 254, 2) := by decide +kernel
theorem dX6_checkRow_15 : decode cX6_checkRow 15 = .ok (.invokespecial 116, 3) := by decide +kernel
theorem dX6_checkRow_18 : decode cX6_checkRow 18 = .ok (.athrow, 1) := by decide +kernel
theorem dX6_checkRow_19 : decode cX6_checkRow 19 = .ok (.return_, 1) := by decide +kernel
theorem dX6_checkRange_0 : decode cX6_checkRange 0 = .ok (.iload_n 0, 1) := by decide +kernel
theorem dX6_checkRange_1 : decode cX6_checkRange 1 = .ok (.iload_n 1, 1) := by decide +kernel
theorem dX6_checkRange_2 : decode cX6_checkRange 2 = .ok (.if_icmp .lt 8, 3) := by decide +kernel
theorem dX6_checkRange_5 : decode cX6_checkRange 5 = .ok (.iload_n 0, 1) := by decide +kernel
theorem dX6_checkRange_6 : decode cX6_checkRange 6 = .ok (.iload_n 2, 1) := by decide +kernel
theorem dX6_checkRange_7 : decode cX6_checkRange 7 = .ok (.if_icmp .le 14, 3) := by decide +kernel
theorem dX6_checkRange_10 : decode cX6_checkRange 10 = .ok (.new 142, 3) := by decide +kernel
theorem dX6_checkRange_13 : decode cX6_checkRange 13 = .ok (.dup, 1) := by decide +kernel
theorem dX6_checkRange_14 : decode cX6_checkRange 14 = .ok (.ldc_w 256, 3) := by decide +kernel
theorem dX6_checkRange_17 : decode cX6_checkRange 17 = .ok (.invokespecial 146, 3) := by decide +kernel
theorem dX6_checkRange_20 : decode cX6_checkRange 20 = .ok (.athrow, 1) := by decide +kernel
theorem dX6_checkRange_21 : decode cX6_checkRange 21 = .ok (.return_, 1) := by decide +kernel
theorem dX6_checkNotNegative_0 : decode cX6_checkNotNegative 0 = .ok (.iload_n 0, 1) := by decide +kernel
theorem dX6_checkNotNegative_1 : decode cX6_checkNotNegative 1 = .ok (.ifCond .ge 14, 3) := by decide +kernel
theorem dX6_checkNotNegative_4 : decode cX6_checkNotNegative 4 = .ok (.new 142, 3) := by decide +kernel
theorem dX6_checkNotNegative_7 : decode cX6_checkNotNegative 7 = .ok (.dup, 1) := by decide +kernel
theorem dX6_checkNotNegative_8 : decode cX6_checkNotNegative 8 = .ok (.ldc_w 258, 3) := by decide +kernel
theorem dX6_checkNotNegative_11 : decode cX6_checkNotNegative 11 = .ok (.invokespecial 146, 3) := by decide +kernel
theorem dX6_checkNotNegative_14 : decode cX6_checkNotNegative 14 = .ok (.athrow, 1) := by decide +kernel
theorem dX6_checkNotNegative_15 : decode cX6_checkNotNegative 15 = .ok (.return_, 1) := by decide +kernel
theorem dX6_checkThermometer_0 : decode cX6_checkThermometer 0 = .ok (.aload_n 0, 1) := by decide +kernel
theorem dX6_checkThermometer_1 : decode cX6_checkThermometer 1 = .ok (.getfield 10, 3) := by decide +kernel
theorem dX6_checkThermometer_4 : decode cX6_checkThermometer 4 = .ok (.iload_n 1, 1) := by decide +kernel
theorem dX6_checkThermometer_5 : decode cX6_checkThermometer 5 = .ok (.invokevirtual 260, 3) := by decide +kernel
theorem dX6_checkThermometer_8 : decode cX6_checkThermometer 8 = .ok (.ifCond .ne 14, 3) := by decide +kernel
theorem dX6_checkThermometer_11 : decode cX6_checkThermometer 11 = .ok (.new 112, 3) := by decide +kernel
theorem dX6_checkThermometer_14 : decode cX6_checkThermometer 14 = .ok (.dup, 1) := by decide +kernel
theorem dX6_checkThermometer_15 : decode cX6_checkThermometer 15 = .ok (.ldc_w 264, 3) := by decide +kernel
theorem dX6_checkThermometer_18 : decode cX6_checkThermometer 18 = .ok (.invokespecial 116, 3) := by decide +kernel
theorem dX6_checkThermometer_21 : decode cX6_checkThermometer 21 = .ok (.athrow, 1) := by decide +kernel
theorem dX6_checkThermometer_22 : decode cX6_checkThermometer 22 = .ok (.return_, 1) := by decide +kernel
theorem dX6_checkHoursLeft_0 : decode cX6_checkHoursLeft 0 = .ok (.aload_n 0, 1) := by decide +kernel
theorem dX6_checkHoursLeft_1 : decode cX6_checkHoursLeft 1 = .ok (.getfield 10, 3) := by decide +kernel
theorem dX6_checkHoursLeft_4 : decode cX6_checkHoursLeft 4 = .ok (.iload_n 1, 1) := by decide +kernel
theorem dX6_checkHoursLeft_5 : decode cX6_checkHoursLeft 5 = .ok (.invokevirtual 266, 3) := by decide +kernel
theorem dX6_checkHoursLeft_8 : decode cX6_checkHoursLeft 8 = .ok (.ifCond .ne 14, 3) := by decide +kernel
theorem dX6_checkHoursLeft_11 : decode cX6_checkHoursLeft 11 = .ok (.new 55, 3) := by decide +kernel
theorem dX6_checkHoursLeft_14 : decode cX6_checkHoursLeft 14 = .ok (.dup, 1) := by decide +kernel
theorem dX6_checkHoursLeft_15 : decode cX6_checkHoursLeft 15 = .ok (.ldc_w 269, 3) := by decide +kernel
theorem dX6_checkHoursLeft_18 : decode cX6_checkHoursLeft 18 = .ok (.invokespecial 59, 3) := by decide +kernel
theorem dX6_checkHoursLeft_21 : decode cX6_checkHoursLeft 21 = .ok (.athrow, 1) := by decide +kernel
theorem dX6_checkHoursLeft_22 : decode cX6_checkHoursLeft 22 = .ok (.return_, 1) := by decide +kernel
theorem dX6_snapshotIn_0 : decode cX6_snapshotIn 0 = .ok (.iload_n 1, 1) := by decide +kernel
theorem dX6_snapshotIn_1 : decode cX6_snapshotIn 1 = .ok (.ifCond .ne 10, 3) := by decide +kernel
theorem dX6_snapshotIn_4 : decode cX6_snapshotIn 4 = .ok (.aload_n 0, 1) := by decide +kernel
theorem dX6_snapshotIn_5 : decode cX6_snapshotIn 5 = .ok (.getfield 29, 3) := by decide +kernel
theorem dX6_snapshotIn_8 : decode cX6_snapshotIn 8 = .ok (.goto 7, 3) := by decide +kernel
theorem dX6_snapshotIn_11 : decode cX6_snapshotIn 11 = .ok (.aload_n 0, 1) := by decide +kernel
theorem dX6_snapshotIn_12 : decode cX6_snapshotIn 12 = .ok (.getfield 33, 3) := by decide +kernel
theorem dX6_snapshotIn_15 : decode cX6_snapshotIn 15 = .ok (.areturn, 1) := by decide +kernel
theorem dX6_carriesOut_0 : decode cX6_carriesOut 0 = .ok (.aload_n 0, 1) := by decide +kernel
theorem dX6_carriesOut_1 : decode cX6_carriesOut 1 = .ok (.getfield 39, 3) := by decide +kernel
theorem dX6_carriesOut_4 : decode cX6_carriesOut 4 = .ok (.getfield 271, 3) := by decide +kernel
theorem dX6_carriesOut_7 : decode cX6_carriesOut 7 = .ok (.tableswitch 125 0 2 #[25, 69, 102], 25) := by decide +kernel
theorem dX6_carriesOut_32 : decode cX6_carriesOut 32 = .ok (.aload_n 0, 1) := by decide +kernel
theorem dX6_carriesOut_33 : decode cX6_carriesOut 33 = .ok (.getfield 10, 3) := by decide +kernel
theorem dX6_carriesOut_36 : decode cX6_carriesOut 36 = .ok (.invokevirtual 51, 3) := by decide +kernel
theorem dX6_carriesOut_39 : decode cX6_carriesOut 39 = .ok (.ifCond .ne 5, 3) := by decide +kernel
theorem dX6_carriesOut_42 : decode cX6_carriesOut 42 = .ok (.iconst 0, 1) := by decide +kernel
theorem dX6_carriesOut_43 : decode cX6_carriesOut 43 = .ok (.ireturn, 1) := by decide +kernel
theorem dX6_carriesOut_44 : decode cX6_carriesOut 44 = .ok (.aload_n 0, 1) := by decide +kernel
theorem dX6_carriesOut_45 : decode cX6_carriesOut 45 = .ok (.getfield 10, 3) := by decide +kernel
theorem dX6_carriesOut_48 : decode cX6_carriesOut 48 = .ok (.aload_n 0, 1) := by decide +kernel
theorem dX6_carriesOut_49 : decode cX6_carriesOut 49 = .ok (.getfield 39, 3) := by decide +kernel
theorem dX6_carriesOut_52 : decode cX6_carriesOut 52 = .ok (.getfield 274, 3) := by decide +kernel
theorem dX6_carriesOut_55 : decode cX6_carriesOut 55 = .ok (.aload_n 0, 1) := by decide +kernel
theorem dX6_carriesOut_56 : decode cX6_carriesOut 56 = .ok (.getfield 39, 3) := by decide +kernel
theorem dX6_carriesOut_59 : decode cX6_carriesOut 59 = .ok (.getfield 277, 3) := by decide +kernel
theorem dX6_carriesOut_62 : decode cX6_carriesOut 62 = .ok (.iconst 0, 1) := by decide +kernel
theorem dX6_carriesOut_63 : decode cX6_carriesOut 63 = .ok (.aload_n 0, 1) := by decide +kernel
theorem dX6_carriesOut_64 : decode cX6_carriesOut 64 = .ok (.getfield 39, 3) := by decide +kernel
theorem dX6_carriesOut_67 : decode cX6_carriesOut 67 = .ok (.getfield 280, 3) := by decide +kernel
theorem dX6_carriesOut_70 : decode cX6_carriesOut 70 = .ok (.invokevirtual 66, 3) := by decide +kernel
theorem dX6_carriesOut_73 : decode cX6_carriesOut 73 = .ok (.pop, 1) := by decide +kernel
theorem dX6_carriesOut_74 : decode cX6_carriesOut 74 = .ok (.iconst 1, 1) := by decide +kernel
theorem dX6_carriesOut_75 : decode cX6_carriesOut 75 = .ok (.ireturn, 1) := by decide +kernel
theorem dX6_carriesOut_76 : decode cX6_carriesOut 76 = .ok (.aload_n 0, 1) := by decide +kernel
theorem dX6_carriesOut_77 : decode cX6_carriesOut 77 = .ok (.getfield 10, 3) := by decide +kernel
theorem dX6_carriesOut_80 : decode cX6_carriesOut 80 = .ok (.iconst 1, 1) := by decide +kernel
theorem dX6_carriesOut_81 : decode cX6_carriesOut 81 = .ok (.invokevirtual 266, 3) := by decide +kernel
theorem dX6_carriesOut_84 : decode cX6_carriesOut 84 = .ok (.ifCond .ne 5, 3) := by decide +kernel
theorem dX6_carriesOut_87 : decode cX6_carriesOut 87 = .ok (.iconst 0, 1) := by decide +kernel
theorem dX6_carriesOut_88 : decode cX6_carriesOut 88 = .ok (.ireturn, 1) := by decide +kernel
theorem dX6_carriesOut_89 : decode cX6_carriesOut 89 = .ok (.aload_n 0, 1) := by decide +kernel
theorem dX6_carriesOut_90 : decode cX6_carriesOut 90 = .ok (.getfield 10, 3) := by decide +kernel
theorem dX6_carriesOut_93 : decode cX6_carriesOut 93 = .ok (.aload_n 0, 1) := by decide +kernel
theorem dX6_carriesOut_94 : decode cX6_carriesOut 94 = .ok (.getfield 39, 3) := by decide +kernel
theorem dX6_carriesOut_97 : decode cX6_carriesOut 97 = .ok (.getfield 277, 3) := by decide +kernel
theorem dX6_carriesOut_100 : decode cX6_carriesOut 100 = .ok (.bipush 100, 2) := by decide +kernel
theorem dX6_carriesOut_102 : decode cX6_carriesOut 102 = .ok (.imul, 1) := by decide +kernel
theorem dX6_carriesOut_103 : decode cX6_carriesOut 103 = .ok (.invokevirtual 73, 3) := by decide +kernel
theorem dX6_carriesOut_106 : decode cX6_carriesOut 106 = .ok (.pop, 1) := by decide +kernel
theorem dX6_carriesOut_107 : decode cX6_carriesOut 107 = .ok (.iconst 1, 1) := by decide +kernel
theorem dX6_carriesOut_108 : decode cX6_carriesOut 108 = .ok (.ireturn, 1) := by decide +kernel
theorem dX6_carriesOut_109 : decode cX6_carriesOut 109 = .ok (.aload_n 0, 1) := by decide +kernel
theorem dX6_carriesOut_110 : decode cX6_carriesOut 110 = .ok (.getfield 10, 3) := by decide +kernel
theorem dX6_carriesOut_113 : decode cX6_carriesOut 113 = .ok (.aload_n 0, 1) := by decide +kernel
theorem dX6_carriesOut_114 : decode cX6_carriesOut 114 = .ok (.getfield 39, 3) := by decide +kernel
theorem dX6_carriesOut_117 : decode cX6_carriesOut 117 = .ok (.getfield 274, 3) := by decide +kernel
theorem dX6_carriesOut_120 : decode cX6_carriesOut 120 = .ok (.aload_n 0, 1) := by decide +kernel
theorem dX6_carriesOut_121 : decode cX6_carriesOut 121 = .ok (.getfield 39, 3) := by decide +kernel
theorem dX6_carriesOut_124 : decode cX6_carriesOut 124 = .ok (.getfield 277, 3) := by decide +kernel
theorem dX6_carriesOut_127 : decode cX6_carriesOut 127 = .ok (.invokevirtual 88, 3) := by decide +kernel
theorem dX6_carriesOut_130 : decode cX6_carriesOut 130 = .ok (.iconst 1, 1) := by decide +kernel
theorem dX6_carriesOut_131 : decode cX6_carriesOut 131 = .ok (.ireturn, 1) := by decide +kernel
theorem dX6_carriesOut_132 : decode cX6_carriesOut 132 = .ok (.aload_n 0, 1) := by decide +kernel
theorem dX6_carriesOut_133 : decode cX6_carriesOut 133 = .ok (.getfield 10, 3) := by decide +kernel
theorem dX6_carriesOut_136 : decode cX6_carriesOut 136 = .ok (.aload_n 0, 1) := by decide +kernel
theorem dX6_carriesOut_137 : decode cX6_carriesOut 137 = .ok (.getfield 39, 3) := by decide +kernel
theorem dX6_carriesOut_140 : decode cX6_carriesOut 140 = .ok (.getfield 277, 3) := by decide +kernel
theorem dX6_carriesOut_143 : decode cX6_carriesOut 143 = .ok (.invokevirtual 260, 3) := by decide +kernel
theorem dX6_carriesOut_146 : decode cX6_carriesOut 146 = .ok (.ifCond .ne 5, 3) := by decide +kernel
theorem dX6_carriesOut_149 : decode cX6_carriesOut 149 = .ok (.iconst 0, 1) := by decide +kernel
theorem dX6_carriesOut_150 : decode cX6_carriesOut 150 = .ok (.ireturn, 1) := by decide +kernel
theorem dX6_carriesOut_151 : decode cX6_carriesOut 151 = .ok (.aload_n 0, 1) := by decide +kernel
theorem dX6_carriesOut_152 : decode cX6_carriesOut 152 = .ok (.getfield 10, 3) := by decide +kernel
theorem dX6_carriesOut_155 : decode cX6_carriesOut 155 = .ok (.aload_n 0, 1) := by decide +kernel
theorem dX6_carriesOut_156 : decode cX6_carriesOut 156 = .ok (.getfield 39, 3) := by decide +kernel
theorem dX6_carriesOut_159 : decode cX6_carriesOut 159 = .ok (.getfield 277, 3) := by decide +kernel
theorem dX6_carriesOut_162 : decode cX6_carriesOut 162 = .ok (.invokevirtual 94, 3) := by decide +kernel
theorem dX6_carriesOut_165 : decode cX6_carriesOut 165 = .ok (.aload_n 0, 1) := by decide +kernel
theorem dX6_carriesOut_166 : decode cX6_carriesOut 166 = .ok (.getfield 10, 3) := by decide +kernel
theorem dX6_carriesOut_169 : decode cX6_carriesOut 169 = .ok (.getfield 81, 3) := by decide +kernel
theorem dX6_carriesOut_172 : decode cX6_carriesOut 172 = .ok (.invokevirtual 103, 3) := by decide +kernel
theorem dX6_carriesOut_175 : decode cX6_carriesOut 175 = .ok (.iconst 1, 1) := by decide +kernel
theorem dX6_carriesOut_176 : decode cX6_carriesOut 176 = .ok (.ireturn, 1) := by decide +kernel
theorem dX6_quotient_0 : decode cX6_quotient 0 = .ok (.iload_n 1, 1) := by decide +kernel
theorem dX6_quotient_1 : decode cX6_quotient 1 = .ok (.ifCond .ne 7, 3) := by decide +kernel
theorem dX6_quotient_4 : decode cX6_quotient 4 = .ok (.iconst 0, 1) := by decide +kernel
theorem dX6_quotient_5 : decode cX6_quotient 5 = .ok (.goto 6, 3) := by decide +kernel
theorem dX6_quotient_8 : decode cX6_quotient 8 = .ok (.iload_n 0, 1) := by decide +kernel
theorem dX6_quotient_9 : decode cX6_quotient 9 = .ok (.iload_n 1, 1) := by decide +kernel
theorem dX6_quotient_10 : decode cX6_quotient 10 = .ok (.idiv, 1) := by decide +kernel
theorem dX6_quotient_11 : decode cX6_quotient 11 = .ok (.ireturn, 1) := by decide +kernel
theorem dX6_remainder_0 : decode cX6_remainder 0 = .ok (.iload_n 1, 1) := by decide +kernel
theorem dX6_remainder_1 : decode cX6_remainder 1 = .ok (.ifCond .ne 7, 3) := by decide +kernel
theorem dX6_remainder_4 : decode cX6_remainder 4 = .ok (.iconst 0, 1) := by decide +kernel
theorem dX6_remainder_5 : decode cX6_remainder 5 = .ok (.goto 6, 3) := by decide +kernel
theorem dX6_remainder_8 : decode cX6_remainder 8 = .ok (.iload_n 0, 1) := by decide +kernel
theorem dX6_remainder_9 : decode cX6_remainder 9 = .ok (.iload_n 1, 1) := by decide +kernel
theorem dX6_remainder_10 : decode cX6_remainder 10 = .ok (.irem, 1) := by decide +kernel
theorem dX6_remainder_11 : decode cX6_remainder 11 = .ok (.ireturn, 1) := by decide +kernel
theorem dX6_entry_0 : decode cX6_entry 0 = .ok (.iload_n 1, 1) := by decide +kernel
theorem dX6_entry_1 : decode cX6_entry 1 = .ok (.ifCond .lt 15, 3) := by decide +kernel
theorem dX6_entry_4 : decode cX6_entry 4 = .ok (.iload_n 1, 1) := by decide +kernel
theorem dX6_entry_5 : decode cX6_entry 5 = .ok (.aload_n 0, 1) := by decide +kernel
theorem dX6_entry_6 : decode cX6_entry 6 = .ok (.arraylength, 1) := by decide +kernel
theorem dX6_entry_7 : decode cX6_entry 7 = .ok (.if_icmp .ge 9, 3) := by decide +kernel
theorem dX6_entry_10 : decode cX6_entry 10 = .ok (.aload_n 0, 1) := by decide +kernel
theorem dX6_entry_11 : decode cX6_entry 11 = .ok (.iload_n 1, 1) := by decide +kernel
theorem dX6_entry_12 : decode cX6_entry 12 = .ok (.iaload, 1) := by decide +kernel
theorem dX6_entry_13 : decode cX6_entry 13 = .ok (.goto 6, 3) := by decide +kernel
theorem dX6_entry_16 : decode cX6_entry 16 = .ok (.ldc_w 283, 3) := by decide +kernel
theorem dX6_entry_19 : decode cX6_entry 19 = .ok (.ireturn, 1) := by decide +kernel
theorem dX6_copyInto_0 : decode cX6_copyInto 0 = .ok (.iconst 0, 1) := by decide +kernel
theorem dX6_copyInto_1 : decode cX6_copyInto 1 = .ok (.istore_n 2, 1) := by decide +kernel
theorem dX6_copyInto_2 : decode cX6_copyInto 2 = .ok (.iload_n 2, 1) := by decide +kernel
theorem dX6_copyInto_3 : decode cX6_copyInto 3 = .ok (.aload_n 0, 1) := by decide +kernel
theorem dX6_copyInto_4 : decode cX6_copyInto 4 = .ok (.arraylength, 1) := by decide +kernel
theorem dX6_copyInto_5 : decode cX6_copyInto 5 = .ok (.if_icmp .ge 21, 3) := by decide +kernel
theorem dX6_copyInto_8 : decode cX6_copyInto 8 = .ok (.iload_n 2, 1) := by decide +kernel
theorem dX6_copyInto_9 : decode cX6_copyInto 9 = .ok (.aload_n 1, 1) := by decide +kernel
theorem dX6_copyInto_10 : decode cX6_copyInto 10 = .ok (.arraylength, 1) := by decide +kernel
theorem dX6_copyInto_11 : decode cX6_copyInto 11 = .ok (.if_icmp .ge 15, 3) := by decide +kernel
theorem dX6_copyInto_14 : decode cX6_copyInto 14 = .ok (.aload_n 0, 1) := by decide +kernel
theorem dX6_copyInto_15 : decode cX6_copyInto 15 = .ok (.iload_n 2, 1) := by decide +kernel
theorem dX6_copyInto_16 : decode cX6_copyInto 16 = .ok (.aload_n 1, 1) := by decide +kernel
theorem dX6_copyInto_17 : decode cX6_copyInto 17 = .ok (.iload_n 2, 1) := by decide +kernel
theorem dX6_copyInto_18 : decode cX6_copyInto 18 = .ok (.iaload, 1) := by decide +kernel
theorem dX6_copyInto_19 : decode cX6_copyInto 19 = .ok (.iastore, 1) := by decide +kernel
theorem dX6_copyInto_20 : decode cX6_copyInto 20 = .ok (.iinc 2 1, 3) := by decide +kernel
theorem dX6_copyInto_23 : decode cX6_copyInto 23 = .ok (.goto (-21), 3) := by decide +kernel
theorem dX6_copyInto_26 : decode cX6_copyInto 26 = .ok (.return_, 1) := by decide +kernel
theorem dX6_putFirst_0 : decode cX6_putFirst 0 = .ok (.aload_n 0, 1) := by decide +kernel
theorem dX6_putFirst_1 : decode cX6_putFirst 1 = .ok (.arraylength, 1) := by decide +kernel
theorem dX6_putFirst_2 : decode cX6_putFirst 2 = .ok (.iconst 1, 1) := by decide +kernel
theorem dX6_putFirst_3 : decode cX6_putFirst 3 = .ok (.isub, 1) := by decide +kernel
theorem dX6_putFirst_4 : decode cX6_putFirst 4 = .ok (.istore_n 2, 1) := by decide +kernel
theorem dX6_putFirst_5 : decode cX6_putFirst 5 = .ok (.iload_n 2, 1) := by decide +kernel
theorem dX6_putFirst_6 : decode cX6_putFirst 6 = .ok (.ifCond .le 17, 3) := by decide +kernel
theorem dX6_putFirst_9 : decode cX6_putFirst 9 = .ok (.aload_n 0, 1) := by decide +kernel
theorem dX6_putFirst_10 : decode cX6_putFirst 10 = .ok (.iload_n 2, 1) := by decide +kernel
theorem dX6_putFirst_11 : decode cX6_putFirst 11 = .ok (.aload_n 0, 1) := by decide +kernel
theorem dX6_putFirst_12 : decode cX6_putFirst 12 = .ok (.iload_n 2, 1) := by decide +kernel
theorem dX6_putFirst_13 : decode cX6_putFirst 13 = .ok (.iconst 1, 1) := by decide +kernel
theorem dX6_putFirst_14 : decode cX6_putFirst 14 = .ok (.isub, 1) := by decide +kernel
theorem dX6_putFirst_15 : decode cX6_putFirst 15 = .ok (.iaload, 1) := by decide +kernel
theorem dX6_putFirst_16 : decode cX6_putFirst 16 = .ok (.iastore, 1) := by decide +kernel
theorem dX6_putFirst_17 : decode cX6_putFirst 17 = .ok (.iinc 2 (-1), 3) := by decide +kernel
theorem dX6_putFirst_20 : decode cX6_putFirst 20 = .ok (.goto (-15), 3) := by decide +kernel
theorem dX6_putFirst_23 : decode cX6_putFirst 23 = .ok (.aload_n 0, 1) := by decide +kernel
theorem dX6_putFirst_24 : decode cX6_putFirst 24 = .ok (.arraylength, 1) := by decide +kernel
theorem dX6_putFirst_25 : decode cX6_putFirst 25 = .ok (.ifCond .le 7, 3) := by decide +kernel
theorem dX6_putFirst_28 : decode cX6_putFirst 28 = .ok (.aload_n 0, 1) := by decide +kernel
theorem dX6_putFirst_29 : decode cX6_putFirst 29 = .ok (.iconst 0, 1) := by decide +kernel
theorem dX6_putFirst_30 : decode cX6_putFirst 30 = .ok (.iload_n 1, 1) := by decide +kernel
theorem dX6_putFirst_31 : decode cX6_putFirst 31 = .ok (.iastore, 1) := by decide +kernel
theorem dX6_putFirst_32 : decode cX6_putFirst 32 = .ok (.return_, 1) := by decide +kernel
theorem dJ6_bitCount_0f7a4_0 : decode cJ6_bitCount_0f7a4 0 = .ok (.iload_n 0, 1) := by decide +kernel
theorem dJ6_bitCount_0f7a4_1 : decode cJ6_bitCount_0f7a4 1 = .ok (.iload_n 0, 1) := by decide +kernel
theorem dJ6_bitCount_0f7a4_2 : decode cJ6_bitCount_0f7a4 2 = .ok (.iconst 1, 1) := by decide +kernel
theorem dJ6_bitCount_0f7a4_3 : decode cJ6_bitCount_0f7a4 3 = .ok (.iushr, 1) := by decide +kernel
theorem dJ6_bitCount_0f7a4_4 : decode cJ6_bitCount_0f7a4 4 = .ok (.ldc_w 265, 3) := by decide +kernel
theorem dJ6_bitCount_0f7a4_7 : decode cJ6_bitCount_0f7a4 7 = .ok (.iand, 1) := by decide +kernel
theorem dJ6_bitCount_0f7a4_8 : decode cJ6_bitCount_0f7a4 8 = .ok (.isub, 1) := by decide +kernel
theorem dJ6_bitCount_0f7a4_9 : decode cJ6_bitCount_0f7a4 9 = .ok (.istore_n 0, 1) := by decide +kernel
theorem dJ6_bitCount_0f7a4_10 : decode cJ6_bitCount_0f7a4 10 = .ok (.iload_n 0, 1) := by decide +kernel
theorem dJ6_bitCount_0f7a4_11 : decode cJ6_bitCount_0f7a4 11 = .ok (.ldc_w 266, 3) := by decide +kernel
theorem dJ6_bitCount_0f7a4_14 : decode cJ6_bitCount_0f7a4 14 = .ok (.iand, 1) := by decide +kernel
theorem dJ6_bitCount_0f7a4_15 : decode cJ6_bitCount_0f7a4 15 = .ok (.iload_n 0, 1) := by decide +kernel
theorem dJ6_bitCount_0f7a4_16 : decode cJ6_bitCount_0f7a4 16 = .ok (.iconst 2, 1) := by decide +kernel
theorem dJ6_bitCount_0f7a4_17 : decode cJ6_bitCount_0f7a4 17 = .ok (.iushr, 1) := by decide +kernel
theorem dJ6_bitCount_0f7a4_18 : decode cJ6_bitCount_0f7a4 18 = .ok (.ldc_w 266, 3) := by decide +kernel
theorem dJ6_bitCount_0f7a4_21 : decode cJ6_bitCount_0f7a4 21 = .ok (.iand, 1) := by decide +kernel
theorem dJ6_bitCount_0f7a4_22 : decode cJ6_bitCount_0f7a4 22 = .ok (.iadd, 1) := by decide +kernel
theorem dJ6_bitCount_0f7a4_23 : decode cJ6_bitCount_0f7a4 23 = .ok (.istore_n 0, 1) := by decide +kernel
theorem dJ6_bitCount_0f7a4_24 : decode cJ6_bitCount_0f7a4 24 = .ok (.iload_n 0, 1) := by decide +kernel
theorem dJ6_bitCount_0f7a4_25 : decode cJ6_bitCount_0f7a4 25 = .ok (.iload_n 0, 1) := by decide +kernel
theorem dJ6_bitCount_0f7a4_26 : decode cJ6_bitCount_0f7a4 26 = .ok (.iconst 4, 1) := by decide +kernel
theorem dJ6_bitCount_0f7a4_27 : decode cJ6_bitCount_0f7a4 27 = .ok (.iushr, 1) := by decide +kernel
theorem dJ6_bitCount_0f7a4_28 : decode cJ6_bitCount_0f7a4 28 = .ok (.iadd, 1) := by decide +kernel
theorem dJ6_bitCount_0f7a4_29 : decode cJ6_bitCount_0f7a4 29 = .ok (.ldc_w 267, 3) := by decide +kernel
theorem dJ6_bitCount_0f7a4_32 : decode cJ6_bitCount_0f7a4 32 = .ok (.iand, 1) := by decide +kernel
theorem dJ6_bitCount_0f7a4_33 : decode cJ6_bitCount_0f7a4 33 = .ok (.istore_n 0, 1) := by decide +kernel
theorem dJ6_bitCount_0f7a4_34 : decode cJ6_bitCount_0f7a4 34 = .ok (.iload_n 0, 1) := by decide +kernel
theorem dJ6_bitCount_0f7a4_35 : decode cJ6_bitCount_0f7a4 35 = .ok (.iload_n 0, 1) := by decide +kernel
theorem dJ6_bitCount_0f7a4_36 : decode cJ6_bitCount_0f7a4 36 = .ok (.bipush 8, 2) := by decide +kernel
theorem dJ6_bitCount_0f7a4_38 : decode cJ6_bitCount_0f7a4 38 = .ok (.iushr, 1) := by decide +kernel
theorem dJ6_bitCount_0f7a4_39 : decode cJ6_bitCount_0f7a4 39 = .ok (.iadd, 1) := by decide +kernel
theorem dJ6_bitCount_0f7a4_40 : decode cJ6_bitCount_0f7a4 40 = .ok (.istore_n 0, 1) := by decide +kernel
theorem dJ6_bitCount_0f7a4_41 : decode cJ6_bitCount_0f7a4 41 = .ok (.iload_n 0, 1) := by decide +kernel
theorem dJ6_bitCount_0f7a4_42 : decode cJ6_bitCount_0f7a4 42 = .ok (.iload_n 0, 1) := by decide +kernel
theorem dJ6_bitCount_0f7a4_43 : decode cJ6_bitCount_0f7a4 43 = .ok (.bipush 16, 2) := by decide +kernel
theorem dJ6_bitCount_0f7a4_45 : decode cJ6_bitCount_0f7a4 45 = .ok (.iushr, 1) := by decide +kernel
theorem dJ6_bitCount_0f7a4_46 : decode cJ6_bitCount_0f7a4 46 = .ok (.iadd, 1) := by decide +kernel
theorem dJ6_bitCount_0f7a4_47 : decode cJ6_bitCount_0f7a4 47 = .ok (.istore_n 0, 1) := by decide +kernel
theorem dJ6_bitCount_0f7a4_48 : decode cJ6_bitCount_0f7a4 48 = .ok (.iload_n 0, 1) := by decide +kernel
theorem dJ6_bitCount_0f7a4_49 : decode cJ6_bitCount_0f7a4 49 = .ok (.bipush 63, 2) := by decide +kernel
theorem dJ6_bitCount_0f7a4_51 : decode cJ6_bitCount_0f7a4 51 = .ok (.iand, 1) := by decide +kernel
theorem dJ6_bitCount_0f7a4_52 : decode cJ6_bitCount_0f7a4 52 = .ok (.ireturn, 1) := by decide +kernel
theorem dJ9_abs_0f7a4_0 : decode cJ9_abs_0f7a4 0 = .ok (.iload_n 0, 1) := by decide +kernel
theorem dJ9_abs_0f7a4_1 : decode cJ9_abs_0f7a4 1 = .ok (.ifCond .ge 8, 3) := by decide +kernel
theorem dJ9_abs_0f7a4_4 : decode cJ9_abs_0f7a4 4 = .ok (.iload_n 0, 1) := by decide +kernel
theorem dJ9_abs_0f7a4_5 : decode cJ9_abs_0f7a4 5 = .ok (.ineg, 1) := by decide +kernel
theorem dJ9_abs_0f7a4_6 : decode cJ9_abs_0f7a4 6 = .ok (.goto 4, 3) := by decide +kernel
theorem dJ9_abs_0f7a4_9 : decode cJ9_abs_0f7a4 9 = .ok (.iload_n 0, 1) := by decide +kernel
theorem dJ9_abs_0f7a4_10 : decode cJ9_abs_0f7a4 10 = .ok (.ireturn, 1) := by decide +kernel
theorem dJ9_max_7cf53_0 : decode cJ9_max_7cf53 0 = .ok (.iload_n 0, 1) := by decide +kernel
theorem dJ9_max_7cf53_1 : decode cJ9_max_7cf53 1 = .ok (.iload_n 1, 1) := by decide +kernel
theorem dJ9_max_7cf53_2 : decode cJ9_max_7cf53 2 = .ok (.if_icmp .lt 7, 3) := by decide +kernel
theorem dJ9_max_7cf53_5 : decode cJ9_max_7cf53 5 = .ok (.iload_n 0, 1) := by decide +kernel
theorem dJ9_max_7cf53_6 : decode cJ9_max_7cf53 6 = .ok (.goto 4, 3) := by decide +kernel
theorem dJ9_max_7cf53_9 : decode cJ9_max_7cf53 9 = .ok (.iload_n 1, 1) := by decide +kernel
theorem dJ9_max_7cf53_10 : decode cJ9_max_7cf53 10 = .ok (.ireturn, 1) := by decide +kernel
theorem dJ9_min_7cf53_0 : decode cJ9_min_7cf53 0 = .ok (.iload_n 0, 1) := by decide +kernel
theorem dJ9_min_7cf53_1 : decode cJ9_min_7cf53 1 = .ok (.iload_n 1, 1) := by decide +kernel
theorem dJ9_min_7cf53_2 : decode cJ9_min_7cf53 2 = .ok (.if_icmp .gt 7, 3) := by decide +kernel
theorem dJ9_min_7cf53_5 : decode cJ9_min_7cf53 5 = .ok (.iload_n 0, 1) := by decide +kernel
theorem dJ9_min_7cf53_6 : decode cJ9_min_7cf53 6 = .ok (.goto 4, 3) := by decide +kernel
theorem dJ9_min_7cf53_9 : decode cJ9_min_7cf53 9 = .ok (.iload_n 1, 1) := by decide +kernel
theorem dJ9_min_7cf53_10 : decode cJ9_min_7cf53 10 = .ok (.ireturn, 1) := by decide +kernel
theorem dL_thermometer_0 : decode cL_thermometer 0 = .ok (.aload 5, 2) := by decide +kernel
theorem dL_thermometer_2 : decode cL_thermometer 2 = .ok (.iconst 0, 1) := by decide +kernel
theorem dL_thermometer_3 : decode cL_thermometer 3 = .ok (.aload_n 0, 1) := by decide +kernel
theorem dL_thermometer_4 : decode cL_thermometer 4 = .ok (.iload_n 1, 1) := by decide +kernel
theorem dL_thermometer_5 : decode cL_thermometer 5 = .ok (.iload_n 2, 1) := by decide +kernel
theorem dL_thermometer_6 : decode cL_thermometer 6 = .ok (.iload_n 3, 1) := by decide +kernel
theorem dL_thermometer_7 : decode cL_thermometer 7 = .ok (.iload 4, 2) := by decide +kernel
theorem dL_thermometer_9 : decode cL_thermometer 9 = .ok (.invokevirtual 7, 3) := by decide +kernel
theorem dL_thermometer_12 : decode cL_thermometer 12 = .ok (.i2l, 1) := by decide +kernel
theorem dL_thermometer_13 : decode cL_thermometer 13 = .ok (.lastore, 1) := by decide +kernel
theorem dL_thermometer_14 : decode cL_thermometer 14 = .ok (.goto 15, 3) := by decide +kernel
theorem dL_thermometer_17 : decode cL_thermometer 17 = .ok (.astore 6, 2) := by decide +kernel
theorem dL_thermometer_19 : decode cL_thermometer 19 = .ok (.iconst 1, 1) := by decide +kernel
theorem dL_thermometer_20 : decode cL_thermometer 20 = .ok (.ireturn, 1) := by decide +kernel
theorem dL_thermometer_21 : decode cL_thermometer 21 = .ok (.astore 6, 2) := by decide +kernel
theorem dL_thermometer_23 : decode cL_thermometer 23 = .ok (.iconst 2, 1) := by decide +kernel
theorem dL_thermometer_24 : decode cL_thermometer 24 = .ok (.ireturn, 1) := by decide +kernel
theorem dL_thermometer_25 : decode cL_thermometer 25 = .ok (.astore 6, 2) := by decide +kernel
theorem dL_thermometer_27 : decode cL_thermometer 27 = .ok (.iconst 3, 1) := by decide +kernel
theorem dL_thermometer_28 : decode cL_thermometer 28 = .ok (.ireturn, 1) := by decide +kernel
theorem dL_thermometer_29 : decode cL_thermometer 29 = .ok (.iconst 0, 1) := by decide +kernel
theorem dL_thermometer_30 : decode cL_thermometer 30 = .ok (.ireturn, 1) := by decide +kernel
theorem dL_hour_0 : decode cL_hour 0 = .ok (.aload_n 2, 1) := by decide +kernel
theorem dL_hour_1 : decode cL_hour 1 = .ok (.iconst 0, 1) := by decide +kernel
theorem dL_hour_2 : decode cL_hour 2 = .ok (.aload_n 0, 1) := by decide +kernel
theorem dL_hour_3 : decode cL_hour 3 = .ok (.iload_n 1, 1) := by decide +kernel
theorem dL_hour_4 : decode cL_hour 4 = .ok (.invokevirtual 19, 3) := by decide +kernel
theorem dL_hour_7 : decode cL_hour 7 = .ok (.i2l, 1) := by decide +kernel
theorem dL_hour_8 : decode cL_hour 8 = .ok (.lastore, 1) := by decide +kernel
theorem dL_hour_9 : decode cL_hour 9 = .ok (.goto 9, 3) := by decide +kernel
theorem dL_hour_12 : decode cL_hour 12 = .ok (.astore_n 3, 1) := by decide +kernel
theorem dL_hour_13 : decode cL_hour 13 = .ok (.iconst 1, 1) := by decide +kernel
theorem dL_hour_14 : decode cL_hour 14 = .ok (.ireturn, 1) := by decide +kernel
theorem dL_hour_15 : decode cL_hour 15 = .ok (.astore_n 3, 1) := by decide +kernel
theorem dL_hour_16 : decode cL_hour 16 = .ok (.iconst 2, 1) := by decide +kernel
theorem dL_hour_17 : decode cL_hour 17 = .ok (.ireturn, 1) := by decide +kernel
theorem dL_hour_18 : decode cL_hour 18 = .ok (.iconst 0, 1) := by decide +kernel
theorem dL_hour_19 : decode cL_hour 19 = .ok (.ireturn, 1) := by decide +kernel
theorem dL_hours_0 : decode cL_hours 0 = .ok (.aload_n 3, 1) := by decide +kernel
theorem dL_hours_1 : decode cL_hours 1 = .ok (.iconst 0, 1) := by decide +kernel
theorem dL_hours_2 : decode cL_hours 2 = .ok (.aload_n 0, 1) := by decide +kernel
theorem dL_hours_3 : decode cL_hours 3 = .ok (.iload_n 1, 1) := by decide +kernel
theorem dL_hours_4 : decode cL_hours 4 = .ok (.iload_n 2, 1) := by decide +kernel
theorem dL_hours_5 : decode cL_hours 5 = .ok (.invokevirtual 23, 3) := by decide +kernel
theorem dL_hours_8 : decode cL_hours 8 = .ok (.i2l, 1) := by decide +kernel
theorem dL_hours_9 : decode cL_hours 9 = .ok (.lastore, 1) := by decide +kernel
theorem dL_hours_10 : decode cL_hours 10 = .ok (.goto 11, 3) := by decide +kernel
theorem dL_hours_13 : decode cL_hours 13 = .ok (.astore 4, 2) := by decide +kernel
theorem dL_hours_15 : decode cL_hours 15 = .ok (.iconst 1, 1) := by decide +kernel
theorem dL_hours_16 : decode cL_hours 16 = .ok (.ireturn, 1) := by decide +kernel
theorem dL_hours_17 : decode cL_hours 17 = .ok (.astore 4, 2) := by decide +kernel
theorem dL_hours_19 : decode cL_hours 19 = .ok (.iconst 2, 1) := by decide +kernel
theorem dL_hours_20 : decode cL_hours 20 = .ok (.ireturn, 1) := by decide +kernel
theorem dL_hours_21 : decode cL_hours 21 = .ok (.iconst 0, 1) := by decide +kernel
theorem dL_hours_22 : decode cL_hours 22 = .ok (.ireturn, 1) := by decide +kernel
theorem dL_period_0 : decode cL_period 0 = .ok (.aload_n 3, 1) := by decide +kernel
theorem dL_period_1 : decode cL_period 1 = .ok (.iconst 0, 1) := by decide +kernel
theorem dL_period_2 : decode cL_period 2 = .ok (.aload_n 0, 1) := by decide +kernel
theorem dL_period_3 : decode cL_period 3 = .ok (.iload_n 1, 1) := by decide +kernel
theorem dL_period_4 : decode cL_period 4 = .ok (.iload_n 2, 1) := by decide +kernel
theorem dL_period_5 : decode cL_period 5 = .ok (.invokevirtual 27, 3) := by decide +kernel
theorem dL_period_8 : decode cL_period 8 = .ok (.i2l, 1) := by decide +kernel
theorem dL_period_9 : decode cL_period 9 = .ok (.lastore, 1) := by decide +kernel
theorem dL_period_10 : decode cL_period 10 = .ok (.goto 11, 3) := by decide +kernel
theorem dL_period_13 : decode cL_period 13 = .ok (.astore 4, 2) := by decide +kernel
theorem dL_period_15 : decode cL_period 15 = .ok (.iconst 1, 1) := by decide +kernel
theorem dL_period_16 : decode cL_period 16 = .ok (.ireturn, 1) := by decide +kernel
theorem dL_period_17 : decode cL_period 17 = .ok (.astore 4, 2) := by decide +kernel
theorem dL_period_19 : decode cL_period 19 = .ok (.iconst 2, 1) := by decide +kernel
theorem dL_period_20 : decode cL_period 20 = .ok (.ireturn, 1) := by decide +kernel
theorem dL_period_21 : decode cL_period 21 = .ok (.iconst 0, 1) := by decide +kernel
theorem dL_period_22 : decode cL_period 22 = .ok (.ireturn, 1) := by decide +kernel
theorem dL_calibrate_0 : decode cL_calibrate 0 = .ok (.aload_n 2, 1) := by decide +kernel
theorem dL_calibrate_1 : decode cL_calibrate 1 = .ok (.iconst 0, 1) := by decide +kernel
theorem dL_calibrate_2 : decode cL_calibrate 2 = .ok (.aload_n 0, 1) := by decide +kernel
theorem dL_calibrate_3 : decode cL_calibrate 3 = .ok (.iload_n 1, 1) := by decide +kernel
theorem dL_calibrate_4 : decode cL_calibrate 4 = .ok (.invokevirtual 30, 3) := by decide +kernel
theorem dL_calibrate_7 : decode cL_calibrate 7 = .ok (.i2l, 1) := by decide +kernel
theorem dL_calibrate_8 : decode cL_calibrate 8 = .ok (.lastore, 1) := by decide +kernel
theorem dL_calibrate_9 : decode cL_calibrate 9 = .ok (.goto 6, 3) := by decide +kernel
theorem dL_calibrate_12 : decode cL_calibrate 12 = .ok (.astore_n 3, 1) := by decide +kernel
theorem dL_calibrate_13 : decode cL_calibrate 13 = .ok (.iconst 1, 1) := by decide +kernel
theorem dL_calibrate_14 : decode cL_calibrate 14 = .ok (.ireturn, 1) := by decide +kernel
theorem dL_calibrate_15 : decode cL_calibrate 15 = .ok (.iconst 0, 1) := by decide +kernel
theorem dL_calibrate_16 : decode cL_calibrate 16 = .ok (.ireturn, 1) := by decide +kernel
theorem dL_knock_0 : decode cL_knock 0 = .ok (.aload_n 3, 1) := by decide +kernel
theorem dL_knock_1 : decode cL_knock 1 = .ok (.iconst 0, 1) := by decide +kernel
theorem dL_knock_2 : decode cL_knock 2 = .ok (.aload_n 0, 1) := by decide +kernel
theorem dL_knock_3 : decode cL_knock 3 = .ok (.iload_n 1, 1) := by decide +kernel
theorem dL_knock_4 : decode cL_knock 4 = .ok (.iload_n 2, 1) := by decide +kernel
theorem dL_knock_5 : decode cL_knock 5 = .ok (.invokevirtual 33, 3) := by decide +kernel
theorem dL_knock_8 : decode cL_knock 8 = .ok (.i2l, 1) := by decide +kernel
theorem dL_knock_9 : decode cL_knock 9 = .ok (.lastore, 1) := by decide +kernel
theorem dL_knock_10 : decode cL_knock 10 = .ok (.goto 15, 3) := by decide +kernel
theorem dL_knock_13 : decode cL_knock 13 = .ok (.astore 4, 2) := by decide +kernel
theorem dL_knock_15 : decode cL_knock 15 = .ok (.iconst 1, 1) := by decide +kernel
theorem dL_knock_16 : decode cL_knock 16 = .ok (.ireturn, 1) := by decide +kernel
theorem dL_knock_17 : decode cL_knock 17 = .ok (.astore 4, 2) := by decide +kernel
theorem dL_knock_19 : decode cL_knock 19 = .ok (.iconst 2, 1) := by decide +kernel
theorem dL_knock_20 : decode cL_knock 20 = .ok (.ireturn, 1) := by decide +kernel
theorem dL_knock_21 : decode cL_knock 21 = .ok (.astore 4, 2) := by decide +kernel
theorem dL_knock_23 : decode cL_knock 23 = .ok (.iconst 3, 1) := by decide +kernel
theorem dL_knock_24 : decode cL_knock 24 = .ok (.ireturn, 1) := by decide +kernel
theorem dL_knock_25 : decode cL_knock 25 = .ok (.iconst 0, 1) := by decide +kernel
theorem dL_knock_26 : decode cL_knock 26 = .ok (.ireturn, 1) := by decide +kernel
theorem dL_set_0 : decode cL_set 0 = .ok (.aload_n 3, 1) := by decide +kernel
theorem dL_set_1 : decode cL_set 1 = .ok (.iconst 0, 1) := by decide +kernel
theorem dL_set_2 : decode cL_set 2 = .ok (.aload_n 0, 1) := by decide +kernel
theorem dL_set_3 : decode cL_set 3 = .ok (.iload_n 1, 1) := by decide +kernel
theorem dL_set_4 : decode cL_set 4 = .ok (.iload_n 2, 1) := by decide +kernel
theorem dL_set_5 : decode cL_set 5 = .ok (.invokevirtual 36, 3) := by decide +kernel
theorem dL_set_8 : decode cL_set 8 = .ok (.i2l, 1) := by decide +kernel
theorem dL_set_9 : decode cL_set 9 = .ok (.lastore, 1) := by decide +kernel
theorem dL_set_10 : decode cL_set 10 = .ok (.goto 11, 3) := by decide +kernel
theorem dL_set_13 : decode cL_set 13 = .ok (.astore 4, 2) := by decide +kernel
theorem dL_set_15 : decode cL_set 15 = .ok (.iconst 1, 1) := by decide +kernel
theorem dL_set_16 : decode cL_set 16 = .ok (.ireturn, 1) := by decide +kernel
theorem dL_set_17 : decode cL_set 17 = .ok (.astore 4, 2) := by decide +kernel
theorem dL_set_19 : decode cL_set 19 = .ok (.iconst 2, 1) := by decide +kernel
theorem dL_set_20 : decode cL_set 20 = .ok (.ireturn, 1) := by decide +kernel
theorem dL_set_21 : decode cL_set 21 = .ok (.iconst 0, 1) := by decide +kernel
theorem dL_set_22 : decode cL_set 22 = .ok (.ireturn, 1) := by decide +kernel
theorem dL_append_0 : decode cL_append 0 = .ok (.aload_n 2, 1) := by decide +kernel
theorem dL_append_1 : decode cL_append 1 = .ok (.iconst 0, 1) := by decide +kernel
theorem dL_append_2 : decode cL_append 2 = .ok (.aload_n 0, 1) := by decide +kernel
theorem dL_append_3 : decode cL_append 3 = .ok (.iload_n 1, 1) := by decide +kernel
theorem dL_append_4 : decode cL_append 4 = .ok (.invokevirtual 39, 3) := by decide +kernel
theorem dL_append_7 : decode cL_append 7 = .ok (.i2l, 1) := by decide +kernel
theorem dL_append_8 : decode cL_append 8 = .ok (.lastore, 1) := by decide +kernel
theorem dL_append_9 : decode cL_append 9 = .ok (.goto 9, 3) := by decide +kernel
theorem dL_append_12 : decode cL_append 12 = .ok (.astore_n 3, 1) := by decide +kernel
theorem dL_append_13 : decode cL_append 13 = .ok (.iconst 1, 1) := by decide +kernel
theorem dL_append_14 : decode cL_append 14 = .ok (.ireturn, 1) := by decide +kernel
theorem dL_append_15 : decode cL_append 15 = .ok (.astore_n 3, 1) := by decide +kernel
theorem dL_append_16 : decode cL_append 16 = .ok (.iconst 2, 1) := by decide +kernel
theorem dL_append_17 : decode cL_append 17 = .ok (.ireturn, 1) := by decide +kernel
theorem dL_append_18 : decode cL_append 18 = .ok (.iconst 0, 1) := by decide +kernel
theorem dL_append_19 : decode cL_append 19 = .ok (.ireturn, 1) := by decide +kernel
theorem dL_execute_0 : decode cL_execute 0 = .ok (.aload_n 1, 1) := by decide +kernel
theorem dL_execute_1 : decode cL_execute 1 = .ok (.iconst 0, 1) := by decide +kernel
theorem dL_execute_2 : decode cL_execute 2 = .ok (.aload_n 0, 1) := by decide +kernel
theorem dL_execute_3 : decode cL_execute 3 = .ok (.invokevirtual 42, 3) := by decide +kernel
theorem dL_execute_6 : decode cL_execute 6 = .ok (.i2l, 1) := by decide +kernel
theorem dL_execute_7 : decode cL_execute 7 = .ok (.lastore, 1) := by decide +kernel
theorem dL_execute_8 : decode cL_execute 8 = .ok (.goto 6, 3) := by decide +kernel
theorem dL_execute_11 : decode cL_execute 11 = .ok (.astore_n 2, 1) := by decide +kernel
theorem dL_execute_12 : decode cL_execute 12 = .ok (.iconst 1, 1) := by decide +kernel
theorem dL_execute_13 : decode cL_execute 13 = .ok (.ireturn, 1) := by decide +kernel
theorem dL_execute_14 : decode cL_execute 14 = .ok (.iconst 0, 1) := by decide +kernel
theorem dL_execute_15 : decode cL_execute 15 = .ok (.ireturn, 1) := by decide +kernel
theorem dL_undo_0 : decode cL_undo 0 = .ok (.aload_n 1, 1) := by decide +kernel
theorem dL_undo_1 : decode cL_undo 1 = .ok (.iconst 0, 1) := by decide +kernel
theorem dL_undo_2 : decode cL_undo 2 = .ok (.aload_n 0, 1) := by decide +kernel
theorem dL_undo_3 : decode cL_undo 3 = .ok (.invokevirtual 46, 3) := by decide +kernel
theorem dL_undo_6 : decode cL_undo 6 = .ok (.i2l, 1) := by decide +kernel
theorem dL_undo_7 : decode cL_undo 7 = .ok (.lastore, 1) := by decide +kernel
theorem dL_undo_8 : decode cL_undo 8 = .ok (.goto 6, 3) := by decide +kernel
theorem dL_undo_11 : decode cL_undo 11 = .ok (.astore_n 2, 1) := by decide +kernel
theorem dL_undo_12 : decode cL_undo 12 = .ok (.iconst 1, 1) := by decide +kernel
theorem dL_undo_13 : decode cL_undo 13 = .ok (.ireturn, 1) := by decide +kernel
theorem dL_undo_14 : decode cL_undo 14 = .ok (.iconst 0, 1) := by decide +kernel
theorem dL_undo_15 : decode cL_undo 15 = .ok (.ireturn, 1) := by decide +kernel
theorem dL_keep_0 : decode cL_keep 0 = .ok (.aload_n 2, 1) := by decide +kernel
theorem dL_keep_1 : decode cL_keep 1 = .ok (.iconst 0, 1) := by decide +kernel
theorem dL_keep_2 : decode cL_keep 2 = .ok (.aload_n 0, 1) := by decide +kernel
theorem dL_keep_3 : decode cL_keep 3 = .ok (.iload_n 1, 1) := by decide +kernel
theorem dL_keep_4 : decode cL_keep 4 = .ok (.invokevirtual 49, 3) := by decide +kernel
theorem dL_keep_7 : decode cL_keep 7 = .ok (.i2l, 1) := by decide +kernel
theorem dL_keep_8 : decode cL_keep 8 = .ok (.lastore, 1) := by decide +kernel
theorem dL_keep_9 : decode cL_keep 9 = .ok (.goto 6, 3) := by decide +kernel
theorem dL_keep_12 : decode cL_keep 12 = .ok (.astore_n 3, 1) := by decide +kernel
theorem dL_keep_13 : decode cL_keep 13 = .ok (.iconst 1, 1) := by decide +kernel
theorem dL_keep_14 : decode cL_keep 14 = .ok (.ireturn, 1) := by decide +kernel
theorem dL_keep_15 : decode cL_keep 15 = .ok (.iconst 0, 1) := by decide +kernel
theorem dL_keep_16 : decode cL_keep 16 = .ok (.ireturn, 1) := by decide +kernel
theorem dL_goBack_0 : decode cL_goBack 0 = .ok (.aload_n 2, 1) := by decide +kernel
theorem dL_goBack_1 : decode cL_goBack 1 = .ok (.iconst 0, 1) := by decide +kernel
theorem dL_goBack_2 : decode cL_goBack 2 = .ok (.aload_n 0, 1) := by decide +kernel
theorem dL_goBack_3 : decode cL_goBack 3 = .ok (.iload_n 1, 1) := by decide +kernel
theorem dL_goBack_4 : decode cL_goBack 4 = .ok (.invokevirtual 52, 3) := by decide +kernel
theorem dL_goBack_7 : decode cL_goBack 7 = .ok (.i2l, 1) := by decide +kernel
theorem dL_goBack_8 : decode cL_goBack 8 = .ok (.lastore, 1) := by decide +kernel
theorem dL_goBack_9 : decode cL_goBack 9 = .ok (.goto 9, 3) := by decide +kernel
theorem dL_goBack_12 : decode cL_goBack 12 = .ok (.astore_n 3, 1) := by decide +kernel
theorem dL_goBack_13 : decode cL_goBack 13 = .ok (.iconst 1, 1) := by decide +kernel
theorem dL_goBack_14 : decode cL_goBack 14 = .ok (.ireturn, 1) := by decide +kernel
theorem dL_goBack_15 : decode cL_goBack 15 = .ok (.astore_n 3, 1) := by decide +kernel
theorem dL_goBack_16 : decode cL_goBack 16 = .ok (.iconst 2, 1) := by decide +kernel
theorem dL_goBack_17 : decode cL_goBack 17 = .ok (.ireturn, 1) := by decide +kernel
theorem dL_goBack_18 : decode cL_goBack 18 = .ok (.iconst 0, 1) := by decide +kernel
theorem dL_goBack_19 : decode cL_goBack 19 = .ok (.ireturn, 1) := by decide +kernel
theorem dL_ofThermometer_0 : decode cL_ofThermometer 0 = .ok (.aload_n 3, 1) := by decide +kernel
theorem dL_ofThermometer_1 : decode cL_ofThermometer 1 = .ok (.iconst 0, 1) := by decide +kernel
theorem dL_ofThermometer_2 : decode cL_ofThermometer 2 = .ok (.aload_n 0, 1) := by decide +kernel
theorem dL_ofThermometer_3 : decode cL_ofThermometer 3 = .ok (.iload_n 1, 1) := by decide +kernel
theorem dL_ofThermometer_4 : decode cL_ofThermometer 4 = .ok (.iload_n 2, 1) := by decide +kernel
theorem dL_ofThermometer_5 : decode cL_ofThermometer 5 = .ok (.invokevirtual 55, 3) := by decide +kernel
theorem dL_ofThermometer_8 : decode cL_ofThermometer 8 = .ok (.i2l, 1) := by decide +kernel
theorem dL_ofThermometer_9 : decode cL_ofThermometer 9 = .ok (.lastore, 1) := by decide +kernel
theorem dL_ofThermometer_10 : decode cL_ofThermometer 10 = .ok (.goto 11, 3) := by decide +kernel
theorem dL_ofThermometer_13 : decode cL_ofThermometer 13 = .ok (.astore 4, 2) := by decide +kernel
theorem dL_ofThermometer_15 : decode cL_ofThermometer 15 = .ok (.iconst 1, 1) := by decide +kernel
theorem dL_ofThermometer_16 : decode cL_ofThermometer 16 = .ok (.ireturn, 1) := by decide +kernel
theorem dL_ofThermometer_17 : decode cL_ofThermometer 17 = .ok (.astore 4, 2) := by decide +kernel
theorem dL_ofThermometer_19 : decode cL_ofThermometer 19 = .ok (.iconst 2, 1) := by decide +kernel
theorem dL_ofThermometer_20 : decode cL_ofThermometer 20 = .ok (.ireturn, 1) := by decide +kernel
theorem dL_ofThermometer_21 : decode cL_ofThermometer 21 = .ok (.iconst 0, 1) := by decide +kernel
theorem dL_ofThermometer_22 : decode cL_ofThermometer 22 = .ok (.ireturn, 1) := by decide +kernel
theorem dL_reading_0 : decode cL_reading 0 = .ok (.aload 4, 2) := by decide +kernel
theorem dL_reading_2 : decode cL_reading 2 = .ok (.iconst 0, 1) := by decide +kernel
theorem dL_reading_3 : decode cL_reading 3 = .ok (.aload_n 0, 1) := by decide +kernel
theorem dL_reading_4 : decode cL_reading 4 = .ok (.iload_n 1, 1) := by decide +kernel
theorem dL_reading_5 : decode cL_reading 5 = .ok (.iload_n 2, 1) := by decide +kernel
theorem dL_reading_6 : decode cL_reading 6 = .ok (.iload_n 3, 1) := by decide +kernel
theorem dL_reading_7 : decode cL_reading 7 = .ok (.invokevirtual 58, 3) := by decide +kernel
theorem dL_reading_10 : decode cL_reading 10 = .ok (.i2l, 1) := by decide +kernel
theorem dL_reading_11 : decode cL_reading 11 = .ok (.lastore, 1) := by decide +kernel
theorem dL_reading_12 : decode cL_reading 12 = .ok (.goto 11, 3) := by decide +kernel
theorem dL_reading_15 : decode cL_reading 15 = .ok (.astore 5, 2) := by decide +kernel
theorem dL_reading_17 : decode cL_reading 17 = .ok (.iconst 1, 1) := by decide +kernel
theorem dL_reading_18 : decode cL_reading 18 = .ok (.ireturn, 1) := by decide +kernel
theorem dL_reading_19 : decode cL_reading 19 = .ok (.astore 5, 2) := by decide +kernel
theorem dL_reading_21 : decode cL_reading 21 = .ok (.iconst 2, 1) := by decide +kernel
theorem dL_reading_22 : decode cL_reading 22 = .ok (.ireturn, 1) := by decide +kernel
theorem dL_reading_23 : decode cL_reading 23 = .ok (.iconst 0, 1) := by decide +kernel
theorem dL_reading_24 : decode cL_reading 24 = .ok (.ireturn, 1) := by decide +kernel
theorem dL_row_0 : decode cL_row 0 = .ok (.aload_n 3, 1) := by decide +kernel
theorem dL_row_1 : decode cL_row 1 = .ok (.iconst 0, 1) := by decide +kernel
theorem dL_row_2 : decode cL_row 2 = .ok (.aload_n 0, 1) := by decide +kernel
theorem dL_row_3 : decode cL_row 3 = .ok (.iload_n 1, 1) := by decide +kernel
theorem dL_row_4 : decode cL_row 4 = .ok (.iload_n 2, 1) := by decide +kernel
theorem dL_row_5 : decode cL_row 5 = .ok (.invokevirtual 62, 3) := by decide +kernel
theorem dL_row_8 : decode cL_row 8 = .ok (.i2l, 1) := by decide +kernel
theorem dL_row_9 : decode cL_row 9 = .ok (.lastore, 1) := by decide +kernel
theorem dL_row_10 : decode cL_row 10 = .ok (.goto 11, 3) := by decide +kernel
theorem dL_row_13 : decode cL_row 13 = .ok (.astore 4, 2) := by decide +kernel
theorem dL_row_15 : decode cL_row 15 = .ok (.iconst 1, 1) := by decide +kernel
theorem dL_row_16 : decode cL_row 16 = .ok (.ireturn, 1) := by decide +kernel
theorem dL_row_17 : decode cL_row 17 = .ok (.astore 4, 2) := by decide +kernel
theorem dL_row_19 : decode cL_row 19 = .ok (.iconst 2, 1) := by decide +kernel
theorem dL_row_20 : decode cL_row 20 = .ok (.ireturn, 1) := by decide +kernel
theorem dL_row_21 : decode cL_row 21 = .ok (.iconst 0, 1) := by decide +kernel
theorem dL_row_22 : decode cL_row 22 = .ok (.ireturn, 1) := by decide +kernel
theorem dL_count_0 : decode cL_count 0 = .ok (.aload_n 2, 1) := by decide +kernel
theorem dL_count_1 : decode cL_count 1 = .ok (.iconst 0, 1) := by decide +kernel
theorem dL_count_2 : decode cL_count 2 = .ok (.aload_n 0, 1) := by decide +kernel
theorem dL_count_3 : decode cL_count 3 = .ok (.iload_n 1, 1) := by decide +kernel
theorem dL_count_4 : decode cL_count 4 = .ok (.invokevirtual 65, 3) := by decide +kernel
theorem dL_count_7 : decode cL_count 7 = .ok (.i2l, 1) := by decide +kernel
theorem dL_count_8 : decode cL_count 8 = .ok (.lastore, 1) := by decide +kernel
theorem dL_count_9 : decode cL_count 9 = .ok (.goto 6, 3) := by decide +kernel
theorem dL_count_12 : decode cL_count 12 = .ok (.astore_n 3, 1) := by decide +kernel
theorem dL_count_13 : decode cL_count 13 = .ok (.iconst 1, 1) := by decide +kernel
theorem dL_count_14 : decode cL_count 14 = .ok (.ireturn, 1) := by decide +kernel
theorem dL_count_15 : decode cL_count 15 = .ok (.iconst 0, 1) := by decide +kernel
theorem dL_count_16 : decode cL_count 16 = .ok (.ireturn, 1) := by decide +kernel
theorem dL_ranked_0 : decode cL_ranked 0 = .ok (.aload_n 3, 1) := by decide +kernel
theorem dL_ranked_1 : decode cL_ranked 1 = .ok (.iconst 0, 1) := by decide +kernel
theorem dL_ranked_2 : decode cL_ranked 2 = .ok (.aload_n 0, 1) := by decide +kernel
theorem dL_ranked_3 : decode cL_ranked 3 = .ok (.iload_n 1, 1) := by decide +kernel
theorem dL_ranked_4 : decode cL_ranked 4 = .ok (.iload_n 2, 1) := by decide +kernel
theorem dL_ranked_5 : decode cL_ranked 5 = .ok (.invokevirtual 68, 3) := by decide +kernel
theorem dL_ranked_8 : decode cL_ranked 8 = .ok (.i2l, 1) := by decide +kernel
theorem dL_ranked_9 : decode cL_ranked 9 = .ok (.lastore, 1) := by decide +kernel
theorem dL_ranked_10 : decode cL_ranked 10 = .ok (.goto 7, 3) := by decide +kernel
theorem dL_ranked_13 : decode cL_ranked 13 = .ok (.astore 4, 2) := by decide +kernel
theorem dL_ranked_15 : decode cL_ranked 15 = .ok (.iconst 1, 1) := by decide +kernel
theorem dL_ranked_16 : decode cL_ranked 16 = .ok (.ireturn, 1) := by decide +kernel
theorem dL_ranked_17 : decode cL_ranked 17 = .ok (.iconst 0, 1) := by decide +kernel
theorem dL_ranked_18 : decode cL_ranked 18 = .ok (.ireturn, 1) := by decide +kernel
theorem dL_ifLag_0 : decode cL_ifLag 0 = .ok (.aload_n 3, 1) := by decide +kernel
theorem dL_ifLag_1 : decode cL_ifLag 1 = .ok (.iconst 0, 1) := by decide +kernel
theorem dL_ifLag_2 : decode cL_ifLag 2 = .ok (.aload_n 0, 1) := by decide +kernel
theorem dL_ifLag_3 : decode cL_ifLag 3 = .ok (.iload_n 1, 1) := by decide +kernel
theorem dL_ifLag_4 : decode cL_ifLag 4 = .ok (.iload_n 2, 1) := by decide +kernel
theorem dL_ifLag_5 : decode cL_ifLag 5 = .ok (.invokevirtual 71, 3) := by decide +kernel
theorem dL_ifLag_8 : decode cL_ifLag 8 = .ok (.i2l, 1) := by decide +kernel
theorem dL_ifLag_9 : decode cL_ifLag 9 = .ok (.lastore, 1) := by decide +kernel
theorem dL_ifLag_10 : decode cL_ifLag 10 = .ok (.goto 11, 3) := by decide +kernel
theorem dL_ifLag_13 : decode cL_ifLag 13 = .ok (.astore 4, 2) := by decide +kernel
theorem dL_ifLag_15 : decode cL_ifLag 15 = .ok (.iconst 1, 1) := by decide +kernel
theorem dL_ifLag_16 : decode cL_ifLag 16 = .ok (.ireturn, 1) := by decide +kernel
theorem dL_ifLag_17 : decode cL_ifLag 17 = .ok (.astore 4, 2) := by decide +kernel
theorem dL_ifLag_19 : decode cL_ifLag 19 = .ok (.iconst 2, 1) := by decide +kernel
theorem dL_ifLag_20 : decode cL_ifLag 20 = .ok (.ireturn, 1) := by decide +kernel
theorem dL_ifLag_21 : decode cL_ifLag 21 = .ok (.iconst 0, 1) := by decide +kernel
theorem dL_ifLag_22 : decode cL_ifLag 22 = .ok (.ireturn, 1) := by decide +kernel
theorem dL_bestLag_0 : decode cL_bestLag 0 = .ok (.aload_n 2, 1) := by decide +kernel
theorem dL_bestLag_1 : decode cL_bestLag 1 = .ok (.iconst 0, 1) := by decide +kernel
theorem dL_bestLag_2 : decode cL_bestLag 2 = .ok (.aload_n 0, 1) := by decide +kernel
theorem dL_bestLag_3 : decode cL_bestLag 3 = .ok (.iload_n 1, 1) := by decide +kernel
theorem dL_bestLag_4 : decode cL_bestLag 4 = .ok (.invokevirtual 74, 3) := by decide +kernel
theorem dL_bestLag_7 : decode cL_bestLag 7 = .ok (.i2l, 1) := by decide +kernel
theorem dL_bestLag_8 : decode cL_bestLag 8 = .ok (.lastore, 1) := by decide +kernel
theorem dL_bestLag_9 : decode cL_bestLag 9 = .ok (.goto 6, 3) := by decide +kernel
theorem dL_bestLag_12 : decode cL_bestLag 12 = .ok (.astore_n 3, 1) := by decide +kernel
theorem dL_bestLag_13 : decode cL_bestLag 13 = .ok (.iconst 1, 1) := by decide +kernel
theorem dL_bestLag_14 : decode cL_bestLag 14 = .ok (.ireturn, 1) := by decide +kernel
theorem dL_bestLag_15 : decode cL_bestLag 15 = .ok (.iconst 0, 1) := by decide +kernel
theorem dL_bestLag_16 : decode cL_bestLag 16 = .ok (.ireturn, 1) := by decide +kernel
theorem dL_ifStill_0 : decode cL_ifStill 0 = .ok (.aload_n 3, 1) := by decide +kernel
theorem dL_ifStill_1 : decode cL_ifStill 1 = .ok (.iconst 0, 1) := by decide +kernel
theorem dL_ifStill_2 : decode cL_ifStill 2 = .ok (.aload_n 0, 1) := by decide +kernel
theorem dL_ifStill_3 : decode cL_ifStill 3 = .ok (.iload_n 1, 1) := by decide +kernel
theorem dL_ifStill_4 : decode cL_ifStill 4 = .ok (.iload_n 2, 1) := by decide +kernel
theorem dL_ifStill_5 : decode cL_ifStill 5 = .ok (.invokevirtual 77, 3) := by decide +kernel
theorem dL_ifStill_8 : decode cL_ifStill 8 = .ok (.i2l, 1) := by decide +kernel
theorem dL_ifStill_9 : decode cL_ifStill 9 = .ok (.lastore, 1) := by decide +kernel
theorem dL_ifStill_10 : decode cL_ifStill 10 = .ok (.goto 7, 3) := by decide +kernel
theorem dL_ifStill_13 : decode cL_ifStill 13 = .ok (.astore 4, 2) := by decide +kernel
theorem dL_ifStill_15 : decode cL_ifStill 15 = .ok (.iconst 1, 1) := by decide +kernel
theorem dL_ifStill_16 : decode cL_ifStill 16 = .ok (.ireturn, 1) := by decide +kernel
theorem dL_ifStill_17 : decode cL_ifStill 17 = .ok (.iconst 0, 1) := by decide +kernel
theorem dL_ifStill_18 : decode cL_ifStill 18 = .ok (.ireturn, 1) := by decide +kernel
theorem dL_stillIn_0 : decode cL_stillIn 0 = .ok (.aload_n 2, 1) := by decide +kernel
theorem dL_stillIn_1 : decode cL_stillIn 1 = .ok (.iconst 0, 1) := by decide +kernel
theorem dL_stillIn_2 : decode cL_stillIn 2 = .ok (.aload_n 0, 1) := by decide +kernel
theorem dL_stillIn_3 : decode cL_stillIn 3 = .ok (.iload_n 1, 1) := by decide +kernel
theorem dL_stillIn_4 : decode cL_stillIn 4 = .ok (.invokevirtual 80, 3) := by decide +kernel
theorem dL_stillIn_7 : decode cL_stillIn 7 = .ok (.i2l, 1) := by decide +kernel
theorem dL_stillIn_8 : decode cL_stillIn 8 = .ok (.lastore, 1) := by decide +kernel
theorem dL_stillIn_9 : decode cL_stillIn 9 = .ok (.goto 6, 3) := by decide +kernel
theorem dL_stillIn_12 : decode cL_stillIn 12 = .ok (.astore_n 3, 1) := by decide +kernel
theorem dL_stillIn_13 : decode cL_stillIn 13 = .ok (.iconst 1, 1) := by decide +kernel
theorem dL_stillIn_14 : decode cL_stillIn 14 = .ok (.ireturn, 1) := by decide +kernel
theorem dL_stillIn_15 : decode cL_stillIn 15 = .ok (.iconst 0, 1) := by decide +kernel
theorem dL_stillIn_16 : decode cL_stillIn 16 = .ok (.ireturn, 1) := by decide +kernel
theorem dL_law_0 : decode cL_law 0 = .ok (.new 8, 3) := by decide +kernel
theorem dL_law_3 : decode cL_law 3 = .ok (.dup, 1) := by decide +kernel
theorem dL_law_4 : decode cL_law 4 = .ok (.invokespecial 83, 3) := by decide +kernel
theorem dL_law_7 : decode cL_law 7 = .ok (.astore_n 1, 1) := by decide +kernel
theorem dL_law_8 : decode cL_law 8 = .ok (.new 84, 3) := by decide +kernel
theorem dL_law_11 : decode cL_law 11 = .ok (.dup, 1) := by decide +kernel
theorem dL_law_12 : decode cL_law 12 = .ok (.invokespecial 86, 3) := by decide +kernel
theorem dL_law_15 : decode cL_law 15 = .ok (.astore_n 2, 1) := by decide +kernel
theorem dL_law_16 : decode cL_law 16 = .ok (.iconst 1, 1) := by decide +kernel
theorem dL_law_17 : decode cL_law 17 = .ok (.newarray .long, 2) := by decide +kernel
theorem dL_law_19 : decode cL_law 19 = .ok (.astore_n 3, 1) := by decide +kernel
theorem dL_law_20 : decode cL_law 20 = .ok (.iconst 0, 1) := by decide +kernel
theorem dL_law_21 : decode cL_law 21 = .ok (.istore 4, 2) := by decide +kernel
theorem dL_law_23 : decode cL_law 23 = .ok (.iload 4, 2) := by decide +kernel
theorem dL_law_25 : decode cL_law 25 = .ok (.aload_n 0, 1) := by decide +kernel
theorem dL_law_26 : decode cL_law 26 = .ok (.arraylength, 1) := by decide +kernel
theorem dL_law_27 : decode cL_law 27 = .ok (.iconst 5, 1) := by decide +kernel
theorem dL_law_28 : decode cL_law 28 = .ok (.isub, 1) := by decide +kernel
theorem dL_law_29 : decode cL_law 29 = .ok (.if_icmp .gt 1553, 3) := by decide +kernel
theorem dL_law_32 : decode cL_law 32 = .ok (.aload_n 0, 1) := by decide +kernel
theorem dL_law_33 : decode cL_law 33 = .ok (.iload 4, 2) := by decide +kernel
theorem dL_law_35 : decode cL_law 35 = .ok (.iaload, 1) := by decide +kernel
theorem dL_law_36 : decode cL_law 36 = .ok (.bipush 31, 2) := by decide +kernel
theorem dL_law_38 : decode cL_law 38 = .ok (.iand, 1) := by decide +kernel
theorem dL_law_39 : decode cL_law 39 = .ok (.tableswitch 1537 0 24 #[113, 205, 261, 329, 397, 453, 521, 589, 645, 658, 671, 715, 759, 815, 871, 939, 1019, 1087, 1143, 1211, 1248, 1316, 1372, 1440, 1496], 113) := by decide +kernel
theorem dL_law_152 : decode cL_law 152 = .ok (.aload_n 1, 1) := by decide +kernel
theorem dL_law_153 : decode cL_law 153 = .ok (.aload_n 0, 1) := by decide +kernel
theorem dL_law_154 : decode cL_law 154 = .ok (.iload 4, 2) := by decide +kernel
theorem dL_law_156 : decode cL_law 156 = .ok (.iconst 1, 1) := by decide +kernel
theorem dL_law_157 : decode cL_law 157 = .ok (.iadd, 1) := by decide +kernel
theorem dL_law_158 : decode cL_law 158 = .ok (.iaload, 1) := by decide +kernel
theorem dL_law_159 : decode cL_law 159 = .ok (.aload_n 0, 1) := by decide +kernel
theorem dL_law_160 : decode cL_law 160 = .ok (.iload 4, 2) := by decide +kernel
theorem dL_law_162 : decode cL_law 162 = .ok (.iconst 2, 1) := by decide +kernel
theorem dL_law_163 : decode cL_law 163 = .ok (.iadd, 1) := by decide +kernel
theorem dL_law_164 : decode cL_law 164 = .ok (.iaload, 1) := by decide +kernel
theorem dL_law_165 : decode cL_law 165 = .ok (.aload_n 0, 1) := by decide +kernel
theorem dL_law_166 : decode cL_law 166 = .ok (.iload 4, 2) := by decide +kernel
theorem dL_law_168 : decode cL_law 168 = .ok (.iconst 3, 1) := by decide +kernel
theorem dL_law_169 : decode cL_law 169 = .ok (.iadd, 1) := by decide +kernel
theorem dL_law_170 : decode cL_law 170 = .ok (.iaload, 1) := by decide +kernel
theorem dL_law_171 : decode cL_law 171 = .ok (.aload_n 0, 1) := by decide +kernel
theorem dL_law_172 : decode cL_law 172 = .ok (.iload 4, 2) := by decide +kernel
theorem dL_law_174 : decode cL_law 174 = .ok (.iconst 4, 1) := by decide +kernel
theorem dL_law_175 : decode cL_law 175 = .ok (.iadd, 1) := by decide +kernel
theorem dL_law_176 : decode cL_law 176 = .ok (.iaload, 1) := by decide +kernel
theorem dL_law_177 : decode cL_law 177 = .ok (.aload_n 3, 1) := by decide +kernel
theorem dL_law_178 : decode cL_law 178 = .ok (.invokestatic 87, 3) := by decide +kernel
theorem dL_law_181 : decode cL_law 181 = .ok (.istore 5, 2) := by decide +kernel
theorem dL_law_183 : decode cL_law 183 = .ok (.aload_n 2, 1) := by decide +kernel
theorem dL_law_184 : decode cL_law 184 = .ok (.aload_n 0, 1) := by decide +kernel
theorem dL_law_185 : decode cL_law 185 = .ok (.iload 4, 2) := by decide +kernel
theorem dL_law_187 : decode cL_law 187 = .ok (.iconst 1, 1) := by decide +kernel
theorem dL_law_188 : decode cL_law 188 = .ok (.iadd, 1) := by decide +kernel
theorem dL_law_189 : decode cL_law 189 = .ok (.iaload, 1) := by decide +kernel
theorem dL_law_190 : decode cL_law 190 = .ok (.aload_n 0, 1) := by decide +kernel
theorem dL_law_191 : decode cL_law 191 = .ok (.iload 4, 2) := by decide +kernel
theorem dL_law_193 : decode cL_law 193 = .ok (.iconst 2, 1) := by decide +kernel
theorem dL_law_194 : decode cL_law 194 = .ok (.iadd, 1) := by decide +kernel
theorem dL_law_195 : decode cL_law 195 = .ok (.iaload, 1) := by decide +kernel
theorem dL_law_196 : decode cL_law 196 = .ok (.aload_n 0, 1) := by decide +kernel
theorem dL_law_197 : decode cL_law 197 = .ok (.iload 4, 2) := by decide +kernel
theorem dL_law_199 : decode cL_law 199 = .ok (.iconst 3, 1) := by decide +kernel
theorem dL_law_200 : decode cL_law 200 = .ok (.iadd, 1) := by decide +kernel
theorem dL_law_201 : decode cL_law 201 = .ok (.iaload, 1) := by decide +kernel
theorem dL_law_202 : decode cL_law 202 = .ok (.aload_n 0, 1) := by decide +kernel
theorem dL_law_203 : decode cL_law 203 = .ok (.iload 4, 2) := by decide +kernel
theorem dL_law_205 : decode cL_law 205 = .ok (.iconst 4, 1) := by decide +kernel
theorem dL_law_206 : decode cL_law 206 = .ok (.iadd, 1) := by decide +kernel
theorem dL_law_207 : decode cL_law 207 = .ok (.iaload, 1) := by decide +kernel
theorem dL_law_208 : decode cL_law 208 = .ok (.invokevirtual 92, 3) := by decide +kernel
theorem dL_law_211 : decode cL_law 211 = .ok (.istore 6, 2) := by decide +kernel
theorem dL_law_213 : decode cL_law 213 = .ok (.aload_n 2, 1) := by decide +kernel
theorem dL_law_214 : decode cL_law 214 = .ok (.invokevirtual 93, 3) := by decide +kernel
theorem dL_law_217 : decode cL_law 217 = .ok (.iload 5, 2) := by decide +kernel
theorem dL_law_219 : decode cL_law 219 = .ok (.if_icmp .eq 5, 3) := by decide +kernel
theorem dL_law_222 : decode cL_law 222 = .ok (.iconst 0, 1) := by decide +kernel
theorem dL_law_223 : decode cL_law 223 = .ok (.ireturn, 1) := by decide +kernel
theorem dL_law_224 : decode cL_law 224 = .ok (.iload 5, 2) := by decide +kernel
theorem dL_law_226 : decode cL_law 226 = .ok (.ifCond .ne 15, 3) := by decide +kernel
theorem dL_law_229 : decode cL_law 229 = .ok (.aload_n 3, 1) := by decide +kernel
theorem dL_law_230 : decode cL_law 230 = .ok (.iconst 0, 1) := by decide +kernel
theorem dL_law_231 : decode cL_law 231 = .ok (.laload, 1) := by decide +kernel
theorem dL_law_232 : decode cL_law 232 = .ok (.iload 6, 2) := by decide +kernel
theorem dL_law_234 : decode cL_law 234 = .ok (.i2l, 1) := by decide +kernel
theorem dL_law_235 : decode cL_law 235 = .ok (.lcmp, 1) := by decide +kernel
theorem dL_law_236 : decode cL_law 236 = .ok (.ifCond .eq 5, 3) := by decide +kernel
theorem dL_law_239 : decode cL_law 239 = .ok (.iconst 0, 1) := by decide +kernel
theorem dL_law_240 : decode cL_law 240 = .ok (.ireturn, 1) := by decide +kernel
theorem dL_law_241 : decode cL_law 241 = .ok (.goto 1335, 3) := by decide +kernel
theorem dL_law_244 : decode cL_law 244 = .ok (.aload_n 1, 1) := by decide +kernel
theorem dL_law_245 : decode cL_law 245 = .ok (.aload_n 0, 1) := by decide +kernel
theorem dL_law_246 : decode cL_law 246 = .ok (.iload 4, 2) := by decide +kernel
theorem dL_law_248 : decode cL_law 248 = .ok (.iconst 1, 1) := by decide +kernel
theorem dL_law_249 : decode cL_law 249 = .ok (.iadd, 1) := by decide +kernel
theorem dL_law_250 : decode cL_law 250 = .ok (.iaload, 1) := by decide +kernel
theorem dL_law_251 : decode cL_law 251 = .ok (.aload_n 3, 1) := by decide +kernel
theorem dL_law_252 : decode cL_law 252 = .ok (.invokestatic 96, 3) := by decide +kernel
theorem dL_law_255 : decode cL_law 255 = .ok (.istore 5, 2) := by decide +kernel
theorem dL_law_257 : decode cL_law 257 = .ok (.aload_n 2, 1) := by decide +kernel
theorem dL_law_258 : decode cL_law 258 = .ok (.aload_n 0, 1) := by decide +kernel
theorem dL_law_259 : decode cL_law 259 = .ok (.iload 4, 2) := by decide +kernel
theorem dL_law_261 : decode cL_law 261 = .ok (.iconst 1, 1) := by decide +kernel
theorem dL_law_262 : decode cL_law 262 = .ok (.iadd, 1) := by decide +kernel
theorem dL_law_263 : decode cL_law 263 = .ok (.iaload, 1) := by decide +kernel
theorem dL_law_264 : decode cL_law 264 = .ok (.invokevirtual 99, 3) := by decide +kernel
theorem dL_law_267 : decode cL_law 267 = .ok (.istore 6, 2) := by decide +kernel
theorem dL_law_269 : decode cL_law 269 = .ok (.aload_n 2, 1) := by decide +kernel
theorem dL_law_270 : decode cL_law 270 = .ok (.invokevirtual 93, 3) := by decide +kernel
theorem dL_law_273 : decode cL_law 273 = .ok (.iload 5, 2) := by decide +kernel
theorem dL_law_275 : decode cL_law 275 = .ok (.if_icmp .eq 5, 3) := by decide +kernel
theorem dL_law_278 : decode cL_law 278 = .ok (.iconst 0, 1) := by decide +kernel
theorem dL_law_279 : decode cL_law 279 = .ok (.ireturn, 1) := by decide +kernel
theorem dL_law_280 : decode cL_law 280 = .ok (.iload 5, 2) := by decide +kernel
theorem dL_law_282 : decode cL_law 282 = .ok (.ifCond .ne 15, 3) := by decide +kernel
theorem dL_law_285 : decode cL_law 285 = .ok (.aload_n 3, 1) := by decide +kernel
theorem dL_law_286 : decode cL_law 286 = .ok (.iconst 0, 1) := by decide +kernel
theorem dL_law_287 : decode cL_law 287 = .ok (.laload, 1) := by decide +kernel
theorem dL_law_288 : decode cL_law 288 = .ok (.iload 6, 2) := by decide +kernel
theorem dL_law_290 : decode cL_law 290 = .ok (.i2l, 1) := by decide +kernel
theorem dL_law_291 : decode cL_law 291 = .ok (.lcmp, 1) := by decide +kernel
theorem dL_law_292 : decode cL_law 292 = .ok (.ifCond .eq 5, 3) := by decide +kernel
theorem dL_law_295 : decode cL_law 295 = .ok (.iconst 0, 1) := by decide +kernel
theorem dL_law_296 : decode cL_law 296 = .ok (.ireturn, 1) := by decide +kernel
theorem dL_law_297 : decode cL_law 297 = .ok (.goto 1279, 3) := by decide +kernel
theorem dL_law_300 : decode cL_law 300 = .ok (.aload_n 1, 1) := by decide +kernel
theorem dL_law_301 : decode cL_law 301 = .ok (.aload_n 0, 1) := by decide +kernel
theorem dL_law_302 : decode cL_law 302 = .ok (.iload 4, 2) := by decide +kernel
theorem dL_law_304 : decode cL_law 304 = .ok (.iconst 1, 1) := by decide +kernel
theorem dL_law_305 : decode cL_law 305 = .ok (.iadd, 1) := by decide +kernel
theorem dL_law_306 : decode cL_law 306 = .ok (.iaload, 1) := by decide +kernel
theorem dL_law_307 : decode cL_law 307 = .ok (.aload_n 0, 1) := by decide +kernel
theorem dL_law_308 : decode cL_law 308 = .ok (.iload 4, 2) := by decide +kernel
theorem dL_law_310 : decode cL_law 310 = .ok (.iconst 2, 1) := by decide +kernel
theorem dL_law_311 : decode cL_law 311 = .ok (.iadd, 1) := by decide +kernel
theorem dL_law_312 : decode cL_law 312 = .ok (.iaload, 1) := by decide +kernel
theorem dL_law_313 : decode cL_law 313 = .ok (.aload_n 3, 1) := by decide +kernel
theorem dL_law_314 : decode cL_law 314 = .ok (.invokestatic 100, 3) := by decide +kernel
theorem dL_law_317 : decode cL_law 317 = .ok (.istore 5, 2) := by decide +kernel
theorem dL_law_319 : decode cL_law 319 = .ok (.aload_n 2, 1) := by decide +kernel
theorem dL_law_320 : decode cL_law 320 = .ok (.aload_n 0, 1) := by decide +kernel
theorem dL_law_321 : decode cL_law 321 = .ok (.iload 4, 2) := by decide +kernel
theorem dL_law_323 : decode cL_law 323 = .ok (.iconst 1, 1) := by decide +kernel
theorem dL_law_324 : decode cL_law 324 = .ok (.iadd, 1) := by decide +kernel
theorem dL_law_325 : decode cL_law 325 = .ok (.iaload, 1) := by decide +kernel
theorem dL_law_326 : decode cL_law 326 = .ok (.aload_n 0, 1) := by decide +kernel
theorem dL_law_327 : decode cL_law 327 = .ok (.iload 4, 2) := by decide +kernel
theorem dL_law_329 : decode cL_law 329 = .ok (.iconst 2, 1) := by decide +kernel
theorem dL_law_330 : decode cL_law 330 = .ok (.iadd, 1) := by decide +kernel
theorem dL_law_331 : decode cL_law 331 = .ok (.iaload, 1) := by decide +kernel
theorem dL_law_332 : decode cL_law 332 = .ok (.invokevirtual 103, 3) := by decide +kernel
theorem dL_law_335 : decode cL_law 335 = .ok (.istore 6, 2) := by decide +kernel
theorem dL_law_337 : decode cL_law 337 = .ok (.aload_n 2, 1) := by decide +kernel
theorem dL_law_338 : decode cL_law 338 = .ok (.invokevirtual 93, 3) := by decide +kernel
theorem dL_law_341 : decode cL_law 341 = .ok (.iload 5, 2) := by decide +kernel
theorem dL_law_343 : decode cL_law 343 = .ok (.if_icmp .eq 5, 3) := by decide +kernel
theorem dL_law_346 : decode cL_law 346 = .ok (.iconst 0, 1) := by decide +kernel
theorem dL_law_347 : decode cL_law 347 = .ok (.ireturn, 1) := by decide +kernel
theorem dL_law_348 : decode cL_law 348 = .ok (.iload 5, 2) := by decide +kernel
theorem dL_law_350 : decode cL_law 350 = .ok (.ifCond .ne 15, 3) := by decide +kernel
theorem dL_law_353 : decode cL_law 353 = .ok (.aload_n 3, 1) := by decide +kernel
theorem dL_law_354 : decode cL_law 354 = .ok (.iconst 0, 1) := by decide +kernel
theorem dL_law_355 : decode cL_law 355 = .ok (.laload, 1) := by decide +kernel
theorem dL_law_356 : decode cL_law 356 = .ok (.iload 6, 2) := by decide +kernel
theorem dL_law_358 : decode cL_law 358 = .ok (.i2l, 1) := by decide +kernel
theorem dL_law_359 : decode cL_law 359 = .ok (.lcmp, 1) := by decide +kernel
theorem dL_law_360 : decode cL_law 360 = .ok (.ifCond .eq 5, 3) := by decide +kernel
theorem dL_law_363 : decode cL_law 363 = .ok (.iconst 0, 1) := by decide +kernel
theorem dL_law_364 : decode cL_law 364 = .ok (.ireturn, 1) := by decide +kernel
theorem dL_law_365 : decode cL_law 365 = .ok (.goto 1211, 3) := by decide +kernel
theorem dL_law_368 : decode cL_law 368 = .ok (.aload_n 1, 1) := by decide +kernel
theorem dL_law_369 : decode cL_law 369 = .ok (.aload_n 0, 1) := by decide +kernel
theorem dL_law_370 : decode cL_law 370 = .ok (.iload 4, 2) := by decide +kernel
theorem dL_law_372 : decode cL_law 372 = .ok (.iconst 1, 1) := by decide +kernel
theorem dL_law_373 : decode cL_law 373 = .ok (.iadd, 1) := by decide +kernel
theorem dL_law_374 : decode cL_law 374 = .ok (.iaload, 1) := by decide +kernel
theorem dL_law_375 : decode cL_law 375 = .ok (.aload_n 0, 1) := by decide +kernel
theorem dL_law_376 : decode cL_law 376 = .ok (.iload 4, 2) := by decide +kernel
theorem dL_law_378 : decode cL_law 378 = .ok (.iconst 2, 1) := by decide +kernel
theorem dL_law_379 : decode cL_law 379 = .ok (.iadd, 1) := by decide +kernel
theorem dL_law_380 : decode cL_law 380 = .ok (.iaload, 1) := by decide +kernel
theorem dL_law_381 : decode cL_law 381 = .ok (.aload_n 3, 1) := by decide +kernel
theorem dL_law_382 : decode cL_law 382 = .ok (.invokestatic 104, 3) := by decide +kernel
theorem dL_law_385 : decode cL_law 385 = .ok (.istore 5, 2) := by decide +kernel
theorem dL_law_387 : decode cL_law 387 = .ok (.aload_n 2, 1) := by decide +kernel
theorem dL_law_388 : decode cL_law 388 = .ok (.aload_n 0, 1) := by decide +kernel
theorem dL_law_389 : decode cL_law 389 = .ok (.iload 4, 2) := by decide +kernel
theorem dL_law_391 : decode cL_law 391 = .ok (.iconst 1, 1) := by decide +kernel
theorem dL_law_392 : decode cL_law 392 = .ok (.iadd, 1) := by decide +kernel
theorem dL_law_393 : decode cL_law 393 = .ok (.iaload, 1) := by decide +kernel
theorem dL_law_394 : decode cL_law 394 = .ok (.aload_n 0, 1) := by decide +kernel
theorem dL_law_395 : decode cL_law 395 = .ok (.iload 4, 2) := by decide +kernel
theorem dL_law_397 : decode cL_law 397 = .ok (.iconst 2, 1) := by decide +kernel
theorem dL_law_398 : decode cL_law 398 = .ok (.iadd, 1) := by decide +kernel
theorem dL_law_399 : decode cL_law 399 = .ok (.iaload, 1) := by decide +kernel
theorem dL_law_400 : decode cL_law 400 = .ok (.invokevirtual 106, 3) := by decide +kernel
theorem dL_law_403 : decode cL_law 403 = .ok (.istore 6, 2) := by decide +kernel
theorem dL_law_405 : decode cL_law 405 = .ok (.aload_n 2, 1) := by decide +kernel
theorem dL_law_406 : decode cL_law 406 = .ok (.invokevirtual 93, 3) := by decide +kernel
theorem dL_law_409 : decode cL_law 409 = .ok (.iload 5, 2) := by decide +kernel
theorem dL_law_411 : decode cL_law 411 = .ok (.if_icmp .eq 5, 3) := by decide +kernel
theorem dL_law_414 : decode cL_law 414 = .ok (.iconst 0, 1) := by decide +kernel
theorem dL_law_415 : decode cL_law 415 = .ok (.ireturn, 1) := by decide +kernel
theorem dL_law_416 : decode cL_law 416 = .ok (.iload 5, 2) := by decide +kernel
theorem dL_law_418 : decode cL_law 418 = .ok (.ifCond .ne 15, 3) := by decide +kernel
theorem dL_law_421 : decode cL_law 421 = .ok (.aload_n 3, 1) := by decide +kernel
theorem dL_law_422 : decode cL_law 422 = .ok (.iconst 0, 1) := by decide +kernel
theorem dL_law_423 : decode cL_law 423 = .ok (.laload, 1) := by decide +kernel
theorem dL_law_424 : decode cL_law 424 = .ok (.iload 6, 2) := by decide +kernel
theorem dL_law_426 : decode cL_law 426 = .ok (.i2l, 1) := by decide +kernel
theorem dL_law_427 : decode cL_law 427 = .ok (.lcmp, 1) := by decide +kernel
theorem dL_law_428 : decode cL_law 428 = .ok (.ifCond .eq 5, 3) := by decide +kernel
theorem dL_law_431 : decode cL_law 431 = .ok (.iconst 0, 1) := by decide +kernel
theorem dL_law_432 : decode cL_law 432 = .ok (.ireturn, 1) := by decide +kernel
theorem dL_law_433 : decode cL_law 433 = .ok (.goto 1143, 3) := by decide +kernel
theorem dL_law_436 : decode cL_law 436 = .ok (.aload_n 1, 1) := by decide +kernel
theorem dL_law_437 : decode cL_law 437 = .ok (.aload_n 0, 1) := by decide +kernel
theorem dL_law_438 : decode cL_law 438 = .ok (.iload 4, 2) := by decide +kernel
theorem dL_law_440 : decode cL_law 440 = .ok (.iconst 1, 1) := by decide +kernel
theorem dL_law_441 : decode cL_law 441 = .ok (.iadd, 1) := by decide +kernel
theorem dL_law_442 : decode cL_law 442 = .ok (.iaload, 1) := by decide +kernel
theorem dL_law_443 : decode cL_law 443 = .ok (.aload_n 3, 1) := by decide +kernel
theorem dL_law_444 : decode cL_law 444 = .ok (.invokestatic 107, 3) := by decide +kernel
theorem dL_law_447 : decode cL_law 447 = .ok (.istore 5, 2) := by decide +kernel
theorem dL_law_449 : decode cL_law 449 = .ok (.aload_n 2, 1) := by decide +kernel
theorem dL_law_450 : decode cL_law 450 = .ok (.aload_n 0, 1) := by decide +kernel
theorem dL_law_451 : decode cL_law 451 = .ok (.iload 4, 2) := by decide +kernel
theorem dL_law_453 : decode cL_law 453 = .ok (.iconst 1, 1) := by decide +kernel
theorem dL_law_454 : decode cL_law 454 = .ok (.iadd, 1) := by decide +kernel
theorem dL_law_455 : decode cL_law 455 = .ok (.iaload, 1) := by decide +kernel
theorem dL_law_456 : decode cL_law 456 = .ok (.invokevirtual 109, 3) := by decide +kernel
theorem dL_law_459 : decode cL_law 459 = .ok (.istore 6, 2) := by decide +kernel
theorem dL_law_461 : decode cL_law 461 = .ok (.aload_n 2, 1) := by decide +kernel
theorem dL_law_462 : decode cL_law 462 = .ok (.invokevirtual 93, 3) := by decide +kernel
theorem dL_law_465 : decode cL_law 465 = .ok (.iload 5, 2) := by decide +kernel
theorem dL_law_467 : decode cL_law 467 = .ok (.if_icmp .eq 5, 3) := by decide +kernel
theorem dL_law_470 : decode cL_law 470 = .ok (.iconst 0, 1) := by decide +kernel
theorem dL_law_471 : decode cL_law 471 = .ok (.ireturn, 1) := by decide +kernel
theorem dL_law_472 : decode cL_law 472 = .ok (.iload 5, 2) := by decide +kernel
theorem dL_law_474 : decode cL_law 474 = .ok (.ifCond .ne 15, 3) := by decide +kernel
theorem dL_law_477 : decode cL_law 477 = .ok (.aload_n 3, 1) := by decide +kernel
theorem dL_law_478 : decode cL_law 478 = .ok (.iconst 0, 1) := by decide +kernel
theorem dL_law_479 : decode cL_law 479 = .ok (.laload, 1) := by decide +kernel
theorem dL_law_480 : decode cL_law 480 = .ok (.iload 6, 2) := by decide +kernel
theorem dL_law_482 : decode cL_law 482 = .ok (.i2l, 1) := by decide +kernel
theorem dL_law_483 : decode cL_law 483 = .ok (.lcmp, 1) := by decide +kernel
theorem dL_law_484 : decode cL_law 484 = .ok (.ifCond .eq 5, 3) := by decide +kernel
theorem dL_law_487 : decode cL_law 487 = .ok (.iconst 0, 1) := by decide +kernel
theorem dL_law_488 : decode cL_law 488 = .ok (.ireturn, 1) := by decide +kernel
theorem dL_law_489 : decode cL_law 489 = .ok (.goto 1087, 3) := by decide +kernel
theorem dL_law_492 : decode cL_law 492 = .ok (.aload_n 1, 1) := by decide +kernel
theorem dL_law_493 : decode cL_law 493 = .ok (.aload_n 0, 1) := by decide +kernel
theorem dL_law_494 : decode cL_law 494 = .ok (.iload 4, 2) := by decide +kernel
theorem dL_law_496 : decode cL_law 496 = .ok (.iconst 1, 1) := by decide +kernel
theorem dL_law_497 : decode cL_law 497 = .ok (.iadd, 1) := by decide +kernel
theorem dL_law_498 : decode cL_law 498 = .ok (.iaload, 1) := by decide +kernel
theorem dL_law_499 : decode cL_law 499 = .ok (.aload_n 0, 1) := by decide +kernel
theorem dL_law_500 : decode cL_law 500 = .ok (.iload 4, 2) := by decide +kernel
theorem dL_law_502 : decode cL_law 502 = .ok (.iconst 2, 1) := by decide +kernel
theorem dL_law_503 : decode cL_law 503 = .ok (.iadd, 1) := by decide +kernel
theorem dL_law_504 : decode cL_law 504 = .ok (.iaload, 1) := by decide +kernel
theorem dL_law_505 : decode cL_law 505 = .ok (.aload_n 3, 1) := by decide +kernel
theorem dL_law_506 : decode cL_law 506 = .ok (.invokestatic 110, 3) := by decide +kernel
theorem dL_law_509 : decode cL_law 509 = .ok (.istore 5, 2) := by decide +kernel
theorem dL_law_511 : decode cL_law 511 = .ok (.aload_n 2, 1) := by decide +kernel
theorem dL_law_512 : decode cL_law 512 = .ok (.aload_n 0, 1) := by decide +kernel
theorem dL_law_513 : decode cL_law 513 = .ok (.iload 4, 2) := by decide +kernel
theorem dL_law_515 : decode cL_law 515 = .ok (.iconst 1, 1) := by decide +kernel
theorem dL_law_516 : decode cL_law 516 = .ok (.iadd, 1) := by decide +kernel
theorem dL_law_517 : decode cL_law 517 = .ok (.iaload, 1) := by decide +kernel
theorem dL_law_518 : decode cL_law 518 = .ok (.aload_n 0, 1) := by decide +kernel
theorem dL_law_519 : decode cL_law 519 = .ok (.iload 4, 2) := by decide +kernel
theorem dL_law_521 : decode cL_law 521 = .ok (.iconst 2, 1) := by decide +kernel
theorem dL_law_522 : decode cL_law 522 = .ok (.iadd, 1) := by decide +kernel
theorem dL_law_523 : decode cL_law 523 = .ok (.iaload, 1) := by decide +kernel
theorem dL_law_524 : decode cL_law 524 = .ok (.invokevirtual 112, 3) := by decide +kernel
theorem dL_law_527 : decode cL_law 527 = .ok (.istore 6, 2) := by decide +kernel
theorem dL_law_529 : decode cL_law 529 = .ok (.aload_n 2, 1) := by decide +kernel
theorem dL_law_530 : decode cL_law 530 = .ok (.invokevirtual 93, 3) := by decide +kernel
theorem dL_law_533 : decode cL_law 533 = .ok (.iload 5, 2) := by decide +kernel
theorem dL_law_535 : decode cL_law 535 = .ok (.if_icmp .eq 5, 3) := by decide +kernel
theorem dL_law_538 : decode cL_law 538 = .ok (.iconst 0, 1) := by decide +kernel
theorem dL_law_539 : decode cL_law 539 = .ok (.ireturn, 1) := by decide +kernel
theorem dL_law_540 : decode cL_law 540 = .ok (.iload 5, 2) := by decide +kernel
theorem dL_law_542 : decode cL_law 542 = .ok (.ifCond .ne 15, 3) := by decide +kernel
theorem dL_law_545 : decode cL_law 545 = .ok (.aload_n 3, 1) := by decide +kernel
theorem dL_law_546 : decode cL_law 546 = .ok (.iconst 0, 1) := by decide +kernel
theorem dL_law_547 : decode cL_law 547 = .ok (.laload, 1) := by decide +kernel
theorem dL_law_548 : decode cL_law 548 = .ok (.iload 6, 2) := by decide +kernel
theorem dL_law_550 : decode cL_law 550 = .ok (.i2l, 1) := by decide +kernel
theorem dL_law_551 : decode cL_law 551 = .ok (.lcmp, 1) := by decide +kernel
theorem dL_law_552 : decode cL_law 552 = .ok (.ifCond .eq 5, 3) := by decide +kernel
theorem dL_law_555 : decode cL_law 555 = .ok (.iconst 0, 1) := by decide +kernel
theorem dL_law_556 : decode cL_law 556 = .ok (.ireturn, 1) := by decide +kernel
theorem dL_law_557 : decode cL_law 557 = .ok (.goto 1019, 3) := by decide +kernel
theorem dL_law_560 : decode cL_law 560 = .ok (.aload_n 1, 1) := by decide +kernel
theorem dL_law_561 : decode cL_law 561 = .ok (.aload_n 0, 1) := by decide +kernel
theorem dL_law_562 : decode cL_law 562 = .ok (.iload 4, 2) := by decide +kernel
theorem dL_law_564 : decode cL_law 564 = .ok (.iconst 1, 1) := by decide +kernel
theorem dL_law_565 : decode cL_law 565 = .ok (.iadd, 1) := by decide +kernel
theorem dL_law_566 : decode cL_law 566 = .ok (.iaload, 1) := by decide +kernel
theorem dL_law_567 : decode cL_law 567 = .ok (.aload_n 0, 1) := by decide +kernel
theorem dL_law_568 : decode cL_law 568 = .ok (.iload 4, 2) := by decide +kernel
theorem dL_law_570 : decode cL_law 570 = .ok (.iconst 2, 1) := by decide +kernel
theorem dL_law_571 : decode cL_law 571 = .ok (.iadd, 1) := by decide +kernel
theorem dL_law_572 : decode cL_law 572 = .ok (.iaload, 1) := by decide +kernel
theorem dL_law_573 : decode cL_law 573 = .ok (.aload_n 3, 1) := by decide +kernel
theorem dL_law_574 : decode cL_law 574 = .ok (.invokestatic 113, 3) := by decide +kernel
theorem dL_law_577 : decode cL_law 577 = .ok (.istore 5, 2) := by decide +kernel
theorem dL_law_579 : decode cL_law 579 = .ok (.aload_n 2, 1) := by decide +kernel
theorem dL_law_580 : decode cL_law 580 = .ok (.aload_n 0, 1) := by decide +kernel
theorem dL_law_581 : decode cL_law 581 = .ok (.iload 4, 2) := by decide +kernel
theorem dL_law_583 : decode cL_law 583 = .ok (.iconst 1, 1) := by decide +kernel
theorem dL_law_584 : decode cL_law 584 = .ok (.iadd, 1) := by decide +kernel
theorem dL_law_585 : decode cL_law 585 = .ok (.iaload, 1) := by decide +kernel
theorem dL_law_586 : decode cL_law 586 = .ok (.aload_n 0, 1) := by decide +kernel
theorem dL_law_587 : decode cL_law 587 = .ok (.iload 4, 2) := by decide +kernel
theorem dL_law_589 : decode cL_law 589 = .ok (.iconst 2, 1) := by decide +kernel
theorem dL_law_590 : decode cL_law 590 = .ok (.iadd, 1) := by decide +kernel
theorem dL_law_591 : decode cL_law 591 = .ok (.iaload, 1) := by decide +kernel
theorem dL_law_592 : decode cL_law 592 = .ok (.invokevirtual 115, 3) := by decide +kernel
theorem dL_law_595 : decode cL_law 595 = .ok (.istore 6, 2) := by decide +kernel
theorem dL_law_597 : decode cL_law 597 = .ok (.aload_n 2, 1) := by decide +kernel
theorem dL_law_598 : decode cL_law 598 = .ok (.invokevirtual 93, 3) := by decide +kernel
theorem dL_law_601 : decode cL_law 601 = .ok (.iload 5, 2) := by decide +kernel
theorem dL_law_603 : decode cL_law 603 = .ok (.if_icmp .eq 5, 3) := by decide +kernel
theorem dL_law_606 : decode cL_law 606 = .ok (.iconst 0, 1) := by decide +kernel
theorem dL_law_607 : decode cL_law 607 = .ok (.ireturn, 1) := by decide +kernel
theorem dL_law_608 : decode cL_law 608 = .ok (.iload 5, 2) := by decide +kernel
theorem dL_law_610 : decode cL_law 610 = .ok (.ifCond .ne 15, 3) := by decide +kernel
theorem dL_law_613 : decode cL_law 613 = .ok (.aload_n 3, 1) := by decide +kernel
theorem dL_law_614 : decode cL_law 614 = .ok (.iconst 0, 1) := by decide +kernel
theorem dL_law_615 : decode cL_law 615 = .ok (.laload, 1) := by decide +kernel
theorem dL_law_616 : decode cL_law 616 = .ok (.iload 6, 2) := by decide +kernel
theorem dL_law_618 : decode cL_law 618 = .ok (.i2l, 1) := by decide +kernel
theorem dL_law_619 : decode cL_law 619 = .ok (.lcmp, 1) := by decide +kernel
theorem dL_law_620 : decode cL_law 620 = .ok (.ifCond .eq 5, 3) := by decide +kernel
theorem dL_law_623 : decode cL_law 623 = .ok (.iconst 0, 1) := by decide +kernel
theorem dL_law_624 : decode cL_law 624 = .ok (.ireturn, 1) := by decide +kernel
theorem dL_law_625 : decode cL_law 625 = .ok (.goto 951, 3) := by decide +kernel
theorem dL_law_628 : decode cL_law 628 = .ok (.aload_n 1, 1) := by decide +kernel
theorem dL_law_629 : decode cL_law 629 = .ok (.aload_n 0, 1) := by decide +kernel
theorem dL_law_630 : decode cL_law 630 = .ok (.iload 4, 2) := by decide +kernel
theorem dL_law_632 : decode cL_law 632 = .ok (.iconst 1, 1) := by decide +kernel
theorem dL_law_633 : decode cL_law 633 = .ok (.iadd, 1) := by decide +kernel
theorem dL_law_634 : decode cL_law 634 = .ok (.iaload, 1) := by decide +kernel
theorem dL_law_635 : decode cL_law 635 = .ok (.aload_n 3, 1) := by decide +kernel
theorem dL_law_636 : decode cL_law 636 = .ok (.invokestatic 116, 3) := by decide +kernel
theorem dL_law_639 : decode cL_law 639 = .ok (.istore 5, 2) := by decide +kernel
theorem dL_law_641 : decode cL_law 641 = .ok (.aload_n 2, 1) := by decide +kernel
theorem dL_law_642 : decode cL_law 642 = .ok (.aload_n 0, 1) := by decide +kernel
theorem dL_law_643 : decode cL_law 643 = .ok (.iload 4, 2) := by decide +kernel
theorem dL_law_645 : decode cL_law 645 = .ok (.iconst 1, 1) := by decide +kernel
theorem dL_law_646 : decode cL_law 646 = .ok (.iadd, 1) := by decide +kernel
theorem dL_law_647 : decode cL_law 647 = .ok (.iaload, 1) := by decide +kernel
theorem dL_law_648 : decode cL_law 648 = .ok (.invokevirtual 118, 3) := by decide +kernel
theorem dL_law_651 : decode cL_law 651 = .ok (.istore 6, 2) := by decide +kernel
theorem dL_law_653 : decode cL_law 653 = .ok (.aload_n 2, 1) := by decide +kernel
theorem dL_law_654 : decode cL_law 654 = .ok (.invokevirtual 93, 3) := by decide +kernel
theorem dL_law_657 : decode cL_law 657 = .ok (.iload 5, 2) := by decide +kernel
theorem dL_law_659 : decode cL_law 659 = .ok (.if_icmp .eq 5, 3) := by decide +kernel
theorem dL_law_662 : decode cL_law 662 = .ok (.iconst 0, 1) := by decide +kernel
theorem dL_law_663 : decode cL_law 663 = .ok (.ireturn, 1) := by decide +kernel
theorem dL_law_664 : decode cL_law 664 = .ok (.iload 5, 2) := by decide +kernel
theorem dL_law_666 : decode cL_law 666 = .ok (.ifCond .ne 15, 3) := by decide +kernel
theorem dL_law_669 : decode cL_law 669 = .ok (.aload_n 3, 1) := by decide +kernel
theorem dL_law_670 : decode cL_law 670 = .ok (.iconst 0, 1) := by decide +kernel
theorem dL_law_671 : decode cL_law 671 = .ok (.laload, 1) := by decide +kernel
theorem dL_law_672 : decode cL_law 672 = .ok (.iload 6, 2) := by decide +kernel
theorem dL_law_674 : decode cL_law 674 = .ok (.i2l, 1) := by decide +kernel
theorem dL_law_675 : decode cL_law 675 = .ok (.lcmp, 1) := by decide +kernel
theorem dL_law_676 : decode cL_law 676 = .ok (.ifCond .eq 5, 3) := by decide +kernel
theorem dL_law_679 : decode cL_law 679 = .ok (.iconst 0, 1) := by decide +kernel
theorem dL_law_680 : decode cL_law 680 = .ok (.ireturn, 1) := by decide +kernel
theorem dL_law_681 : decode cL_law 681 = .ok (.goto 895, 3) := by decide +kernel
theorem dL_law_684 : decode cL_law 684 = .ok (.aload_n 1, 1) := by decide +kernel
theorem dL_law_685 : decode cL_law 685 = .ok (.invokevirtual 119, 3) := by decide +kernel
theorem dL_law_688 : decode cL_law 688 = .ok (.aload_n 2, 1) := by decide +kernel
theorem dL_law_689 : decode cL_law 689 = .ok (.invokevirtual 122, 3) := by decide +kernel
theorem dL_law_692 : decode cL_law 692 = .ok (.if_icmp .eq 884, 3) := by decide +kernel
theorem dL_law_695 : decode cL_law 695 = .ok (.iconst 0, 1) := by decide +kernel
theorem dL_law_696 : decode cL_law 696 = .ok (.ireturn, 1) := by decide +kernel
theorem dL_law_697 : decode cL_law 697 = .ok (.aload_n 1, 1) := by decide +kernel
theorem dL_law_698 : decode cL_law 698 = .ok (.invokevirtual 123, 3) := by decide +kernel
theorem dL_law_701 : decode cL_law 701 = .ok (.aload_n 2, 1) := by decide +kernel
theorem dL_law_702 : decode cL_law 702 = .ok (.invokevirtual 126, 3) := by decide +kernel
theorem dL_law_705 : decode cL_law 705 = .ok (.if_icmp .eq 871, 3) := by decide +kernel
theorem dL_law_708 : decode cL_law 708 = .ok (.iconst 0, 1) := by decide +kernel
theorem dL_law_709 : decode cL_law 709 = .ok (.ireturn, 1) := by decide +kernel
theorem dL_law_710 : decode cL_law 710 = .ok (.aload_n 1, 1) := by decide +kernel
theorem dL_law_711 : decode cL_law 711 = .ok (.aload_n 3, 1) := by decide +kernel
theorem dL_law_712 : decode cL_law 712 = .ok (.invokestatic 127, 3) := by decide +kernel
theorem dL_law_715 : decode cL_law 715 = .ok (.istore 5, 2) := by decide +kernel
theorem dL_law_717 : decode cL_law 717 = .ok (.aload_n 2, 1) := by decide +kernel
theorem dL_law_718 : decode cL_law 718 = .ok (.invokevirtual 130, 3) := by decide +kernel
theorem dL_law_721 : decode cL_law 721 = .ok (.istore 6, 2) := by decide +kernel
theorem dL_law_723 : decode cL_law 723 = .ok (.aload_n 2, 1) := by decide +kernel
theorem dL_law_724 : decode cL_law 724 = .ok (.invokevirtual 93, 3) := by decide +kernel
theorem dL_law_727 : decode cL_law 727 = .ok (.iload 5, 2) := by decide +kernel
theorem dL_law_729 : decode cL_law 729 = .ok (.if_icmp .eq 5, 3) := by decide +kernel
theorem dL_law_732 : decode cL_law 732 = .ok (.iconst 0, 1) := by decide +kernel
theorem dL_law_733 : decode cL_law 733 = .ok (.ireturn, 1) := by decide +kernel
theorem dL_law_734 : decode cL_law 734 = .ok (.iload 5, 2) := by decide +kernel
theorem dL_law_736 : decode cL_law 736 = .ok (.ifCond .ne 15, 3) := by decide +kernel
theorem dL_law_739 : decode cL_law 739 = .ok (.aload_n 3, 1) := by decide +kernel
theorem dL_law_740 : decode cL_law 740 = .ok (.iconst 0, 1) := by decide +kernel
theorem dL_law_741 : decode cL_law 741 = .ok (.laload, 1) := by decide +kernel
theorem dL_law_742 : decode cL_law 742 = .ok (.iload 6, 2) := by decide +kernel
theorem dL_law_744 : decode cL_law 744 = .ok (.i2l, 1) := by decide +kernel
theorem dL_law_745 : decode cL_law 745 = .ok (.lcmp, 1) := by decide +kernel
theorem dL_law_746 : decode cL_law 746 = .ok (.ifCond .eq 5, 3) := by decide +kernel
theorem dL_law_749 : decode cL_law 749 = .ok (.iconst 0, 1) := by decide +kernel
theorem dL_law_750 : decode cL_law 750 = .ok (.ireturn, 1) := by decide +kernel
theorem dL_law_751 : decode cL_law 751 = .ok (.goto 825, 3) := by decide +kernel
theorem dL_law_754 : decode cL_law 754 = .ok (.aload_n 1, 1) := by decide +kernel
theorem dL_law_755 : decode cL_law 755 = .ok (.aload_n 3, 1) := by decide +kernel
theorem dL_law_756 : decode cL_law 756 = .ok (.invokestatic 131, 3) := by decide +kernel
theorem dL_law_759 : decode cL_law 759 = .ok (.istore 5, 2) := by decide +kernel
theorem dL_law_761 : decode cL_law 761 = .ok (.aload_n 2, 1) := by decide +kernel
theorem dL_law_762 : decode cL_law 762 = .ok (.invokevirtual 133, 3) := by decide +kernel
theorem dL_law_765 : decode cL_law 765 = .ok (.istore 6, 2) := by decide +kernel
theorem dL_law_767 : decode cL_law 767 = .ok (.aload_n 2, 1) := by decide +kernel
theorem dL_law_768 : decode cL_law 768 = .ok (.invokevirtual 93, 3) := by decide +kernel
theorem dL_law_771 : decode cL_law 771 = .ok (.iload 5, 2) := by decide +kernel
theorem dL_law_773 : decode cL_law 773 = .ok (.if_icmp .eq 5, 3) := by decide +kernel
theorem dL_law_776 : decode cL_law 776 = .ok (.iconst 0, 1) := by decide +kernel
theorem dL_law_777 : decode cL_law 777 = .ok (.ireturn, 1) := by decide +kernel
theorem dL_law_778 : decode cL_law 778 = .ok (.iload 5, 2) := by decide +kernel
theorem dL_law_780 : decode cL_law 780 = .ok (.ifCond .ne 15, 3) := by decide +kernel
theorem dL_law_783 : decode cL_law 783 = .ok (.aload_n 3, 1) := by decide +kernel
theorem dL_law_784 : decode cL_law 784 = .ok (.iconst 0, 1) := by decide +kernel
theorem dL_law_785 : decode cL_law 785 = .ok (.laload, 1) := by decide +kernel
theorem dL_law_786 : decode cL_law 786 = .ok (.iload 6, 2) := by decide +kernel
theorem dL_law_788 : decode cL_law 788 = .ok (.i2l, 1) := by decide +kernel
theorem dL_law_789 : decode cL_law 789 = .ok (.lcmp, 1) := by decide +kernel
theorem dL_law_790 : decode cL_law 790 = .ok (.ifCond .eq 5, 3) := by decide +kernel
theorem dL_law_793 : decode cL_law 793 = .ok (.iconst 0, 1) := by decide +kernel
theorem dL_law_794 : decode cL_law 794 = .ok (.ireturn, 1) := by decide +kernel
theorem dL_law_795 : decode cL_law 795 = .ok (.goto 781, 3) := by decide +kernel
theorem dL_law_798 : decode cL_law 798 = .ok (.aload_n 1, 1) := by decide +kernel
theorem dL_law_799 : decode cL_law 799 = .ok (.aload_n 0, 1) := by decide +kernel
theorem dL_law_800 : decode cL_law 800 = .ok (.iload 4, 2) := by decide +kernel
theorem dL_law_802 : decode cL_law 802 = .ok (.iconst 1, 1) := by decide +kernel
theorem dL_law_803 : decode cL_law 803 = .ok (.iadd, 1) := by decide +kernel
theorem dL_law_804 : decode cL_law 804 = .ok (.iaload, 1) := by decide +kernel
theorem dL_law_805 : decode cL_law 805 = .ok (.aload_n 3, 1) := by decide +kernel
theorem dL_law_806 : decode cL_law 806 = .ok (.invokestatic 134, 3) := by decide +kernel
theorem dL_law_809 : decode cL_law 809 = .ok (.istore 5, 2) := by decide +kernel
theorem dL_law_811 : decode cL_law 811 = .ok (.aload_n 2, 1) := by decide +kernel
theorem dL_law_812 : decode cL_law 812 = .ok (.aload_n 0, 1) := by decide +kernel
theorem dL_law_813 : decode cL_law 813 = .ok (.iload 4, 2) := by decide +kernel
theorem dL_law_815 : decode cL_law 815 = .ok (.iconst 1, 1) := by decide +kernel
theorem dL_law_816 : decode cL_law 816 = .ok (.iadd, 1) := by decide +kernel
theorem dL_law_817 : decode cL_law 817 = .ok (.iaload, 1) := by decide +kernel
theorem dL_law_818 : decode cL_law 818 = .ok (.invokevirtual 136, 3) := by decide +kernel
theorem dL_law_821 : decode cL_law 821 = .ok (.istore 6, 2) := by decide +kernel
theorem dL_law_823 : decode cL_law 823 = .ok (.aload_n 2, 1) := by decide +kernel
theorem dL_law_824 : decode cL_law 824 = .ok (.invokevirtual 93, 3) := by decide +kernel
theorem dL_law_827 : decode cL_law 827 = .ok (.iload 5, 2) := by decide +kernel
theorem dL_law_829 : decode cL_law 829 = .ok (.if_icmp .eq 5, 3) := by decide +kernel
theorem dL_law_832 : decode cL_law 832 = .ok (.iconst 0, 1) := by decide +kernel
theorem dL_law_833 : decode cL_law 833 = .ok (.ireturn, 1) := by decide +kernel
theorem dL_law_834 : decode cL_law 834 = .ok (.iload 5, 2) := by decide +kernel
theorem dL_law_836 : decode cL_law 836 = .ok (.ifCond .ne 15, 3) := by decide +kernel
theorem dL_law_839 : decode cL_law 839 = .ok (.aload_n 3, 1) := by decide +kernel
theorem dL_law_840 : decode cL_law 840 = .ok (.iconst 0, 1) := by decide +kernel
theorem dL_law_841 : decode cL_law 841 = .ok (.laload, 1) := by decide +kernel
theorem dL_law_842 : decode cL_law 842 = .ok (.iload 6, 2) := by decide +kernel
theorem dL_law_844 : decode cL_law 844 = .ok (.i2l, 1) := by decide +kernel
theorem dL_law_845 : decode cL_law 845 = .ok (.lcmp, 1) := by decide +kernel
theorem dL_law_846 : decode cL_law 846 = .ok (.ifCond .eq 5, 3) := by decide +kernel
theorem dL_law_849 : decode cL_law 849 = .ok (.iconst 0, 1) := by decide +kernel
theorem dL_law_850 : decode cL_law 850 = .ok (.ireturn, 1) := by decide +kernel
theorem dL_law_851 : decode cL_law 851 = .ok (.goto 725, 3) := by decide +kernel
theorem dL_law_854 : decode cL_law 854 = .ok (.aload_n 1, 1) := by decide +kernel
theorem dL_law_855 : decode cL_law 855 = .ok (.aload_n 0, 1) := by decide +kernel
theorem dL_law_856 : decode cL_law 856 = .ok (.iload 4, 2) := by decide +kernel
theorem dL_law_858 : decode cL_law 858 = .ok (.iconst 1, 1) := by decide +kernel
theorem dL_law_859 : decode cL_law 859 = .ok (.iadd, 1) := by decide +kernel
theorem dL_law_860 : decode cL_law 860 = .ok (.iaload, 1) := by decide +kernel
theorem dL_law_861 : decode cL_law 861 = .ok (.aload_n 3, 1) := by decide +kernel
theorem dL_law_862 : decode cL_law 862 = .ok (.invokestatic 137, 3) := by decide +kernel
theorem dL_law_865 : decode cL_law 865 = .ok (.istore 5, 2) := by decide +kernel
theorem dL_law_867 : decode cL_law 867 = .ok (.aload_n 2, 1) := by decide +kernel
theorem dL_law_868 : decode cL_law 868 = .ok (.aload_n 0, 1) := by decide +kernel
theorem dL_law_869 : decode cL_law 869 = .ok (.iload 4, 2) := by decide +kernel
theorem dL_law_871 : decode cL_law 871 = .ok (.iconst 1, 1) := by decide +kernel
theorem dL_law_872 : decode cL_law 872 = .ok (.iadd, 1) := by decide +kernel
theorem dL_law_873 : decode cL_law 873 = .ok (.iaload, 1) := by decide +kernel
theorem dL_law_874 : decode cL_law 874 = .ok (.invokevirtual 139, 3) := by decide +kernel
theorem dL_law_877 : decode cL_law 877 = .ok (.istore 6, 2) := by decide +kernel
theorem dL_law_879 : decode cL_law 879 = .ok (.aload_n 2, 1) := by decide +kernel
theorem dL_law_880 : decode cL_law 880 = .ok (.invokevirtual 93, 3) := by decide +kernel
theorem dL_law_883 : decode cL_law 883 = .ok (.iload 5, 2) := by decide +kernel
theorem dL_law_885 : decode cL_law 885 = .ok (.if_icmp .eq 5, 3) := by decide +kernel
theorem dL_law_888 : decode cL_law 888 = .ok (.iconst 0, 1) := by decide +kernel
theorem dL_law_889 : decode cL_law 889 = .ok (.ireturn, 1) := by decide +kernel
theorem dL_law_890 : decode cL_law 890 = .ok (.iload 5, 2) := by decide +kernel
theorem dL_law_892 : decode cL_law 892 = .ok (.ifCond .ne 15, 3) := by decide +kernel
theorem dL_law_895 : decode cL_law 895 = .ok (.aload_n 3, 1) := by decide +kernel
theorem dL_law_896 : decode cL_law 896 = .ok (.iconst 0, 1) := by decide +kernel
theorem dL_law_897 : decode cL_law 897 = .ok (.laload, 1) := by decide +kernel
theorem dL_law_898 : decode cL_law 898 = .ok (.iload 6, 2) := by decide +kernel
theorem dL_law_900 : decode cL_law 900 = .ok (.i2l, 1) := by decide +kernel
theorem dL_law_901 : decode cL_law 901 = .ok (.lcmp, 1) := by decide +kernel
theorem dL_law_902 : decode cL_law 902 = .ok (.ifCond .eq 5, 3) := by decide +kernel
theorem dL_law_905 : decode cL_law 905 = .ok (.iconst 0, 1) := by decide +kernel
theorem dL_law_906 : decode cL_law 906 = .ok (.ireturn, 1) := by decide +kernel
theorem dL_law_907 : decode cL_law 907 = .ok (.goto 669, 3) := by decide +kernel
theorem dL_law_910 : decode cL_law 910 = .ok (.aload_n 1, 1) := by decide +kernel
theorem dL_law_911 : decode cL_law 911 = .ok (.aload_n 0, 1) := by decide +kernel
theorem dL_law_912 : decode cL_law 912 = .ok (.iload 4, 2) := by decide +kernel
theorem dL_law_914 : decode cL_law 914 = .ok (.iconst 1, 1) := by decide +kernel
theorem dL_law_915 : decode cL_law 915 = .ok (.iadd, 1) := by decide +kernel
theorem dL_law_916 : decode cL_law 916 = .ok (.iaload, 1) := by decide +kernel
theorem dL_law_917 : decode cL_law 917 = .ok (.aload_n 0, 1) := by decide +kernel
theorem dL_law_918 : decode cL_law 918 = .ok (.iload 4, 2) := by decide +kernel
theorem dL_law_920 : decode cL_law 920 = .ok (.iconst 2, 1) := by decide +kernel
theorem dL_law_921 : decode cL_law 921 = .ok (.iadd, 1) := by decide +kernel
theorem dL_law_922 : decode cL_law 922 = .ok (.iaload, 1) := by decide +kernel
theorem dL_law_923 : decode cL_law 923 = .ok (.aload_n 3, 1) := by decide +kernel
theorem dL_law_924 : decode cL_law 924 = .ok (.invokestatic 140, 3) := by decide +kernel
theorem dL_law_927 : decode cL_law 927 = .ok (.istore 5, 2) := by decide +kernel
theorem dL_law_929 : decode cL_law 929 = .ok (.aload_n 2, 1) := by decide +kernel
theorem dL_law_930 : decode cL_law 930 = .ok (.aload_n 0, 1) := by decide +kernel
theorem dL_law_931 : decode cL_law 931 = .ok (.iload 4, 2) := by decide +kernel
theorem dL_law_933 : decode cL_law 933 = .ok (.iconst 1, 1) := by decide +kernel
theorem dL_law_934 : decode cL_law 934 = .ok (.iadd, 1) := by decide +kernel
theorem dL_law_935 : decode cL_law 935 = .ok (.iaload, 1) := by decide +kernel
theorem dL_law_936 : decode cL_law 936 = .ok (.aload_n 0, 1) := by decide +kernel
theorem dL_law_937 : decode cL_law 937 = .ok (.iload 4, 2) := by decide +kernel
theorem dL_law_939 : decode cL_law 939 = .ok (.iconst 2, 1) := by decide +kernel
theorem dL_law_940 : decode cL_law 940 = .ok (.iadd, 1) := by decide +kernel
theorem dL_law_941 : decode cL_law 941 = .ok (.iaload, 1) := by decide +kernel
theorem dL_law_942 : decode cL_law 942 = .ok (.invokevirtual 142, 3) := by decide +kernel
theorem dL_law_945 : decode cL_law 945 = .ok (.istore 6, 2) := by decide +kernel
theorem dL_law_947 : decode cL_law 947 = .ok (.aload_n 2, 1) := by decide +kernel
theorem dL_law_948 : decode cL_law 948 = .ok (.invokevirtual 93, 3) := by decide +kernel
theorem dL_law_951 : decode cL_law 951 = .ok (.iload 5, 2) := by decide +kernel
theorem dL_law_953 : decode cL_law 953 = .ok (.if_icmp .eq 5, 3) := by decide +kernel
theorem dL_law_956 : decode cL_law 956 = .ok (.iconst 0, 1) := by decide +kernel
theorem dL_law_957 : decode cL_law 957 = .ok (.ireturn, 1) := by decide +kernel
theorem dL_law_958 : decode cL_law 958 = .ok (.iload 5, 2) := by decide +kernel
theorem dL_law_960 : decode cL_law 960 = .ok (.ifCond .ne 15, 3) := by decide +kernel
theorem dL_law_963 : decode cL_law 963 = .ok (.aload_n 3, 1) := by decide +kernel
theorem dL_law_964 : decode cL_law 964 = .ok (.iconst 0, 1) := by decide +kernel
theorem dL_law_965 : decode cL_law 965 = .ok (.laload, 1) := by decide +kernel
theorem dL_law_966 : decode cL_law 966 = .ok (.iload 6, 2) := by decide +kernel
theorem dL_law_968 : decode cL_law 968 = .ok (.i2l, 1) := by decide +kernel
theorem dL_law_969 : decode cL_law 969 = .ok (.lcmp, 1) := by decide +kernel
theorem dL_law_970 : decode cL_law 970 = .ok (.ifCond .eq 5, 3) := by decide +kernel
theorem dL_law_973 : decode cL_law 973 = .ok (.iconst 0, 1) := by decide +kernel
theorem dL_law_974 : decode cL_law 974 = .ok (.ireturn, 1) := by decide +kernel
theorem dL_law_975 : decode cL_law 975 = .ok (.goto 601, 3) := by decide +kernel
theorem dL_law_978 : decode cL_law 978 = .ok (.aload_n 1, 1) := by decide +kernel
theorem dL_law_979 : decode cL_law 979 = .ok (.aload_n 0, 1) := by decide +kernel
theorem dL_law_980 : decode cL_law 980 = .ok (.iload 4, 2) := by decide +kernel
theorem dL_law_982 : decode cL_law 982 = .ok (.iconst 1, 1) := by decide +kernel
theorem dL_law_983 : decode cL_law 983 = .ok (.iadd, 1) := by decide +kernel
theorem dL_law_984 : decode cL_law 984 = .ok (.iaload, 1) := by decide +kernel
theorem dL_law_985 : decode cL_law 985 = .ok (.aload_n 0, 1) := by decide +kernel
theorem dL_law_986 : decode cL_law 986 = .ok (.iload 4, 2) := by decide +kernel
theorem dL_law_988 : decode cL_law 988 = .ok (.iconst 2, 1) := by decide +kernel
theorem dL_law_989 : decode cL_law 989 = .ok (.iadd, 1) := by decide +kernel
theorem dL_law_990 : decode cL_law 990 = .ok (.iaload, 1) := by decide +kernel
theorem dL_law_991 : decode cL_law 991 = .ok (.aload_n 0, 1) := by decide +kernel
theorem dL_law_992 : decode cL_law 992 = .ok (.iload 4, 2) := by decide +kernel
theorem dL_law_994 : decode cL_law 994 = .ok (.iconst 3, 1) := by decide +kernel
theorem dL_law_995 : decode cL_law 995 = .ok (.iadd, 1) := by decide +kernel
theorem dL_law_996 : decode cL_law 996 = .ok (.iaload, 1) := by decide +kernel
theorem dL_law_997 : decode cL_law 997 = .ok (.aload_n 3, 1) := by decide +kernel
theorem dL_law_998 : decode cL_law 998 = .ok (.invokestatic 143, 3) := by decide +kernel
theorem dL_law_1001 : decode cL_law 1001 = .ok (.istore 5, 2) := by decide +kernel
theorem dL_law_1003 : decode cL_law 1003 = .ok (.aload_n 2, 1) := by decide +kernel
theorem dL_law_1004 : decode cL_law 1004 = .ok (.aload_n 0, 1) := by decide +kernel
theorem dL_law_1005 : decode cL_law 1005 = .ok (.iload 4, 2) := by decide +kernel
theorem dL_law_1007 : decode cL_law 1007 = .ok (.iconst 1, 1) := by decide +kernel
theorem dL_law_1008 : decode cL_law 1008 = .ok (.iadd, 1) := by decide +kernel
theorem dL_law_1009 : decode cL_law 1009 = .ok (.iaload, 1) := by decide +kernel
theorem dL_law_1010 : decode cL_law 1010 = .ok (.aload_n 0, 1) := by decide +kernel
theorem dL_law_1011 : decode cL_law 1011 = .ok (.iload 4, 2) := by decide +kernel
theorem dL_law_1013 : decode cL_law 1013 = .ok (.iconst 2, 1) := by decide +kernel
theorem dL_law_1014 : decode cL_law 1014 = .ok (.iadd, 1) := by decide +kernel
theorem dL_law_1015 : decode cL_law 1015 = .ok (.iaload, 1) := by decide +kernel
theorem dL_law_1016 : decode cL_law 1016 = .ok (.aload_n 0, 1) := by decide +kernel
theorem dL_law_1017 : decode cL_law 1017 = .ok (.iload 4, 2) := by decide +kernel
theorem dL_law_1019 : decode cL_law 1019 = .ok (.iconst 3, 1) := by decide +kernel
theorem dL_law_1020 : decode cL_law 1020 = .ok (.iadd, 1) := by decide +kernel
theorem dL_law_1021 : decode cL_law 1021 = .ok (.iaload, 1) := by decide +kernel
theorem dL_law_1022 : decode cL_law 1022 = .ok (.invokevirtual 146, 3) := by decide +kernel
theorem dL_law_1025 : decode cL_law 1025 = .ok (.istore 6, 2) := by decide +kernel
theorem dL_law_1027 : decode cL_law 1027 = .ok (.aload_n 2, 1) := by decide +kernel
theorem dL_law_1028 : decode cL_law 1028 = .ok (.invokevirtual 93, 3) := by decide +kernel
theorem dL_law_1031 : decode cL_law 1031 = .ok (.iload 5, 2) := by decide +kernel
theorem dL_law_1033 : decode cL_law 1033 = .ok (.if_icmp .eq 5, 3) := by decide +kernel
theorem dL_law_1036 : decode cL_law 1036 = .ok (.iconst 0, 1) := by decide +kernel
theorem dL_law_1037 : decode cL_law 1037 = .ok (.ireturn, 1) := by decide +kernel
theorem dL_law_1038 : decode cL_law 1038 = .ok (.iload 5, 2) := by decide +kernel
theorem dL_law_1040 : decode cL_law 1040 = .ok (.ifCond .ne 15, 3) := by decide +kernel
theorem dL_law_1043 : decode cL_law 1043 = .ok (.aload_n 3, 1) := by decide +kernel
theorem dL_law_1044 : decode cL_law 1044 = .ok (.iconst 0, 1) := by decide +kernel
theorem dL_law_1045 : decode cL_law 1045 = .ok (.laload, 1) := by decide +kernel
theorem dL_law_1046 : decode cL_law 1046 = .ok (.iload 6, 2) := by decide +kernel
theorem dL_law_1048 : decode cL_law 1048 = .ok (.i2l, 1) := by decide +kernel
theorem dL_law_1049 : decode cL_law 1049 = .ok (.lcmp, 1) := by decide +kernel
theorem dL_law_1050 : decode cL_law 1050 = .ok (.ifCond .eq 5, 3) := by decide +kernel
theorem dL_law_1053 : decode cL_law 1053 = .ok (.iconst 0, 1) := by decide +kernel
theorem dL_law_1054 : decode cL_law 1054 = .ok (.ireturn, 1) := by decide +kernel
theorem dL_law_1055 : decode cL_law 1055 = .ok (.goto 521, 3) := by decide +kernel
theorem dL_law_1058 : decode cL_law 1058 = .ok (.aload_n 1, 1) := by decide +kernel
theorem dL_law_1059 : decode cL_law 1059 = .ok (.aload_n 0, 1) := by decide +kernel
theorem dL_law_1060 : decode cL_law 1060 = .ok (.iload 4, 2) := by decide +kernel
theorem dL_law_1062 : decode cL_law 1062 = .ok (.iconst 1, 1) := by decide +kernel
theorem dL_law_1063 : decode cL_law 1063 = .ok (.iadd, 1) := by decide +kernel
theorem dL_law_1064 : decode cL_law 1064 = .ok (.iaload, 1) := by decide +kernel
theorem dL_law_1065 : decode cL_law 1065 = .ok (.aload_n 0, 1) := by decide +kernel
theorem dL_law_1066 : decode cL_law 1066 = .ok (.iload 4, 2) := by decide +kernel
theorem dL_law_1068 : decode cL_law 1068 = .ok (.iconst 2, 1) := by decide +kernel
theorem dL_law_1069 : decode cL_law 1069 = .ok (.iadd, 1) := by decide +kernel
theorem dL_law_1070 : decode cL_law 1070 = .ok (.iaload, 1) := by decide +kernel
theorem dL_law_1071 : decode cL_law 1071 = .ok (.aload_n 3, 1) := by decide +kernel
theorem dL_law_1072 : decode cL_law 1072 = .ok (.invokestatic 147, 3) := by decide +kernel
theorem dL_law_1075 : decode cL_law 1075 = .ok (.istore 5, 2) := by decide +kernel
theorem dL_law_1077 : decode cL_law 1077 = .ok (.aload_n 2, 1) := by decide +kernel
theorem dL_law_1078 : decode cL_law 1078 = .ok (.aload_n 0, 1) := by decide +kernel
theorem dL_law_1079 : decode cL_law 1079 = .ok (.iload 4, 2) := by decide +kernel
theorem dL_law_1081 : decode cL_law 1081 = .ok (.iconst 1, 1) := by decide +kernel
theorem dL_law_1082 : decode cL_law 1082 = .ok (.iadd, 1) := by decide +kernel
theorem dL_law_1083 : decode cL_law 1083 = .ok (.iaload, 1) := by decide +kernel
theorem dL_law_1084 : decode cL_law 1084 = .ok (.aload_n 0, 1) := by decide +kernel
theorem dL_law_1085 : decode cL_law 1085 = .ok (.iload 4, 2) := by decide +kernel
theorem dL_law_1087 : decode cL_law 1087 = .ok (.iconst 2, 1) := by decide +kernel
theorem dL_law_1088 : decode cL_law 1088 = .ok (.iadd, 1) := by decide +kernel
theorem dL_law_1089 : decode cL_law 1089 = .ok (.iaload, 1) := by decide +kernel
theorem dL_law_1090 : decode cL_law 1090 = .ok (.invokevirtual 149, 3) := by decide +kernel
theorem dL_law_1093 : decode cL_law 1093 = .ok (.istore 6, 2) := by decide +kernel
theorem dL_law_1095 : decode cL_law 1095 = .ok (.aload_n 2, 1) := by decide +kernel
theorem dL_law_1096 : decode cL_law 1096 = .ok (.invokevirtual 93, 3) := by decide +kernel
theorem dL_law_1099 : decode cL_law 1099 = .ok (.iload 5, 2) := by decide +kernel
theorem dL_law_1101 : decode cL_law 1101 = .ok (.if_icmp .eq 5, 3) := by decide +kernel
theorem dL_law_1104 : decode cL_law 1104 = .ok (.iconst 0, 1) := by decide +kernel
theorem dL_law_1105 : decode cL_law 1105 = .ok (.ireturn, 1) := by decide +kernel
theorem dL_law_1106 : decode cL_law 1106 = .ok (.iload 5, 2) := by decide +kernel
theorem dL_law_1108 : decode cL_law 1108 = .ok (.ifCond .ne 15, 3) := by decide +kernel
theorem dL_law_1111 : decode cL_law 1111 = .ok (.aload_n 3, 1) := by decide +kernel
theorem dL_law_1112 : decode cL_law 1112 = .ok (.iconst 0, 1) := by decide +kernel
theorem dL_law_1113 : decode cL_law 1113 = .ok (.laload, 1) := by decide +kernel
theorem dL_law_1114 : decode cL_law 1114 = .ok (.iload 6, 2) := by decide +kernel
theorem dL_law_1116 : decode cL_law 1116 = .ok (.i2l, 1) := by decide +kernel
theorem dL_law_1117 : decode cL_law 1117 = .ok (.lcmp, 1) := by decide +kernel
theorem dL_law_1118 : decode cL_law 1118 = .ok (.ifCond .eq 5, 3) := by decide +kernel
theorem dL_law_1121 : decode cL_law 1121 = .ok (.iconst 0, 1) := by decide +kernel
theorem dL_law_1122 : decode cL_law 1122 = .ok (.ireturn, 1) := by decide +kernel
theorem dL_law_1123 : decode cL_law 1123 = .ok (.goto 453, 3) := by decide +kernel
theorem dL_law_1126 : decode cL_law 1126 = .ok (.aload_n 1, 1) := by decide +kernel
theorem dL_law_1127 : decode cL_law 1127 = .ok (.aload_n 0, 1) := by decide +kernel
theorem dL_law_1128 : decode cL_law 1128 = .ok (.iload 4, 2) := by decide +kernel
theorem dL_law_1130 : decode cL_law 1130 = .ok (.iconst 1, 1) := by decide +kernel
theorem dL_law_1131 : decode cL_law 1131 = .ok (.iadd, 1) := by decide +kernel
theorem dL_law_1132 : decode cL_law 1132 = .ok (.iaload, 1) := by decide +kernel
theorem dL_law_1133 : decode cL_law 1133 = .ok (.aload_n 3, 1) := by decide +kernel
theorem dL_law_1134 : decode cL_law 1134 = .ok (.invokestatic 150, 3) := by decide +kernel
theorem dL_law_1137 : decode cL_law 1137 = .ok (.istore 5, 2) := by decide +kernel
theorem dL_law_1139 : decode cL_law 1139 = .ok (.aload_n 2, 1) := by decide +kernel
theorem dL_law_1140 : decode cL_law 1140 = .ok (.aload_n 0, 1) := by decide +kernel
theorem dL_law_1141 : decode cL_law 1141 = .ok (.iload 4, 2) := by decide +kernel
theorem dL_law_1143 : decode cL_law 1143 = .ok (.iconst 1, 1) := by decide +kernel
theorem dL_law_1144 : decode cL_law 1144 = .ok (.iadd, 1) := by decide +kernel
theorem dL_law_1145 : decode cL_law 1145 = .ok (.iaload, 1) := by decide +kernel
theorem dL_law_1146 : decode cL_law 1146 = .ok (.invokevirtual 152, 3) := by decide +kernel
theorem dL_law_1149 : decode cL_law 1149 = .ok (.istore 6, 2) := by decide +kernel
theorem dL_law_1151 : decode cL_law 1151 = .ok (.aload_n 2, 1) := by decide +kernel
theorem dL_law_1152 : decode cL_law 1152 = .ok (.invokevirtual 93, 3) := by decide +kernel
theorem dL_law_1155 : decode cL_law 1155 = .ok (.iload 5, 2) := by decide +kernel
theorem dL_law_1157 : decode cL_law 1157 = .ok (.if_icmp .eq 5, 3) := by decide +kernel
theorem dL_law_1160 : decode cL_law 1160 = .ok (.iconst 0, 1) := by decide +kernel
theorem dL_law_1161 : decode cL_law 1161 = .ok (.ireturn, 1) := by decide +kernel
theorem dL_law_1162 : decode cL_law 1162 = .ok (.iload 5, 2) := by decide +kernel
theorem dL_law_1164 : decode cL_law 1164 = .ok (.ifCond .ne 15, 3) := by decide +kernel
theorem dL_law_1167 : decode cL_law 1167 = .ok (.aload_n 3, 1) := by decide +kernel
theorem dL_law_1168 : decode cL_law 1168 = .ok (.iconst 0, 1) := by decide +kernel
theorem dL_law_1169 : decode cL_law 1169 = .ok (.laload, 1) := by decide +kernel
theorem dL_law_1170 : decode cL_law 1170 = .ok (.iload 6, 2) := by decide +kernel
theorem dL_law_1172 : decode cL_law 1172 = .ok (.i2l, 1) := by decide +kernel
theorem dL_law_1173 : decode cL_law 1173 = .ok (.lcmp, 1) := by decide +kernel
theorem dL_law_1174 : decode cL_law 1174 = .ok (.ifCond .eq 5, 3) := by decide +kernel
theorem dL_law_1177 : decode cL_law 1177 = .ok (.iconst 0, 1) := by decide +kernel
theorem dL_law_1178 : decode cL_law 1178 = .ok (.ireturn, 1) := by decide +kernel
theorem dL_law_1179 : decode cL_law 1179 = .ok (.goto 397, 3) := by decide +kernel
theorem dL_law_1182 : decode cL_law 1182 = .ok (.aload_n 1, 1) := by decide +kernel
theorem dL_law_1183 : decode cL_law 1183 = .ok (.aload_n 0, 1) := by decide +kernel
theorem dL_law_1184 : decode cL_law 1184 = .ok (.iload 4, 2) := by decide +kernel
theorem dL_law_1186 : decode cL_law 1186 = .ok (.iconst 1, 1) := by decide +kernel
theorem dL_law_1187 : decode cL_law 1187 = .ok (.iadd, 1) := by decide +kernel
theorem dL_law_1188 : decode cL_law 1188 = .ok (.iaload, 1) := by decide +kernel
theorem dL_law_1189 : decode cL_law 1189 = .ok (.aload_n 0, 1) := by decide +kernel
theorem dL_law_1190 : decode cL_law 1190 = .ok (.iload 4, 2) := by decide +kernel
theorem dL_law_1192 : decode cL_law 1192 = .ok (.iconst 2, 1) := by decide +kernel
theorem dL_law_1193 : decode cL_law 1193 = .ok (.iadd, 1) := by decide +kernel
theorem dL_law_1194 : decode cL_law 1194 = .ok (.iaload, 1) := by decide +kernel
theorem dL_law_1195 : decode cL_law 1195 = .ok (.aload_n 3, 1) := by decide +kernel
theorem dL_law_1196 : decode cL_law 1196 = .ok (.invokestatic 153, 3) := by decide +kernel
theorem dL_law_1199 : decode cL_law 1199 = .ok (.istore 5, 2) := by decide +kernel
theorem dL_law_1201 : decode cL_law 1201 = .ok (.aload_n 2, 1) := by decide +kernel
theorem dL_law_1202 : decode cL_law 1202 = .ok (.aload_n 0, 1) := by decide +kernel
theorem dL_law_1203 : decode cL_law 1203 = .ok (.iload 4, 2) := by decide +kernel
theorem dL_law_1205 : decode cL_law 1205 = .ok (.iconst 1, 1) := by decide +kernel
theorem dL_law_1206 : decode cL_law 1206 = .ok (.iadd, 1) := by decide +kernel
theorem dL_law_1207 : decode cL_law 1207 = .ok (.iaload, 1) := by decide +kernel
theorem dL_law_1208 : decode cL_law 1208 = .ok (.aload_n 0, 1) := by decide +kernel
theorem dL_law_1209 : decode cL_law 1209 = .ok (.iload 4, 2) := by decide +kernel
theorem dL_law_1211 : decode cL_law 1211 = .ok (.iconst 2, 1) := by decide +kernel
theorem dL_law_1212 : decode cL_law 1212 = .ok (.iadd, 1) := by decide +kernel
theorem dL_law_1213 : decode cL_law 1213 = .ok (.iaload, 1) := by decide +kernel
theorem dL_law_1214 : decode cL_law 1214 = .ok (.invokevirtual 155, 3) := by decide +kernel
theorem dL_law_1217 : decode cL_law 1217 = .ok (.istore 6, 2) := by decide +kernel
theorem dL_law_1219 : decode cL_law 1219 = .ok (.aload_n 2, 1) := by decide +kernel
theorem dL_law_1220 : decode cL_law 1220 = .ok (.invokevirtual 93, 3) := by decide +kernel
theorem dL_law_1223 : decode cL_law 1223 = .ok (.iload 5, 2) := by decide +kernel
theorem dL_law_1225 : decode cL_law 1225 = .ok (.if_icmp .eq 5, 3) := by decide +kernel
theorem dL_law_1228 : decode cL_law 1228 = .ok (.iconst 0, 1) := by decide +kernel
theorem dL_law_1229 : decode cL_law 1229 = .ok (.ireturn, 1) := by decide +kernel
theorem dL_law_1230 : decode cL_law 1230 = .ok (.iload 5, 2) := by decide +kernel
theorem dL_law_1232 : decode cL_law 1232 = .ok (.ifCond .ne 15, 3) := by decide +kernel
theorem dL_law_1235 : decode cL_law 1235 = .ok (.aload_n 3, 1) := by decide +kernel
theorem dL_law_1236 : decode cL_law 1236 = .ok (.iconst 0, 1) := by decide +kernel
theorem dL_law_1237 : decode cL_law 1237 = .ok (.laload, 1) := by decide +kernel
theorem dL_law_1238 : decode cL_law 1238 = .ok (.iload 6, 2) := by decide +kernel
theorem dL_law_1240 : decode cL_law 1240 = .ok (.i2l, 1) := by decide +kernel
theorem dL_law_1241 : decode cL_law 1241 = .ok (.lcmp, 1) := by decide +kernel
theorem dL_law_1242 : decode cL_law 1242 = .ok (.ifCond .eq 5, 3) := by decide +kernel
theorem dL_law_1245 : decode cL_law 1245 = .ok (.iconst 0, 1) := by decide +kernel
theorem dL_law_1246 : decode cL_law 1246 = .ok (.ireturn, 1) := by decide +kernel
theorem dL_law_1247 : decode cL_law 1247 = .ok (.goto 329, 3) := by decide +kernel
theorem dL_law_1250 : decode cL_law 1250 = .ok (.aload_n 1, 1) := by decide +kernel
theorem dL_law_1251 : decode cL_law 1251 = .ok (.aload_n 0, 1) := by decide +kernel
theorem dL_law_1252 : decode cL_law 1252 = .ok (.iload 4, 2) := by decide +kernel
theorem dL_law_1254 : decode cL_law 1254 = .ok (.iconst 1, 1) := by decide +kernel
theorem dL_law_1255 : decode cL_law 1255 = .ok (.iadd, 1) := by decide +kernel
theorem dL_law_1256 : decode cL_law 1256 = .ok (.iaload, 1) := by decide +kernel
theorem dL_law_1257 : decode cL_law 1257 = .ok (.aload_n 0, 1) := by decide +kernel
theorem dL_law_1258 : decode cL_law 1258 = .ok (.iload 4, 2) := by decide +kernel
theorem dL_law_1260 : decode cL_law 1260 = .ok (.iconst 2, 1) := by decide +kernel
theorem dL_law_1261 : decode cL_law 1261 = .ok (.iadd, 1) := by decide +kernel
theorem dL_law_1262 : decode cL_law 1262 = .ok (.iaload, 1) := by decide +kernel
theorem dL_law_1263 : decode cL_law 1263 = .ok (.invokevirtual 156, 3) := by decide +kernel
theorem dL_law_1266 : decode cL_law 1266 = .ok (.aload_n 2, 1) := by decide +kernel
theorem dL_law_1267 : decode cL_law 1267 = .ok (.aload_n 0, 1) := by decide +kernel
theorem dL_law_1268 : decode cL_law 1268 = .ok (.iload 4, 2) := by decide +kernel
theorem dL_law_1270 : decode cL_law 1270 = .ok (.iconst 1, 1) := by decide +kernel
theorem dL_law_1271 : decode cL_law 1271 = .ok (.iadd, 1) := by decide +kernel
theorem dL_law_1272 : decode cL_law 1272 = .ok (.iaload, 1) := by decide +kernel
theorem dL_law_1273 : decode cL_law 1273 = .ok (.aload_n 0, 1) := by decide +kernel
theorem dL_law_1274 : decode cL_law 1274 = .ok (.iload 4, 2) := by decide +kernel
theorem dL_law_1276 : decode cL_law 1276 = .ok (.iconst 2, 1) := by decide +kernel
theorem dL_law_1277 : decode cL_law 1277 = .ok (.iadd, 1) := by decide +kernel
theorem dL_law_1278 : decode cL_law 1278 = .ok (.iaload, 1) := by decide +kernel
theorem dL_law_1279 : decode cL_law 1279 = .ok (.invokevirtual 159, 3) := by decide +kernel
theorem dL_law_1282 : decode cL_law 1282 = .ok (.if_icmp .eq 294, 3) := by decide +kernel
theorem dL_law_1285 : decode cL_law 1285 = .ok (.iconst 0, 1) := by decide +kernel
theorem dL_law_1286 : decode cL_law 1286 = .ok (.ireturn, 1) := by decide +kernel
theorem dL_law_1287 : decode cL_law 1287 = .ok (.aload_n 1, 1) := by decide +kernel
theorem dL_law_1288 : decode cL_law 1288 = .ok (.aload_n 0, 1) := by decide +kernel
theorem dL_law_1289 : decode cL_law 1289 = .ok (.iload 4, 2) := by decide +kernel
theorem dL_law_1291 : decode cL_law 1291 = .ok (.iconst 1, 1) := by decide +kernel
theorem dL_law_1292 : decode cL_law 1292 = .ok (.iadd, 1) := by decide +kernel
theorem dL_law_1293 : decode cL_law 1293 = .ok (.iaload, 1) := by decide +kernel
theorem dL_law_1294 : decode cL_law 1294 = .ok (.aload_n 0, 1) := by decide +kernel
theorem dL_law_1295 : decode cL_law 1295 = .ok (.iload 4, 2) := by decide +kernel
theorem dL_law_1297 : decode cL_law 1297 = .ok (.iconst 2, 1) := by decide +kernel
theorem dL_law_1298 : decode cL_law 1298 = .ok (.iadd, 1) := by decide +kernel
theorem dL_law_1299 : decode cL_law 1299 = .ok (.iaload, 1) := by decide +kernel
theorem dL_law_1300 : decode cL_law 1300 = .ok (.aload_n 3, 1) := by decide +kernel
theorem dL_law_1301 : decode cL_law 1301 = .ok (.invokestatic 160, 3) := by decide +kernel
theorem dL_law_1304 : decode cL_law 1304 = .ok (.istore 5, 2) := by decide +kernel
theorem dL_law_1306 : decode cL_law 1306 = .ok (.aload_n 2, 1) := by decide +kernel
theorem dL_law_1307 : decode cL_law 1307 = .ok (.aload_n 0, 1) := by decide +kernel
theorem dL_law_1308 : decode cL_law 1308 = .ok (.iload 4, 2) := by decide +kernel
theorem dL_law_1310 : decode cL_law 1310 = .ok (.iconst 1, 1) := by decide +kernel
theorem dL_law_1311 : decode cL_law 1311 = .ok (.iadd, 1) := by decide +kernel
theorem dL_law_1312 : decode cL_law 1312 = .ok (.iaload, 1) := by decide +kernel
theorem dL_law_1313 : decode cL_law 1313 = .ok (.aload_n 0, 1) := by decide +kernel
theorem dL_law_1314 : decode cL_law 1314 = .ok (.iload 4, 2) := by decide +kernel
theorem dL_law_1316 : decode cL_law 1316 = .ok (.iconst 2, 1) := by decide +kernel
theorem dL_law_1317 : decode cL_law 1317 = .ok (.iadd, 1) := by decide +kernel
theorem dL_law_1318 : decode cL_law 1318 = .ok (.iaload, 1) := by decide +kernel
theorem dL_law_1319 : decode cL_law 1319 = .ok (.invokevirtual 162, 3) := by decide +kernel
theorem dL_law_1322 : decode cL_law 1322 = .ok (.istore 6, 2) := by decide +kernel
theorem dL_law_1324 : decode cL_law 1324 = .ok (.aload_n 2, 1) := by decide +kernel
theorem dL_law_1325 : decode cL_law 1325 = .ok (.invokevirtual 93, 3) := by decide +kernel
theorem dL_law_1328 : decode cL_law 1328 = .ok (.iload 5, 2) := by decide +kernel
theorem dL_law_1330 : decode cL_law 1330 = .ok (.if_icmp .eq 5, 3) := by decide +kernel
theorem dL_law_1333 : decode cL_law 1333 = .ok (.iconst 0, 1) := by decide +kernel
theorem dL_law_1334 : decode cL_law 1334 = .ok (.ireturn, 1) := by decide +kernel
theorem dL_law_1335 : decode cL_law 1335 = .ok (.iload 5, 2) := by decide +kernel
theorem dL_law_1337 : decode cL_law 1337 = .ok (.ifCond .ne 15, 3) := by decide +kernel
theorem dL_law_1340 : decode cL_law 1340 = .ok (.aload_n 3, 1) := by decide +kernel
theorem dL_law_1341 : decode cL_law 1341 = .ok (.iconst 0, 1) := by decide +kernel
theorem dL_law_1342 : decode cL_law 1342 = .ok (.laload, 1) := by decide +kernel
theorem dL_law_1343 : decode cL_law 1343 = .ok (.iload 6, 2) := by decide +kernel
theorem dL_law_1345 : decode cL_law 1345 = .ok (.i2l, 1) := by decide +kernel
theorem dL_law_1346 : decode cL_law 1346 = .ok (.lcmp, 1) := by decide +kernel
theorem dL_law_1347 : decode cL_law 1347 = .ok (.ifCond .eq 5, 3) := by decide +kernel
theorem dL_law_1350 : decode cL_law 1350 = .ok (.iconst 0, 1) := by decide +kernel
theorem dL_law_1351 : decode cL_law 1351 = .ok (.ireturn, 1) := by decide +kernel
theorem dL_law_1352 : decode cL_law 1352 = .ok (.goto 224, 3) := by decide +kernel
theorem dL_law_1355 : decode cL_law 1355 = .ok (.aload_n 1, 1) := by decide +kernel
theorem dL_law_1356 : decode cL_law 1356 = .ok (.aload_n 0, 1) := by decide +kernel
theorem dL_law_1357 : decode cL_law 1357 = .ok (.iload 4, 2) := by decide +kernel
theorem dL_law_1359 : decode cL_law 1359 = .ok (.iconst 1, 1) := by decide +kernel
theorem dL_law_1360 : decode cL_law 1360 = .ok (.iadd, 1) := by decide +kernel
theorem dL_law_1361 : decode cL_law 1361 = .ok (.iaload, 1) := by decide +kernel
theorem dL_law_1362 : decode cL_law 1362 = .ok (.aload_n 3, 1) := by decide +kernel
theorem dL_law_1363 : decode cL_law 1363 = .ok (.invokestatic 163, 3) := by decide +kernel
theorem dL_law_1366 : decode cL_law 1366 = .ok (.istore 5, 2) := by decide +kernel
theorem dL_law_1368 : decode cL_law 1368 = .ok (.aload_n 2, 1) := by decide +kernel
theorem dL_law_1369 : decode cL_law 1369 = .ok (.aload_n 0, 1) := by decide +kernel
theorem dL_law_1370 : decode cL_law 1370 = .ok (.iload 4, 2) := by decide +kernel
theorem dL_law_1372 : decode cL_law 1372 = .ok (.iconst 1, 1) := by decide +kernel
theorem dL_law_1373 : decode cL_law 1373 = .ok (.iadd, 1) := by decide +kernel
theorem dL_law_1374 : decode cL_law 1374 = .ok (.iaload, 1) := by decide +kernel
theorem dL_law_1375 : decode cL_law 1375 = .ok (.invokevirtual 165, 3) := by decide +kernel
theorem dL_law_1378 : decode cL_law 1378 = .ok (.istore 6, 2) := by decide +kernel
theorem dL_law_1380 : decode cL_law 1380 = .ok (.aload_n 2, 1) := by decide +kernel
theorem dL_law_1381 : decode cL_law 1381 = .ok (.invokevirtual 93, 3) := by decide +kernel
theorem dL_law_1384 : decode cL_law 1384 = .ok (.iload 5, 2) := by decide +kernel
theorem dL_law_1386 : decode cL_law 1386 = .ok (.if_icmp .eq 5, 3) := by decide +kernel
theorem dL_law_1389 : decode cL_law 1389 = .ok (.iconst 0, 1) := by decide +kernel
theorem dL_law_1390 : decode cL_law 1390 = .ok (.ireturn, 1) := by decide +kernel
theorem dL_law_1391 : decode cL_law 1391 = .ok (.iload 5, 2) := by decide +kernel
theorem dL_law_1393 : decode cL_law 1393 = .ok (.ifCond .ne 15, 3) := by decide +kernel
theorem dL_law_1396 : decode cL_law 1396 = .ok (.aload_n 3, 1) := by decide +kernel
theorem dL_law_1397 : decode cL_law 1397 = .ok (.iconst 0, 1) := by decide +kernel
theorem dL_law_1398 : decode cL_law 1398 = .ok (.laload, 1) := by decide +kernel
theorem dL_law_1399 : decode cL_law 1399 = .ok (.iload 6, 2) := by decide +kernel
theorem dL_law_1401 : decode cL_law 1401 = .ok (.i2l, 1) := by decide +kernel
theorem dL_law_1402 : decode cL_law 1402 = .ok (.lcmp, 1) := by decide +kernel
theorem dL_law_1403 : decode cL_law 1403 = .ok (.ifCond .eq 5, 3) := by decide +kernel
theorem dL_law_1406 : decode cL_law 1406 = .ok (.iconst 0, 1) := by decide +kernel
theorem dL_law_1407 : decode cL_law 1407 = .ok (.ireturn, 1) := by decide +kernel
theorem dL_law_1408 : decode cL_law 1408 = .ok (.goto 168, 3) := by decide +kernel
theorem dL_law_1411 : decode cL_law 1411 = .ok (.aload_n 1, 1) := by decide +kernel
theorem dL_law_1412 : decode cL_law 1412 = .ok (.aload_n 0, 1) := by decide +kernel
theorem dL_law_1413 : decode cL_law 1413 = .ok (.iload 4, 2) := by decide +kernel
theorem dL_law_1415 : decode cL_law 1415 = .ok (.iconst 1, 1) := by decide +kernel
theorem dL_law_1416 : decode cL_law 1416 = .ok (.iadd, 1) := by decide +kernel
theorem dL_law_1417 : decode cL_law 1417 = .ok (.iaload, 1) := by decide +kernel
theorem dL_law_1418 : decode cL_law 1418 = .ok (.aload_n 0, 1) := by decide +kernel
theorem dL_law_1419 : decode cL_law 1419 = .ok (.iload 4, 2) := by decide +kernel
theorem dL_law_1421 : decode cL_law 1421 = .ok (.iconst 2, 1) := by decide +kernel
theorem dL_law_1422 : decode cL_law 1422 = .ok (.iadd, 1) := by decide +kernel
theorem dL_law_1423 : decode cL_law 1423 = .ok (.iaload, 1) := by decide +kernel
theorem dL_law_1424 : decode cL_law 1424 = .ok (.aload_n 3, 1) := by decide +kernel
theorem dL_law_1425 : decode cL_law 1425 = .ok (.invokestatic 166, 3) := by decide +kernel
theorem dL_law_1428 : decode cL_law 1428 = .ok (.istore 5, 2) := by decide +kernel
theorem dL_law_1430 : decode cL_law 1430 = .ok (.aload_n 2, 1) := by decide +kernel
theorem dL_law_1431 : decode cL_law 1431 = .ok (.aload_n 0, 1) := by decide +kernel
theorem dL_law_1432 : decode cL_law 1432 = .ok (.iload 4, 2) := by decide +kernel
theorem dL_law_1434 : decode cL_law 1434 = .ok (.iconst 1, 1) := by decide +kernel
theorem dL_law_1435 : decode cL_law 1435 = .ok (.iadd, 1) := by decide +kernel
theorem dL_law_1436 : decode cL_law 1436 = .ok (.iaload, 1) := by decide +kernel
theorem dL_law_1437 : decode cL_law 1437 = .ok (.aload_n 0, 1) := by decide +kernel
theorem dL_law_1438 : decode cL_law 1438 = .ok (.iload 4, 2) := by decide +kernel
theorem dL_law_1440 : decode cL_law 1440 = .ok (.iconst 2, 1) := by decide +kernel
theorem dL_law_1441 : decode cL_law 1441 = .ok (.iadd, 1) := by decide +kernel
theorem dL_law_1442 : decode cL_law 1442 = .ok (.iaload, 1) := by decide +kernel
theorem dL_law_1443 : decode cL_law 1443 = .ok (.invokevirtual 168, 3) := by decide +kernel
theorem dL_law_1446 : decode cL_law 1446 = .ok (.istore 6, 2) := by decide +kernel
theorem dL_law_1448 : decode cL_law 1448 = .ok (.aload_n 2, 1) := by decide +kernel
theorem dL_law_1449 : decode cL_law 1449 = .ok (.invokevirtual 93, 3) := by decide +kernel
theorem dL_law_1452 : decode cL_law 1452 = .ok (.iload 5, 2) := by decide +kernel
theorem dL_law_1454 : decode cL_law 1454 = .ok (.if_icmp .eq 5, 3) := by decide +kernel
theorem dL_law_1457 : decode cL_law 1457 = .ok (.iconst 0, 1) := by decide +kernel
theorem dL_law_1458 : decode cL_law 1458 = .ok (.ireturn, 1) := by decide +kernel
theorem dL_law_1459 : decode cL_law 1459 = .ok (.iload 5, 2) := by decide +kernel
theorem dL_law_1461 : decode cL_law 1461 = .ok (.ifCond .ne 15, 3) := by decide +kernel
theorem dL_law_1464 : decode cL_law 1464 = .ok (.aload_n 3, 1) := by decide +kernel
theorem dL_law_1465 : decode cL_law 1465 = .ok (.iconst 0, 1) := by decide +kernel
theorem dL_law_1466 : decode cL_law 1466 = .ok (.laload, 1) := by decide +kernel
theorem dL_law_1467 : decode cL_law 1467 = .ok (.iload 6, 2) := by decide +kernel
theorem dL_law_1469 : decode cL_law 1469 = .ok (.i2l, 1) := by decide +kernel
theorem dL_law_1470 : decode cL_law 1470 = .ok (.lcmp, 1) := by decide +kernel
theorem dL_law_1471 : decode cL_law 1471 = .ok (.ifCond .eq 5, 3) := by decide +kernel
theorem dL_law_1474 : decode cL_law 1474 = .ok (.iconst 0, 1) := by decide +kernel
theorem dL_law_1475 : decode cL_law 1475 = .ok (.ireturn, 1) := by decide +kernel
theorem dL_law_1476 : decode cL_law 1476 = .ok (.goto 100, 3) := by decide +kernel
theorem dL_law_1479 : decode cL_law 1479 = .ok (.aload_n 1, 1) := by decide +kernel
theorem dL_law_1480 : decode cL_law 1480 = .ok (.aload_n 0, 1) := by decide +kernel
theorem dL_law_1481 : decode cL_law 1481 = .ok (.iload 4, 2) := by decide +kernel
theorem dL_law_1483 : decode cL_law 1483 = .ok (.iconst 1, 1) := by decide +kernel
theorem dL_law_1484 : decode cL_law 1484 = .ok (.iadd, 1) := by decide +kernel
theorem dL_law_1485 : decode cL_law 1485 = .ok (.iaload, 1) := by decide +kernel
theorem dL_law_1486 : decode cL_law 1486 = .ok (.aload_n 3, 1) := by decide +kernel
theorem dL_law_1487 : decode cL_law 1487 = .ok (.invokestatic 169, 3) := by decide +kernel
theorem dL_law_1490 : decode cL_law 1490 = .ok (.istore 5, 2) := by decide +kernel
theorem dL_law_1492 : decode cL_law 1492 = .ok (.aload_n 2, 1) := by decide +kernel
theorem dL_law_1493 : decode cL_law 1493 = .ok (.aload_n 0, 1) := by decide +kernel
theorem dL_law_1494 : decode cL_law 1494 = .ok (.iload 4, 2) := by decide +kernel
theorem dL_law_1496 : decode cL_law 1496 = .ok (.iconst 1, 1) := by decide +kernel
theorem dL_law_1497 : decode cL_law 1497 = .ok (.iadd, 1) := by decide +kernel
theorem dL_law_1498 : decode cL_law 1498 = .ok (.iaload, 1) := by decide +kernel
theorem dL_law_1499 : decode cL_law 1499 = .ok (.invokevirtual 171, 3) := by decide +kernel
theorem dL_law_1502 : decode cL_law 1502 = .ok (.istore 6, 2) := by decide +kernel
theorem dL_law_1504 : decode cL_law 1504 = .ok (.aload_n 2, 1) := by decide +kernel
theorem dL_law_1505 : decode cL_law 1505 = .ok (.invokevirtual 93, 3) := by decide +kernel
theorem dL_law_1508 : decode cL_law 1508 = .ok (.iload 5, 2) := by decide +kernel
theorem dL_law_1510 : decode cL_law 1510 = .ok (.if_icmp .eq 5, 3) := by decide +kernel
theorem dL_law_1513 : decode cL_law 1513 = .ok (.iconst 0, 1) := by decide +kernel
theorem dL_law_1514 : decode cL_law 1514 = .ok (.ireturn, 1) := by decide +kernel
theorem dL_law_1515 : decode cL_law 1515 = .ok (.iload 5, 2) := by decide +kernel
theorem dL_law_1517 : decode cL_law 1517 = .ok (.ifCond .ne 15, 3) := by decide +kernel
theorem dL_law_1520 : decode cL_law 1520 = .ok (.aload_n 3, 1) := by decide +kernel
theorem dL_law_1521 : decode cL_law 1521 = .ok (.iconst 0, 1) := by decide +kernel
theorem dL_law_1522 : decode cL_law 1522 = .ok (.laload, 1) := by decide +kernel
theorem dL_law_1523 : decode cL_law 1523 = .ok (.iload 6, 2) := by decide +kernel
theorem dL_law_1525 : decode cL_law 1525 = .ok (.i2l, 1) := by decide +kernel
theorem dL_law_1526 : decode cL_law 1526 = .ok (.lcmp, 1) := by decide +kernel
theorem dL_law_1527 : decode cL_law 1527 = .ok (.ifCond .eq 5, 3) := by decide +kernel
theorem dL_law_1530 : decode cL_law 1530 = .ok (.iconst 0, 1) := by decide +kernel
theorem dL_law_1531 : decode cL_law 1531 = .ok (.ireturn, 1) := by decide +kernel
theorem dL_law_1532 : decode cL_law 1532 = .ok (.goto 44, 3) := by decide +kernel
theorem dL_law_1535 : decode cL_law 1535 = .ok (.aload_n 1, 1) := by decide +kernel
theorem dL_law_1536 : decode cL_law 1536 = .ok (.invokevirtual 172, 3) := by decide +kernel
theorem dL_law_1539 : decode cL_law 1539 = .ok (.dstore 5, 2) := by decide +kernel
theorem dL_law_1541 : decode cL_law 1541 = .ok (.aload_n 2, 1) := by decide +kernel
theorem dL_law_1542 : decode cL_law 1542 = .ok (.invokevirtual 176, 3) := by decide +kernel
theorem dL_law_1545 : decode cL_law 1545 = .ok (.dstore 7, 2) := by decide +kernel
theorem dL_law_1547 : decode cL_law 1547 = .ok (.dload 5, 2) := by decide +kernel
theorem dL_law_1549 : decode cL_law 1549 = .ok (.dload 7, 2) := by decide +kernel
theorem dL_law_1551 : decode cL_law 1551 = .ok (.dcmp .l, 1) := by decide +kernel
theorem dL_law_1552 : decode cL_law 1552 = .ok (.ifCond .eq 21, 3) := by decide +kernel
theorem dL_law_1555 : decode cL_law 1555 = .ok (.dload 5, 2) := by decide +kernel
theorem dL_law_1557 : decode cL_law 1557 = .ok (.dload 5, 2) := by decide +kernel
theorem dL_law_1559 : decode cL_law 1559 = .ok (.dcmp .l, 1) := by decide +kernel
theorem dL_law_1560 : decode cL_law 1560 = .ok (.ifCond .eq 11, 3) := by decide +kernel
theorem dL_law_1563 : decode cL_law 1563 = .ok (.dload 7, 2) := by decide +kernel
theorem dL_law_1565 : decode cL_law 1565 = .ok (.dload 7, 2) := by decide +kernel
theorem dL_law_1567 : decode cL_law 1567 = .ok (.dcmp .l, 1) := by decide +kernel
theorem dL_law_1568 : decode cL_law 1568 = .ok (.ifCond .ne 5, 3) := by decide +kernel
theorem dL_law_1571 : decode cL_law 1571 = .ok (.iconst 0, 1) := by decide +kernel
theorem dL_law_1572 : decode cL_law 1572 = .ok (.ireturn, 1) := by decide +kernel
theorem dL_law_1573 : decode cL_law 1573 = .ok (.goto 3, 3) := by decide +kernel
theorem dL_law_1576 : decode cL_law 1576 = .ok (.iinc 4 5, 3) := by decide +kernel
theorem dL_law_1579 : decode cL_law 1579 = .ok (.goto (-1556), 3) := by decide +kernel
theorem dL_law_1582 : decode cL_law 1582 = .ok (.iconst 1, 1) := by decide +kernel
theorem dL_law_1583 : decode cL_law 1583 = .ok (.ireturn, 1) := by decide +kernel
