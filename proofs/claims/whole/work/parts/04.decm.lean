theorem dX7_init_0 : decode cX7_init 0 = .ok (.aload_n 0, 1) := by decide +kernel
theorem dX7_init_1 : decode cX7_init 1 = .ok (.invokespecial 1, 3) := by decide +kernel
theorem dX7_init_4 : decode cX7_init 4 = .ok (.aload_n 0, 1) := by decide +kernel
theorem dX7_init_5 : decode cX7_init 5 = .ok (.sipush 226, 3) := by decide +kernel
theorem dX7_init_8 : decode cX7_init 8 = .ok (.newarray .int, 2) := by decide +kernel
theorem dX7_init_10 : decode cX7_init 10 = .ok (.putfield 7, 3) := by decide +kernel
theorem dX7_init_13 : decode cX7_init 13 = .ok (.aload_n 0, 1) := by decide +kernel
theorem dX7_init_14 : decode cX7_init 14 = .ok (.sipush 1356, 3) := by decide +kernel
theorem dX7_init_17 : decode cX7_init 17 = .ok (.newarray .int, 2) := by decide +kernel
theorem dX7_init_19 : decode cX7_init 19 = .ok (.putfield 13, 3) := by decide +kernel
theorem dX7_init_22 : decode cX7_init 22 = .ok (.aload_n 0, 1) := by decide +kernel
theorem dX7_init_23 : decode cX7_init 23 = .ok (.sipush 452, 3) := by decide +kernel
theorem dX7_init_26 : decode cX7_init 26 = .ok (.newarray .int, 2) := by decide +kernel
theorem dX7_init_28 : decode cX7_init 28 = .ok (.putfield 16, 3) := by decide +kernel
theorem dX7_init_31 : decode cX7_init 31 = .ok (.aload_n 0, 1) := by decide +kernel
theorem dX7_init_32 : decode cX7_init 32 = .ok (.iconst 2, 1) := by decide +kernel
theorem dX7_init_33 : decode cX7_init 33 = .ok (.newarray .boolean, 2) := by decide +kernel
theorem dX7_init_35 : decode cX7_init 35 = .ok (.putfield 19, 3) := by decide +kernel
theorem dX7_init_38 : decode cX7_init 38 = .ok (.aload_n 0, 1) := by decide +kernel
theorem dX7_init_39 : decode cX7_init 39 = .ok (.sipush 226, 3) := by decide +kernel
theorem dX7_init_42 : decode cX7_init 42 = .ok (.newarray .int, 2) := by decide +kernel
theorem dX7_init_44 : decode cX7_init 44 = .ok (.putfield 23, 3) := by decide +kernel
theorem dX7_init_47 : decode cX7_init 47 = .ok (.aload_n 0, 1) := by decide +kernel
theorem dX7_init_48 : decode cX7_init 48 = .ok (.bipush 10, 2) := by decide +kernel
theorem dX7_init_50 : decode cX7_init 50 = .ok (.newarray .int, 2) := by decide +kernel
theorem dX7_init_52 : decode cX7_init 52 = .ok (.putfield 26, 3) := by decide +kernel
theorem dX7_init_55 : decode cX7_init 55 = .ok (.aload_n 0, 1) := by decide +kernel
theorem dX7_init_56 : decode cX7_init 56 = .ok (.bipush 10, 2) := by decide +kernel
theorem dX7_init_58 : decode cX7_init 58 = .ok (.newarray .boolean, 2) := by decide +kernel
theorem dX7_init_60 : decode cX7_init 60 = .ok (.putfield 29, 3) := by decide +kernel
theorem dX7_init_63 : decode cX7_init 63 = .ok (.aload_n 0, 1) := by decide +kernel
theorem dX7_init_64 : decode cX7_init 64 = .ok (.bipush 60, 2) := by decide +kernel
theorem dX7_init_66 : decode cX7_init 66 = .ok (.newarray .int, 2) := by decide +kernel
theorem dX7_init_68 : decode cX7_init 68 = .ok (.putfield 32, 3) := by decide +kernel
theorem dX7_init_71 : decode cX7_init 71 = .ok (.aload_n 0, 1) := by decide +kernel
theorem dX7_init_72 : decode cX7_init 72 = .ok (.bipush 30, 2) := by decide +kernel
theorem dX7_init_74 : decode cX7_init 74 = .ok (.newarray .int, 2) := by decide +kernel
theorem dX7_init_76 : decode cX7_init 76 = .ok (.putfield 35, 3) := by decide +kernel
theorem dX7_init_79 : decode cX7_init 79 = .ok (.aload_n 0, 1) := by decide +kernel
theorem dX7_init_80 : decode cX7_init 80 = .ok (.bipush 30, 2) := by decide +kernel
theorem dX7_init_82 : decode cX7_init 82 = .ok (.newarray .int, 2) := by decide +kernel
theorem dX7_init_84 : decode cX7_init 84 = .ok (.putfield 38, 3) := by decide +kernel
theorem dX7_init_87 : decode cX7_init 87 = .ok (.aload_n 0, 1) := by decide +kernel
theorem dX7_init_88 : decode cX7_init 88 = .ok (.bipush 30, 2) := by decide +kernel
theorem dX7_init_90 : decode cX7_init 90 = .ok (.newarray .int, 2) := by decide +kernel
theorem dX7_init_92 : decode cX7_init 92 = .ok (.putfield 41, 3) := by decide +kernel
theorem dX7_init_95 : decode cX7_init 95 = .ok (.aload_n 0, 1) := by decide +kernel
theorem dX7_init_96 : decode cX7_init 96 = .ok (.bipush 30, 2) := by decide +kernel
theorem dX7_init_98 : decode cX7_init 98 = .ok (.newarray .int, 2) := by decide +kernel
theorem dX7_init_100 : decode cX7_init 100 = .ok (.putfield 44, 3) := by decide +kernel
theorem dX7_init_103 : decode cX7_init 103 = .ok (.aload_n 0, 1) := by decide +kernel
theorem dX7_init_104 : decode cX7_init 104 = .ok (.getfield 7, 3) := by decide +kernel
theorem dX7_init_107 : decode cX7_init 107 = .ok (.iconst 1, 1) := by decide +kernel
theorem dX7_init_108 : decode cX7_init 108 = .ok (.sipush 1000, 3) := by decide +kernel
theorem dX7_init_111 : decode cX7_init 111 = .ok (.iastore, 1) := by decide +kernel
theorem dX7_init_112 : decode cX7_init 112 = .ok (.aload_n 0, 1) := by decide +kernel
theorem dX7_init_113 : decode cX7_init 113 = .ok (.getfield 7, 3) := by decide +kernel
theorem dX7_init_116 : decode cX7_init 116 = .ok (.iconst 2, 1) := by decide +kernel
theorem dX7_init_117 : decode cX7_init 117 = .ok (.sipush 300, 3) := by decide +kernel
theorem dX7_init_120 : decode cX7_init 120 = .ok (.iastore, 1) := by decide +kernel
theorem dX7_init_121 : decode cX7_init 121 = .ok (.aload_n 0, 1) := by decide +kernel
theorem dX7_init_122 : decode cX7_init 122 = .ok (.getfield 7, 3) := by decide +kernel
theorem dX7_init_125 : decode cX7_init 125 = .ok (.iconst 3, 1) := by decide +kernel
theorem dX7_init_126 : decode cX7_init 126 = .ok (.iconst 2, 1) := by decide +kernel
theorem dX7_init_127 : decode cX7_init 127 = .ok (.iastore, 1) := by decide +kernel
theorem dX7_init_128 : decode cX7_init 128 = .ok (.aload_n 0, 1) := by decide +kernel
theorem dX7_init_129 : decode cX7_init 129 = .ok (.getfield 7, 3) := by decide +kernel
theorem dX7_init_132 : decode cX7_init 132 = .ok (.bipush 14, 2) := by decide +kernel
theorem dX7_init_134 : decode cX7_init 134 = .ok (.ldc 47, 2) := by decide +kernel
theorem dX7_init_136 : decode cX7_init 136 = .ok (.iastore, 1) := by decide +kernel
theorem dX7_init_137 : decode cX7_init 137 = .ok (.iconst 0, 1) := by decide +kernel
theorem dX7_init_138 : decode cX7_init 138 = .ok (.istore_n 1, 1) := by decide +kernel
theorem dX7_init_139 : decode cX7_init 139 = .ok (.iload_n 1, 1) := by decide +kernel
theorem dX7_init_140 : decode cX7_init 140 = .ok (.iconst 4, 1) := by decide +kernel
theorem dX7_init_141 : decode cX7_init 141 = .ok (.if_icmp .ge 18, 3) := by decide +kernel
theorem dX7_init_144 : decode cX7_init 144 = .ok (.aload_n 0, 1) := by decide +kernel
theorem dX7_init_145 : decode cX7_init 145 = .ok (.getfield 7, 3) := by decide +kernel
theorem dX7_init_148 : decode cX7_init 148 = .ok (.iconst 4, 1) := by decide +kernel
theorem dX7_init_149 : decode cX7_init 149 = .ok (.iload_n 1, 1) := by decide +kernel
theorem dX7_init_150 : decode cX7_init 150 = .ok (.iadd, 1) := by decide +kernel
theorem dX7_init_151 : decode cX7_init 151 = .ok (.iconst 1, 1) := by decide +kernel
theorem dX7_init_152 : decode cX7_init 152 = .ok (.iastore, 1) := by decide +kernel
theorem dX7_init_153 : decode cX7_init 153 = .ok (.iinc 1 1, 3) := by decide +kernel
theorem dX7_init_156 : decode cX7_init 156 = .ok (.goto (-17), 3) := by decide +kernel
theorem dX7_init_159 : decode cX7_init 159 = .ok (.return_, 1) := by decide +kernel
theorem dX7_thrown_0 : decode cX7_thrown 0 = .ok (.aload_n 0, 1) := by decide +kernel
theorem dX7_thrown_1 : decode cX7_thrown 1 = .ok (.getfield 48, 3) := by decide +kernel
theorem dX7_thrown_4 : decode cX7_thrown 4 = .ok (.ireturn, 1) := by decide +kernel
theorem dX7_fails_0 : decode cX7_fails 0 = .ok (.aload_n 0, 1) := by decide +kernel
theorem dX7_fails_1 : decode cX7_fails 1 = .ok (.iload_n 1, 1) := by decide +kernel
theorem dX7_fails_2 : decode cX7_fails 2 = .ok (.putfield 48, 3) := by decide +kernel
theorem dX7_fails_5 : decode cX7_fails 5 = .ok (.iconst 0, 1) := by decide +kernel
theorem dX7_fails_6 : decode cX7_fails 6 = .ok (.ireturn, 1) := by decide +kernel
theorem dX7_in_0 : decode cX7_in 0 = .ok (.iload_n 0, 1) := by decide +kernel
theorem dX7_in_1 : decode cX7_in 1 = .ok (.iload_n 1, 1) := by decide +kernel
theorem dX7_in_2 : decode cX7_in 2 = .ok (.if_icmp .lt 12, 3) := by decide +kernel
theorem dX7_in_5 : decode cX7_in 5 = .ok (.iload_n 0, 1) := by decide +kernel
theorem dX7_in_6 : decode cX7_in 6 = .ok (.iload_n 2, 1) := by decide +kernel
theorem dX7_in_7 : decode cX7_in 7 = .ok (.if_icmp .gt 7, 3) := by decide +kernel
theorem dX7_in_10 : decode cX7_in 10 = .ok (.iconst 1, 1) := by decide +kernel
theorem dX7_in_11 : decode cX7_in 11 = .ok (.goto 4, 3) := by decide +kernel
theorem dX7_in_14 : decode cX7_in 14 = .ok (.iconst 0, 1) := by decide +kernel
theorem dX7_in_15 : decode cX7_in 15 = .ok (.ireturn, 1) := by decide +kernel
theorem dX7_isRow_0 : decode cX7_isRow 0 = .ok (.iload_n 0, 1) := by decide +kernel
theorem dX7_isRow_1 : decode cX7_isRow 1 = .ok (.iconst 0, 1) := by decide +kernel
theorem dX7_isRow_2 : decode cX7_isRow 2 = .ok (.iconst 3, 1) := by decide +kernel
theorem dX7_isRow_3 : decode cX7_isRow 3 = .ok (.invokestatic 52, 3) := by decide +kernel
theorem dX7_isRow_6 : decode cX7_isRow 6 = .ok (.ireturn, 1) := by decide +kernel
theorem dX7_is_0 : decode cX7_is 0 = .ok (.iload_n 1, 1) := by decide +kernel
theorem dX7_is_1 : decode cX7_is 1 = .ok (.iconst 0, 1) := by decide +kernel
theorem dX7_is_2 : decode cX7_is 2 = .ok (.aload_n 0, 1) := by decide +kernel
theorem dX7_is_3 : decode cX7_is 3 = .ok (.getfield 7, 3) := by decide +kernel
theorem dX7_is_6 : decode cX7_is 6 = .ok (.bipush 15, 2) := by decide +kernel
theorem dX7_is_8 : decode cX7_is 8 = .ok (.iaload, 1) := by decide +kernel
theorem dX7_is_9 : decode cX7_is 9 = .ok (.iconst 1, 1) := by decide +kernel
theorem dX7_is_10 : decode cX7_is 10 = .ok (.isub, 1) := by decide +kernel
theorem dX7_is_11 : decode cX7_is 11 = .ok (.invokestatic 52, 3) := by decide +kernel
theorem dX7_is_14 : decode cX7_is 14 = .ok (.ireturn, 1) := by decide +kernel
theorem dX7_of_0 : decode cX7_of 0 = .ok (.aload_n 0, 1) := by decide +kernel
theorem dX7_of_1 : decode cX7_of 1 = .ok (.getfield 7, 3) := by decide +kernel
theorem dX7_of_4 : decode cX7_of 4 = .ok (.bipush 16, 2) := by decide +kernel
theorem dX7_of_6 : decode cX7_of 6 = .ok (.bipush 21, 2) := by decide +kernel
theorem dX7_of_8 : decode cX7_of 8 = .ok (.iload_n 1, 1) := by decide +kernel
theorem dX7_of_9 : decode cX7_of 9 = .ok (.imul, 1) := by decide +kernel
theorem dX7_of_10 : decode cX7_of 10 = .ok (.iadd, 1) := by decide +kernel
theorem dX7_of_11 : decode cX7_of 11 = .ok (.iload_n 2, 1) := by decide +kernel
theorem dX7_of_12 : decode cX7_of 12 = .ok (.iadd, 1) := by decide +kernel
theorem dX7_of_13 : decode cX7_of 13 = .ok (.iaload, 1) := by decide +kernel
theorem dX7_of_14 : decode cX7_of 14 = .ok (.ireturn, 1) := by decide +kernel
theorem dX7_put_0 : decode cX7_put 0 = .ok (.aload_n 0, 1) := by decide +kernel
theorem dX7_put_1 : decode cX7_put 1 = .ok (.getfield 7, 3) := by decide +kernel
theorem dX7_put_4 : decode cX7_put 4 = .ok (.bipush 16, 2) := by decide +kernel
theorem dX7_put_6 : decode cX7_put 6 = .ok (.bipush 21, 2) := by decide +kernel
theorem dX7_put_8 : decode cX7_put 8 = .ok (.iload_n 1, 1) := by decide +kernel
theorem dX7_put_9 : decode cX7_put 9 = .ok (.imul, 1) := by decide +kernel
theorem dX7_put_10 : decode cX7_put 10 = .ok (.iadd, 1) := by decide +kernel
theorem dX7_put_11 : decode cX7_put 11 = .ok (.iload_n 2, 1) := by decide +kernel
theorem dX7_put_12 : decode cX7_put 12 = .ok (.iadd, 1) := by decide +kernel
theorem dX7_put_13 : decode cX7_put 13 = .ok (.iload_n 3, 1) := by decide +kernel
theorem dX7_put_14 : decode cX7_put 14 = .ok (.iastore, 1) := by decide +kernel
theorem dX7_put_15 : decode cX7_put 15 = .ok (.return_, 1) := by decide +kernel
theorem dX7_size_0 : decode cX7_size 0 = .ok (.iload_n 0, 1) := by decide +kernel
theorem dX7_size_1 : decode cX7_size 1 = .ok (.ifCond .ge 8, 3) := by decide +kernel
theorem dX7_size_4 : decode cX7_size 4 = .ok (.iload_n 0, 1) := by decide +kernel
theorem dX7_size_5 : decode cX7_size 5 = .ok (.ineg, 1) := by decide +kernel
theorem dX7_size_6 : decode cX7_size 6 = .ok (.goto 4, 3) := by decide +kernel
theorem dX7_size_9 : decode cX7_size 9 = .ok (.iload_n 0, 1) := by decide +kernel
theorem dX7_size_10 : decode cX7_size 10 = .ok (.ireturn, 1) := by decide +kernel
theorem dX7_save_0 : decode cX7_save 0 = .ok (.aload_n 0, 1) := by decide +kernel
theorem dX7_save_1 : decode cX7_save 1 = .ok (.getfield 56, 3) := by decide +kernel
theorem dX7_save_4 : decode cX7_save 4 = .ok (.bipush 6, 2) := by decide +kernel
theorem dX7_save_6 : decode cX7_save 6 = .ok (.if_icmp .ne 44, 3) := by decide +kernel
theorem dX7_save_9 : decode cX7_save 9 = .ok (.iconst 0, 1) := by decide +kernel
theorem dX7_save_10 : decode cX7_save 10 = .ok (.istore_n 1, 1) := by decide +kernel
theorem dX7_save_11 : decode cX7_save 11 = .ok (.iload_n 1, 1) := by decide +kernel
theorem dX7_save_12 : decode cX7_save 12 = .ok (.sipush 1130, 3) := by decide +kernel
theorem dX7_save_15 : decode cX7_save 15 = .ok (.if_icmp .ge 25, 3) := by decide +kernel
theorem dX7_save_18 : decode cX7_save 18 = .ok (.aload_n 0, 1) := by decide +kernel
theorem dX7_save_19 : decode cX7_save 19 = .ok (.getfield 13, 3) := by decide +kernel
theorem dX7_save_22 : decode cX7_save 22 = .ok (.iload_n 1, 1) := by decide +kernel
theorem dX7_save_23 : decode cX7_save 23 = .ok (.aload_n 0, 1) := by decide +kernel
theorem dX7_save_24 : decode cX7_save 24 = .ok (.getfield 13, 3) := by decide +kernel
theorem dX7_save_27 : decode cX7_save 27 = .ok (.iload_n 1, 1) := by decide +kernel
theorem dX7_save_28 : decode cX7_save 28 = .ok (.sipush 226, 3) := by decide +kernel
theorem dX7_save_31 : decode cX7_save 31 = .ok (.iadd, 1) := by decide +kernel
theorem dX7_save_32 : decode cX7_save 32 = .ok (.iaload, 1) := by decide +kernel
theorem dX7_save_33 : decode cX7_save 33 = .ok (.iastore, 1) := by decide +kernel
theorem dX7_save_34 : decode cX7_save 34 = .ok (.iinc 1 1, 3) := by decide +kernel
theorem dX7_save_37 : decode cX7_save 37 = .ok (.goto (-26), 3) := by decide +kernel
theorem dX7_save_40 : decode cX7_save 40 = .ok (.aload_n 0, 1) := by decide +kernel
theorem dX7_save_41 : decode cX7_save 41 = .ok (.dup, 1) := by decide +kernel
theorem dX7_save_42 : decode cX7_save 42 = .ok (.getfield 56, 3) := by decide +kernel
theorem dX7_save_45 : decode cX7_save 45 = .ok (.iconst 1, 1) := by decide +kernel
theorem dX7_save_46 : decode cX7_save 46 = .ok (.isub, 1) := by decide +kernel
theorem dX7_save_47 : decode cX7_save 47 = .ok (.putfield 56, 3) := by decide +kernel
theorem dX7_save_50 : decode cX7_save 50 = .ok (.iconst 0, 1) := by decide +kernel
theorem dX7_save_51 : decode cX7_save 51 = .ok (.istore_n 1, 1) := by decide +kernel
theorem dX7_save_52 : decode cX7_save 52 = .ok (.iload_n 1, 1) := by decide +kernel
theorem dX7_save_53 : decode cX7_save 53 = .ok (.sipush 226, 3) := by decide +kernel
theorem dX7_save_56 : decode cX7_save 56 = .ok (.if_icmp .ge 30, 3) := by decide +kernel
theorem dX7_save_59 : decode cX7_save 59 = .ok (.aload_n 0, 1) := by decide +kernel
theorem dX7_save_60 : decode cX7_save 60 = .ok (.getfield 13, 3) := by decide +kernel
theorem dX7_save_63 : decode cX7_save 63 = .ok (.sipush 226, 3) := by decide +kernel
theorem dX7_save_66 : decode cX7_save 66 = .ok (.aload_n 0, 1) := by decide +kernel
theorem dX7_save_67 : decode cX7_save 67 = .ok (.getfield 56, 3) := by decide +kernel
theorem dX7_save_70 : decode cX7_save 70 = .ok (.imul, 1) := by decide +kernel
theorem dX7_save_71 : decode cX7_save 71 = .ok (.iload_n 1, 1) := by decide +kernel
theorem dX7_save_72 : decode cX7_save 72 = .ok (.iadd, 1) := by decide +kernel
theorem dX7_save_73 : decode cX7_save 73 = .ok (.aload_n 0, 1) := by decide +kernel
theorem dX7_save_74 : decode cX7_save 74 = .ok (.getfield 7, 3) := by decide +kernel
theorem dX7_save_77 : decode cX7_save 77 = .ok (.iload_n 1, 1) := by decide +kernel
theorem dX7_save_78 : decode cX7_save 78 = .ok (.iaload, 1) := by decide +kernel
theorem dX7_save_79 : decode cX7_save 79 = .ok (.iastore, 1) := by decide +kernel
theorem dX7_save_80 : decode cX7_save 80 = .ok (.iinc 1 1, 3) := by decide +kernel
theorem dX7_save_83 : decode cX7_save 83 = .ok (.goto (-31), 3) := by decide +kernel
theorem dX7_save_86 : decode cX7_save 86 = .ok (.aload_n 0, 1) := by decide +kernel
theorem dX7_save_87 : decode cX7_save 87 = .ok (.dup, 1) := by decide +kernel
theorem dX7_save_88 : decode cX7_save 88 = .ok (.getfield 56, 3) := by decide +kernel
theorem dX7_save_91 : decode cX7_save 91 = .ok (.iconst 1, 1) := by decide +kernel
theorem dX7_save_92 : decode cX7_save 92 = .ok (.iadd, 1) := by decide +kernel
theorem dX7_save_93 : decode cX7_save 93 = .ok (.putfield 56, 3) := by decide +kernel
theorem dX7_save_96 : decode cX7_save 96 = .ok (.return_, 1) := by decide +kernel
theorem dX7_undo_0 : decode cX7_undo 0 = .ok (.aload_n 0, 1) := by decide +kernel
theorem dX7_undo_1 : decode cX7_undo 1 = .ok (.iconst 0, 1) := by decide +kernel
theorem dX7_undo_2 : decode cX7_undo 2 = .ok (.putfield 48, 3) := by decide +kernel
theorem dX7_undo_5 : decode cX7_undo 5 = .ok (.aload_n 0, 1) := by decide +kernel
theorem dX7_undo_6 : decode cX7_undo 6 = .ok (.getfield 56, 3) := by decide +kernel
theorem dX7_undo_9 : decode cX7_undo 9 = .ok (.ifCond .ne 9, 3) := by decide +kernel
theorem dX7_undo_12 : decode cX7_undo 12 = .ok (.aload_n 0, 1) := by decide +kernel
theorem dX7_undo_13 : decode cX7_undo 13 = .ok (.iconst 1, 1) := by decide +kernel
theorem dX7_undo_14 : decode cX7_undo 14 = .ok (.invokevirtual 59, 3) := by decide +kernel
theorem dX7_undo_17 : decode cX7_undo 17 = .ok (.ireturn, 1) := by decide +kernel
theorem dX7_undo_18 : decode cX7_undo 18 = .ok (.aload_n 0, 1) := by decide +kernel
theorem dX7_undo_19 : decode cX7_undo 19 = .ok (.dup, 1) := by decide +kernel
theorem dX7_undo_20 : decode cX7_undo 20 = .ok (.getfield 56, 3) := by decide +kernel
theorem dX7_undo_23 : decode cX7_undo 23 = .ok (.iconst 1, 1) := by decide +kernel
theorem dX7_undo_24 : decode cX7_undo 24 = .ok (.isub, 1) := by decide +kernel
theorem dX7_undo_25 : decode cX7_undo 25 = .ok (.putfield 56, 3) := by decide +kernel
theorem dX7_undo_28 : decode cX7_undo 28 = .ok (.iconst 0, 1) := by decide +kernel
theorem dX7_undo_29 : decode cX7_undo 29 = .ok (.istore_n 1, 1) := by decide +kernel
theorem dX7_undo_30 : decode cX7_undo 30 = .ok (.iload_n 1, 1) := by decide +kernel
theorem dX7_undo_31 : decode cX7_undo 31 = .ok (.sipush 226, 3) := by decide +kernel
theorem dX7_undo_34 : decode cX7_undo 34 = .ok (.if_icmp .ge 30, 3) := by decide +kernel
theorem dX7_undo_37 : decode cX7_undo 37 = .ok (.aload_n 0, 1) := by decide +kernel
theorem dX7_undo_38 : decode cX7_undo 38 = .ok (.getfield 7, 3) := by decide +kernel
theorem dX7_undo_41 : decode cX7_undo 41 = .ok (.iload_n 1, 1) := by decide +kernel
theorem dX7_undo_42 : decode cX7_undo 42 = .ok (.aload_n 0, 1) := by decide +kernel
theorem dX7_undo_43 : decode cX7_undo 43 = .ok (.getfield 13, 3) := by decide +kernel
theorem dX7_undo_46 : decode cX7_undo 46 = .ok (.sipush 226, 3) := by decide +kernel
theorem dX7_undo_49 : decode cX7_undo 49 = .ok (.aload_n 0, 1) := by decide +kernel
theorem dX7_undo_50 : decode cX7_undo 50 = .ok (.getfield 56, 3) := by decide +kernel
theorem dX7_undo_53 : decode cX7_undo 53 = .ok (.imul, 1) := by decide +kernel
theorem dX7_undo_54 : decode cX7_undo 54 = .ok (.iload_n 1, 1) := by decide +kernel
theorem dX7_undo_55 : decode cX7_undo 55 = .ok (.iadd, 1) := by decide +kernel
theorem dX7_undo_56 : decode cX7_undo 56 = .ok (.iaload, 1) := by decide +kernel
theorem dX7_undo_57 : decode cX7_undo 57 = .ok (.iastore, 1) := by decide +kernel
theorem dX7_undo_58 : decode cX7_undo 58 = .ok (.iinc 1 1, 3) := by decide +kernel
theorem dX7_undo_61 : decode cX7_undo 61 = .ok (.goto (-31), 3) := by decide +kernel
theorem dX7_undo_64 : decode cX7_undo 64 = .ok (.aload_n 0, 1) := by decide +kernel
theorem dX7_undo_65 : decode cX7_undo 65 = .ok (.getfield 56, 3) := by decide +kernel
theorem dX7_undo_68 : decode cX7_undo 68 = .ok (.ireturn, 1) := by decide +kernel
theorem dX7_keep_0 : decode cX7_keep 0 = .ok (.aload_n 0, 1) := by decide +kernel
theorem dX7_keep_1 : decode cX7_keep 1 = .ok (.iconst 0, 1) := by decide +kernel
theorem dX7_keep_2 : decode cX7_keep 2 = .ok (.putfield 48, 3) := by decide +kernel
theorem dX7_keep_5 : decode cX7_keep 5 = .ok (.iload_n 1, 1) := by decide +kernel
theorem dX7_keep_6 : decode cX7_keep 6 = .ok (.iconst 0, 1) := by decide +kernel
theorem dX7_keep_7 : decode cX7_keep 7 = .ok (.iconst 1, 1) := by decide +kernel
theorem dX7_keep_8 : decode cX7_keep 8 = .ok (.invokestatic 52, 3) := by decide +kernel
theorem dX7_keep_11 : decode cX7_keep 11 = .ok (.ifCond .ne 9, 3) := by decide +kernel
theorem dX7_keep_14 : decode cX7_keep 14 = .ok (.aload_n 0, 1) := by decide +kernel
theorem dX7_keep_15 : decode cX7_keep 15 = .ok (.iconst 1, 1) := by decide +kernel
theorem dX7_keep_16 : decode cX7_keep 16 = .ok (.invokevirtual 59, 3) := by decide +kernel
theorem dX7_keep_19 : decode cX7_keep 19 = .ok (.ireturn, 1) := by decide +kernel
theorem dX7_keep_20 : decode cX7_keep 20 = .ok (.iconst 0, 1) := by decide +kernel
theorem dX7_keep_21 : decode cX7_keep 21 = .ok (.istore_n 2, 1) := by decide +kernel
theorem dX7_keep_22 : decode cX7_keep 22 = .ok (.iload_n 2, 1) := by decide +kernel
theorem dX7_keep_23 : decode cX7_keep 23 = .ok (.sipush 226, 3) := by decide +kernel
theorem dX7_keep_26 : decode cX7_keep 26 = .ok (.if_icmp .ge 27, 3) := by decide +kernel
theorem dX7_keep_29 : decode cX7_keep 29 = .ok (.aload_n 0, 1) := by decide +kernel
theorem dX7_keep_30 : decode cX7_keep 30 = .ok (.getfield 16, 3) := by decide +kernel
theorem dX7_keep_33 : decode cX7_keep 33 = .ok (.sipush 226, 3) := by decide +kernel
theorem dX7_keep_36 : decode cX7_keep 36 = .ok (.iload_n 1, 1) := by decide +kernel
theorem dX7_keep_37 : decode cX7_keep 37 = .ok (.imul, 1) := by decide +kernel
theorem dX7_keep_38 : decode cX7_keep 38 = .ok (.iload_n 2, 1) := by decide +kernel
theorem dX7_keep_39 : decode cX7_keep 39 = .ok (.iadd, 1) := by decide +kernel
theorem dX7_keep_40 : decode cX7_keep 40 = .ok (.aload_n 0, 1) := by decide +kernel
theorem dX7_keep_41 : decode cX7_keep 41 = .ok (.getfield 7, 3) := by decide +kernel
theorem dX7_keep_44 : decode cX7_keep 44 = .ok (.iload_n 2, 1) := by decide +kernel
theorem dX7_keep_45 : decode cX7_keep 45 = .ok (.iaload, 1) := by decide +kernel
theorem dX7_keep_46 : decode cX7_keep 46 = .ok (.iastore, 1) := by decide +kernel
theorem dX7_keep_47 : decode cX7_keep 47 = .ok (.iinc 2 1, 3) := by decide +kernel
theorem dX7_keep_50 : decode cX7_keep 50 = .ok (.goto (-28), 3) := by decide +kernel
theorem dX7_keep_53 : decode cX7_keep 53 = .ok (.aload_n 0, 1) := by decide +kernel
theorem dX7_keep_54 : decode cX7_keep 54 = .ok (.getfield 19, 3) := by decide +kernel
theorem dX7_keep_57 : decode cX7_keep 57 = .ok (.iload_n 1, 1) := by decide +kernel
theorem dX7_keep_58 : decode cX7_keep 58 = .ok (.iconst 1, 1) := by decide +kernel
theorem dX7_keep_59 : decode cX7_keep 59 = .ok (.bastore, 1) := by decide +kernel
theorem dX7_keep_60 : decode cX7_keep 60 = .ok (.aload_n 0, 1) := by decide +kernel
theorem dX7_keep_61 : decode cX7_keep 61 = .ok (.getfield 7, 3) := by decide +kernel
theorem dX7_keep_64 : decode cX7_keep 64 = .ok (.iconst 0, 1) := by decide +kernel
theorem dX7_keep_65 : decode cX7_keep 65 = .ok (.iaload, 1) := by decide +kernel
theorem dX7_keep_66 : decode cX7_keep 66 = .ok (.ireturn, 1) := by decide +kernel
theorem dX7_goBack_0 : decode cX7_goBack 0 = .ok (.aload_n 0, 1) := by decide +kernel
theorem dX7_goBack_1 : decode cX7_goBack 1 = .ok (.iconst 0, 1) := by decide +kernel
theorem dX7_goBack_2 : decode cX7_goBack 2 = .ok (.putfield 48, 3) := by decide +kernel
theorem dX7_goBack_5 : decode cX7_goBack 5 = .ok (.iload_n 1, 1) := by decide +kernel
theorem dX7_goBack_6 : decode cX7_goBack 6 = .ok (.iconst 0, 1) := by decide +kernel
theorem dX7_goBack_7 : decode cX7_goBack 7 = .ok (.iconst 1, 1) := by decide +kernel
theorem dX7_goBack_8 : decode cX7_goBack 8 = .ok (.invokestatic 52, 3) := by decide +kernel
theorem dX7_goBack_11 : decode cX7_goBack 11 = .ok (.ifCond .ne 9, 3) := by decide +kernel
theorem dX7_goBack_14 : decode cX7_goBack 14 = .ok (.aload_n 0, 1) := by decide +kernel
theorem dX7_goBack_15 : decode cX7_goBack 15 = .ok (.iconst 1, 1) := by decide +kernel
theorem dX7_goBack_16 : decode cX7_goBack 16 = .ok (.invokevirtual 59, 3) := by decide +kernel
theorem dX7_goBack_19 : decode cX7_goBack 19 = .ok (.ireturn, 1) := by decide +kernel
theorem dX7_goBack_20 : decode cX7_goBack 20 = .ok (.aload_n 0, 1) := by decide +kernel
theorem dX7_goBack_21 : decode cX7_goBack 21 = .ok (.getfield 19, 3) := by decide +kernel
theorem dX7_goBack_24 : decode cX7_goBack 24 = .ok (.iload_n 1, 1) := by decide +kernel
theorem dX7_goBack_25 : decode cX7_goBack 25 = .ok (.baload, 1) := by decide +kernel
theorem dX7_goBack_26 : decode cX7_goBack 26 = .ok (.ifCond .ne 9, 3) := by decide +kernel
theorem dX7_goBack_29 : decode cX7_goBack 29 = .ok (.aload_n 0, 1) := by decide +kernel
theorem dX7_goBack_30 : decode cX7_goBack 30 = .ok (.iconst 2, 1) := by decide +kernel
theorem dX7_goBack_31 : decode cX7_goBack 31 = .ok (.invokevirtual 59, 3) := by decide +kernel
theorem dX7_goBack_34 : decode cX7_goBack 34 = .ok (.ireturn, 1) := by decide +kernel
theorem dX7_goBack_35 : decode cX7_goBack 35 = .ok (.aload_n 0, 1) := by decide +kernel
theorem dX7_goBack_36 : decode cX7_goBack 36 = .ok (.invokevirtual 63, 3) := by decide +kernel
theorem dX7_goBack_39 : decode cX7_goBack 39 = .ok (.iconst 0, 1) := by decide +kernel
theorem dX7_goBack_40 : decode cX7_goBack 40 = .ok (.istore_n 2, 1) := by decide +kernel
theorem dX7_goBack_41 : decode cX7_goBack 41 = .ok (.iload_n 2, 1) := by decide +kernel
theorem dX7_goBack_42 : decode cX7_goBack 42 = .ok (.sipush 226, 3) := by decide +kernel
theorem dX7_goBack_45 : decode cX7_goBack 45 = .ok (.if_icmp .ge 27, 3) := by decide +kernel
theorem dX7_goBack_48 : decode cX7_goBack 48 = .ok (.aload_n 0, 1) := by decide +kernel
theorem dX7_goBack_49 : decode cX7_goBack 49 = .ok (.getfield 7, 3) := by decide +kernel
theorem dX7_goBack_52 : decode cX7_goBack 52 = .ok (.iload_n 2, 1) := by decide +kernel
theorem dX7_goBack_53 : decode cX7_goBack 53 = .ok (.aload_n 0, 1) := by decide +kernel
theorem dX7_goBack_54 : decode cX7_goBack 54 = .ok (.getfield 16, 3) := by decide +kernel
theorem dX7_goBack_57 : decode cX7_goBack 57 = .ok (.sipush 226, 3) := by decide +kernel
theorem dX7_goBack_60 : decode cX7_goBack 60 = .ok (.iload_n 1, 1) := by decide +kernel
theorem dX7_goBack_61 : decode cX7_goBack 61 = .ok (.imul, 1) := by decide +kernel
theorem dX7_goBack_62 : decode cX7_goBack 62 = .ok (.iload_n 2, 1) := by decide +kernel
theorem dX7_goBack_63 : decode cX7_goBack 63 = .ok (.iadd, 1) := by decide +kernel
theorem dX7_goBack_64 : decode cX7_goBack 64 = .ok (.iaload, 1) := by decide +kernel
theorem dX7_goBack_65 : decode cX7_goBack 65 = .ok (.iastore, 1) := by decide +kernel
theorem dX7_goBack_66 : decode cX7_goBack 66 = .ok (.iinc 2 1, 3) := by decide +kernel
theorem dX7_goBack_69 : decode cX7_goBack 69 = .ok (.goto (-28), 3) := by decide +kernel
theorem dX7_goBack_72 : decode cX7_goBack 72 = .ok (.aload_n 0, 1) := by decide +kernel
theorem dX7_goBack_73 : decode cX7_goBack 73 = .ok (.getfield 7, 3) := by decide +kernel
theorem dX7_goBack_76 : decode cX7_goBack 76 = .ok (.iconst 0, 1) := by decide +kernel
theorem dX7_goBack_77 : decode cX7_goBack 77 = .ok (.iaload, 1) := by decide +kernel
theorem dX7_goBack_78 : decode cX7_goBack 78 = .ok (.ireturn, 1) := by decide +kernel
theorem dX7_mendedBy_0 : decode cX7_mendedBy 0 = .ok (.aload_n 0, 1) := by decide +kernel
theorem dX7_mendedBy_1 : decode cX7_mendedBy 1 = .ok (.iload_n 1, 1) := by decide +kernel
theorem dX7_mendedBy_2 : decode cX7_mendedBy 2 = .ok (.bipush 7, 2) := by decide +kernel
theorem dX7_mendedBy_4 : decode cX7_mendedBy 4 = .ok (.invokevirtual 66, 3) := by decide +kernel
theorem dX7_mendedBy_7 : decode cX7_mendedBy 7 = .ok (.ifCond .ne 6, 3) := by decide +kernel
theorem dX7_mendedBy_10 : decode cX7_mendedBy 10 = .ok (.ldc 47, 2) := by decide +kernel
theorem dX7_mendedBy_12 : decode cX7_mendedBy 12 = .ok (.ireturn, 1) := by decide +kernel
theorem dX7_mendedBy_13 : decode cX7_mendedBy 13 = .ok (.aload_n 0, 1) := by decide +kernel
theorem dX7_mendedBy_14 : decode cX7_mendedBy 14 = .ok (.iload_n 1, 1) := by decide +kernel
theorem dX7_mendedBy_15 : decode cX7_mendedBy 15 = .ok (.bipush 10, 2) := by decide +kernel
theorem dX7_mendedBy_17 : decode cX7_mendedBy 17 = .ok (.invokevirtual 66, 3) := by decide +kernel
theorem dX7_mendedBy_20 : decode cX7_mendedBy 20 = .ok (.istore_n 3, 1) := by decide +kernel
theorem dX7_mendedBy_21 : decode cX7_mendedBy 21 = .ok (.aload_n 0, 1) := by decide +kernel
theorem dX7_mendedBy_22 : decode cX7_mendedBy 22 = .ok (.iload_n 1, 1) := by decide +kernel
theorem dX7_mendedBy_23 : decode cX7_mendedBy 23 = .ok (.bipush 7, 2) := by decide +kernel
theorem dX7_mendedBy_25 : decode cX7_mendedBy 25 = .ok (.invokevirtual 66, 3) := by decide +kernel
theorem dX7_mendedBy_28 : decode cX7_mendedBy 28 = .ok (.iconst 1, 1) := by decide +kernel
theorem dX7_mendedBy_29 : decode cX7_mendedBy 29 = .ok (.if_icmp .le 39, 3) := by decide +kernel
theorem dX7_mendedBy_32 : decode cX7_mendedBy 32 = .ok (.aload_n 0, 1) := by decide +kernel
theorem dX7_mendedBy_33 : decode cX7_mendedBy 33 = .ok (.iload_n 1, 1) := by decide +kernel
theorem dX7_mendedBy_34 : decode cX7_mendedBy 34 = .ok (.bipush 9, 2) := by decide +kernel
theorem dX7_mendedBy_36 : decode cX7_mendedBy 36 = .ok (.invokevirtual 66, 3) := by decide +kernel
theorem dX7_mendedBy_39 : decode cX7_mendedBy 39 = .ok (.aload_n 0, 1) := by decide +kernel
theorem dX7_mendedBy_40 : decode cX7_mendedBy 40 = .ok (.iload_n 1, 1) := by decide +kernel
theorem dX7_mendedBy_41 : decode cX7_mendedBy 41 = .ok (.bipush 11, 2) := by decide +kernel
theorem dX7_mendedBy_43 : decode cX7_mendedBy 43 = .ok (.invokevirtual 66, 3) := by decide +kernel
theorem dX7_mendedBy_46 : decode cX7_mendedBy 46 = .ok (.isub, 1) := by decide +kernel
theorem dX7_mendedBy_47 : decode cX7_mendedBy 47 = .ok (.istore 4, 2) := by decide +kernel
theorem dX7_mendedBy_49 : decode cX7_mendedBy 49 = .ok (.iload_n 3, 1) := by decide +kernel
theorem dX7_mendedBy_50 : decode cX7_mendedBy 50 = .ok (.iload_n 3, 1) := by decide +kernel
theorem dX7_mendedBy_51 : decode cX7_mendedBy 51 = .ok (.aload_n 0, 1) := by decide +kernel
theorem dX7_mendedBy_52 : decode cX7_mendedBy 52 = .ok (.iload_n 1, 1) := by decide +kernel
theorem dX7_mendedBy_53 : decode cX7_mendedBy 53 = .ok (.bipush 12, 2) := by decide +kernel
theorem dX7_mendedBy_55 : decode cX7_mendedBy 55 = .ok (.invokevirtual 66, 3) := by decide +kernel
theorem dX7_mendedBy_58 : decode cX7_mendedBy 58 = .ok (.isub, 1) := by decide +kernel
theorem dX7_mendedBy_59 : decode cX7_mendedBy 59 = .ok (.iload_n 2, 1) := by decide +kernel
theorem dX7_mendedBy_60 : decode cX7_mendedBy 60 = .ok (.iconst 1, 1) := by decide +kernel
theorem dX7_mendedBy_61 : decode cX7_mendedBy 61 = .ok (.isub, 1) := by decide +kernel
theorem dX7_mendedBy_62 : decode cX7_mendedBy 62 = .ok (.imul, 1) := by decide +kernel
theorem dX7_mendedBy_63 : decode cX7_mendedBy 63 = .ok (.iload 4, 2) := by decide +kernel
theorem dX7_mendedBy_65 : decode cX7_mendedBy 65 = .ok (.idiv, 1) := by decide +kernel
theorem dX7_mendedBy_66 : decode cX7_mendedBy 66 = .ok (.iadd, 1) := by decide +kernel
theorem dX7_mendedBy_67 : decode cX7_mendedBy 67 = .ok (.istore_n 3, 1) := by decide +kernel
theorem dX7_mendedBy_68 : decode cX7_mendedBy 68 = .ok (.iload_n 3, 1) := by decide +kernel
theorem dX7_mendedBy_69 : decode cX7_mendedBy 69 = .ok (.aload_n 0, 1) := by decide +kernel
theorem dX7_mendedBy_70 : decode cX7_mendedBy 70 = .ok (.iload_n 1, 1) := by decide +kernel
theorem dX7_mendedBy_71 : decode cX7_mendedBy 71 = .ok (.iconst 2, 1) := by decide +kernel
theorem dX7_mendedBy_72 : decode cX7_mendedBy 72 = .ok (.invokevirtual 66, 3) := by decide +kernel
theorem dX7_mendedBy_75 : decode cX7_mendedBy 75 = .ok (.isub, 1) := by decide +kernel
theorem dX7_mendedBy_76 : decode cX7_mendedBy 76 = .ok (.ireturn, 1) := by decide +kernel
theorem dX7_mended_0 : decode cX7_mended 0 = .ok (.aload_n 0, 1) := by decide +kernel
theorem dX7_mended_1 : decode cX7_mended 1 = .ok (.iload_n 1, 1) := by decide +kernel
theorem dX7_mended_2 : decode cX7_mended 2 = .ok (.aload_n 0, 1) := by decide +kernel
theorem dX7_mended_3 : decode cX7_mended 3 = .ok (.iload_n 1, 1) := by decide +kernel
theorem dX7_mended_4 : decode cX7_mended 4 = .ok (.iconst 1, 1) := by decide +kernel
theorem dX7_mended_5 : decode cX7_mended 5 = .ok (.invokevirtual 66, 3) := by decide +kernel
theorem dX7_mended_8 : decode cX7_mended 8 = .ok (.invokevirtual 70, 3) := by decide +kernel
theorem dX7_mended_11 : decode cX7_mended 11 = .ok (.ireturn, 1) := by decide +kernel
theorem dX7_isAsked_0 : decode cX7_isAsked 0 = .ok (.aload_n 0, 1) := by decide +kernel
theorem dX7_isAsked_1 : decode cX7_isAsked 1 = .ok (.iload_n 1, 1) := by decide +kernel
theorem dX7_isAsked_2 : decode cX7_isAsked 2 = .ok (.bipush 7, 2) := by decide +kernel
theorem dX7_isAsked_4 : decode cX7_isAsked 4 = .ok (.invokevirtual 66, 3) := by decide +kernel
theorem dX7_isAsked_7 : decode cX7_isAsked 7 = .ok (.ifCond .le 17, 3) := by decide +kernel
theorem dX7_isAsked_10 : decode cX7_isAsked 10 = .ok (.aload_n 0, 1) := by decide +kernel
theorem dX7_isAsked_11 : decode cX7_isAsked 11 = .ok (.iload_n 1, 1) := by decide +kernel
theorem dX7_isAsked_12 : decode cX7_isAsked 12 = .ok (.bipush 6, 2) := by decide +kernel
theorem dX7_isAsked_14 : decode cX7_isAsked 14 = .ok (.invokevirtual 66, 3) := by decide +kernel
theorem dX7_isAsked_17 : decode cX7_isAsked 17 = .ok (.ifCond .ne 7, 3) := by decide +kernel
theorem dX7_isAsked_20 : decode cX7_isAsked 20 = .ok (.iconst 1, 1) := by decide +kernel
theorem dX7_isAsked_21 : decode cX7_isAsked 21 = .ok (.goto 4, 3) := by decide +kernel
theorem dX7_isAsked_24 : decode cX7_isAsked 24 = .ok (.iconst 0, 1) := by decide +kernel
theorem dX7_isAsked_25 : decode cX7_isAsked 25 = .ok (.ireturn, 1) := by decide +kernel
theorem dX7_sortIn_0 : decode cX7_sortIn 0 = .ok (.aload_n 0, 1) := by decide +kernel
theorem dX7_sortIn_1 : decode cX7_sortIn 1 = .ok (.getfield 73, 3) := by decide +kernel
theorem dX7_sortIn_4 : decode cX7_sortIn 4 = .ok (.istore_n 2, 1) := by decide +kernel
theorem dX7_sortIn_5 : decode cX7_sortIn 5 = .ok (.iload_n 2, 1) := by decide +kernel
theorem dX7_sortIn_6 : decode cX7_sortIn 6 = .ok (.ifCond .le 35, 3) := by decide +kernel
theorem dX7_sortIn_9 : decode cX7_sortIn 9 = .ok (.aload_n 0, 1) := by decide +kernel
theorem dX7_sortIn_10 : decode cX7_sortIn 10 = .ok (.getfield 26, 3) := by decide +kernel
theorem dX7_sortIn_13 : decode cX7_sortIn 13 = .ok (.iload_n 2, 1) := by decide +kernel
theorem dX7_sortIn_14 : decode cX7_sortIn 14 = .ok (.iconst 1, 1) := by decide +kernel
theorem dX7_sortIn_15 : decode cX7_sortIn 15 = .ok (.isub, 1) := by decide +kernel
theorem dX7_sortIn_16 : decode cX7_sortIn 16 = .ok (.iaload, 1) := by decide +kernel
theorem dX7_sortIn_17 : decode cX7_sortIn 17 = .ok (.iload_n 1, 1) := by decide +kernel
theorem dX7_sortIn_18 : decode cX7_sortIn 18 = .ok (.if_icmp .le 23, 3) := by decide +kernel
theorem dX7_sortIn_21 : decode cX7_sortIn 21 = .ok (.aload_n 0, 1) := by decide +kernel
theorem dX7_sortIn_22 : decode cX7_sortIn 22 = .ok (.getfield 26, 3) := by decide +kernel
theorem dX7_sortIn_25 : decode cX7_sortIn 25 = .ok (.iload_n 2, 1) := by decide +kernel
theorem dX7_sortIn_26 : decode cX7_sortIn 26 = .ok (.aload_n 0, 1) := by decide +kernel
theorem dX7_sortIn_27 : decode cX7_sortIn 27 = .ok (.getfield 26, 3) := by decide +kernel
theorem dX7_sortIn_30 : decode cX7_sortIn 30 = .ok (.iload_n 2, 1) := by decide +kernel
theorem dX7_sortIn_31 : decode cX7_sortIn 31 = .ok (.iconst 1, 1) := by decide +kernel
theorem dX7_sortIn_32 : decode cX7_sortIn 32 = .ok (.isub, 1) := by decide +kernel
theorem dX7_sortIn_33 : decode cX7_sortIn 33 = .ok (.iaload, 1) := by decide +kernel
theorem dX7_sortIn_34 : decode cX7_sortIn 34 = .ok (.iastore, 1) := by decide +kernel
theorem dX7_sortIn_35 : decode cX7_sortIn 35 = .ok (.iinc 2 (-1), 3) := by decide +kernel
theorem dX7_sortIn_38 : decode cX7_sortIn 38 = .ok (.goto (-33), 3) := by decide +kernel
theorem dX7_sortIn_41 : decode cX7_sortIn 41 = .ok (.aload_n 0, 1) := by decide +kernel
theorem dX7_sortIn_42 : decode cX7_sortIn 42 = .ok (.getfield 26, 3) := by decide +kernel
theorem dX7_sortIn_45 : decode cX7_sortIn 45 = .ok (.iload_n 2, 1) := by decide +kernel
theorem dX7_sortIn_46 : decode cX7_sortIn 46 = .ok (.iload_n 1, 1) := by decide +kernel
theorem dX7_sortIn_47 : decode cX7_sortIn 47 = .ok (.iastore, 1) := by decide +kernel
theorem dX7_sortIn_48 : decode cX7_sortIn 48 = .ok (.aload_n 0, 1) := by decide +kernel
theorem dX7_sortIn_49 : decode cX7_sortIn 49 = .ok (.dup, 1) := by decide +kernel
theorem dX7_sortIn_50 : decode cX7_sortIn 50 = .ok (.getfield 73, 3) := by decide +kernel
theorem dX7_sortIn_53 : decode cX7_sortIn 53 = .ok (.iconst 1, 1) := by decide +kernel
theorem dX7_sortIn_54 : decode cX7_sortIn 54 = .ok (.iadd, 1) := by decide +kernel
theorem dX7_sortIn_55 : decode cX7_sortIn 55 = .ok (.putfield 73, 3) := by decide +kernel
theorem dX7_sortIn_58 : decode cX7_sortIn 58 = .ok (.return_, 1) := by decide +kernel
theorem dX7_middleWithout_0 : decode cX7_middleWithout 0 = .ok (.aload_n 0, 1) := by decide +kernel
theorem dX7_middleWithout_1 : decode cX7_middleWithout 1 = .ok (.iconst 0, 1) := by decide +kernel
theorem dX7_middleWithout_2 : decode cX7_middleWithout 2 = .ok (.putfield 73, 3) := by decide +kernel
theorem dX7_middleWithout_5 : decode cX7_middleWithout 5 = .ok (.iconst 0, 1) := by decide +kernel
theorem dX7_middleWithout_6 : decode cX7_middleWithout 6 = .ok (.istore_n 2, 1) := by decide +kernel
theorem dX7_middleWithout_7 : decode cX7_middleWithout 7 = .ok (.iload_n 2, 1) := by decide +kernel
theorem dX7_middleWithout_8 : decode cX7_middleWithout 8 = .ok (.aload_n 0, 1) := by decide +kernel
theorem dX7_middleWithout_9 : decode cX7_middleWithout 9 = .ok (.getfield 7, 3) := by decide +kernel
theorem dX7_middleWithout_12 : decode cX7_middleWithout 12 = .ok (.bipush 15, 2) := by decide +kernel
theorem dX7_middleWithout_14 : decode cX7_middleWithout 14 = .ok (.iaload, 1) := by decide +kernel
theorem dX7_middleWithout_15 : decode cX7_middleWithout 15 = .ok (.if_icmp .ge 31, 3) := by decide +kernel
theorem dX7_middleWithout_18 : decode cX7_middleWithout 18 = .ok (.iload_n 2, 1) := by decide +kernel
theorem dX7_middleWithout_19 : decode cX7_middleWithout 19 = .ok (.iload_n 1, 1) := by decide +kernel
theorem dX7_middleWithout_20 : decode cX7_middleWithout 20 = .ok (.if_icmp .eq 20, 3) := by decide +kernel
theorem dX7_middleWithout_23 : decode cX7_middleWithout 23 = .ok (.aload_n 0, 1) := by decide +kernel
theorem dX7_middleWithout_24 : decode cX7_middleWithout 24 = .ok (.iload_n 2, 1) := by decide +kernel
theorem dX7_middleWithout_25 : decode cX7_middleWithout 25 = .ok (.invokevirtual 76, 3) := by decide +kernel
theorem dX7_middleWithout_28 : decode cX7_middleWithout 28 = .ok (.ifCond .eq 12, 3) := by decide +kernel
theorem dX7_middleWithout_31 : decode cX7_middleWithout 31 = .ok (.aload_n 0, 1) := by decide +kernel
theorem dX7_middleWithout_32 : decode cX7_middleWithout 32 = .ok (.aload_n 0, 1) := by decide +kernel
theorem dX7_middleWithout_33 : decode cX7_middleWithout 33 = .ok (.iload_n 2, 1) := by decide +kernel
theorem dX7_middleWithout_34 : decode cX7_middleWithout 34 = .ok (.invokevirtual 80, 3) := by decide +kernel
theorem dX7_middleWithout_37 : decode cX7_middleWithout 37 = .ok (.invokevirtual 83, 3) := by decide +kernel
theorem dX7_middleWithout_40 : decode cX7_middleWithout 40 = .ok (.iinc 2 1, 3) := by decide +kernel
theorem dX7_middleWithout_43 : decode cX7_middleWithout 43 = .ok (.goto (-36), 3) := by decide +kernel
theorem dX7_middleWithout_46 : decode cX7_middleWithout 46 = .ok (.aload_n 0, 1) := by decide +kernel
theorem dX7_middleWithout_47 : decode cX7_middleWithout 47 = .ok (.getfield 73, 3) := by decide +kernel
theorem dX7_middleWithout_50 : decode cX7_middleWithout 50 = .ok (.ifCond .ne 8, 3) := by decide +kernel
theorem dX7_middleWithout_53 : decode cX7_middleWithout 53 = .ok (.ldc 47, 2) := by decide +kernel
theorem dX7_middleWithout_55 : decode cX7_middleWithout 55 = .ok (.goto 16, 3) := by decide +kernel
theorem dX7_middleWithout_58 : decode cX7_middleWithout 58 = .ok (.aload_n 0, 1) := by decide +kernel
theorem dX7_middleWithout_59 : decode cX7_middleWithout 59 = .ok (.getfield 26, 3) := by decide +kernel
theorem dX7_middleWithout_62 : decode cX7_middleWithout 62 = .ok (.aload_n 0, 1) := by decide +kernel
theorem dX7_middleWithout_63 : decode cX7_middleWithout 63 = .ok (.getfield 73, 3) := by decide +kernel
theorem dX7_middleWithout_66 : decode cX7_middleWithout 66 = .ok (.iconst 1, 1) := by decide +kernel
theorem dX7_middleWithout_67 : decode cX7_middleWithout 67 = .ok (.isub, 1) := by decide +kernel
theorem dX7_middleWithout_68 : decode cX7_middleWithout 68 = .ok (.iconst 2, 1) := by decide +kernel
theorem dX7_middleWithout_69 : decode cX7_middleWithout 69 = .ok (.idiv, 1) := by decide +kernel
theorem dX7_middleWithout_70 : decode cX7_middleWithout 70 = .ok (.iaload, 1) := by decide +kernel
theorem dX7_middleWithout_71 : decode cX7_middleWithout 71 = .ok (.ireturn, 1) := by decide +kernel
theorem dX7_mean_0 : decode cX7_mean 0 = .ok (.iconst 0, 1) := by decide +kernel
theorem dX7_mean_1 : decode cX7_mean 1 = .ok (.istore_n 1, 1) := by decide +kernel
theorem dX7_mean_2 : decode cX7_mean 2 = .ok (.iconst 0, 1) := by decide +kernel
theorem dX7_mean_3 : decode cX7_mean 3 = .ok (.istore_n 2, 1) := by decide +kernel
theorem dX7_mean_4 : decode cX7_mean 4 = .ok (.iconst 0, 1) := by decide +kernel
theorem dX7_mean_5 : decode cX7_mean 5 = .ok (.istore_n 3, 1) := by decide +kernel
theorem dX7_mean_6 : decode cX7_mean 6 = .ok (.iload_n 3, 1) := by decide +kernel
theorem dX7_mean_7 : decode cX7_mean 7 = .ok (.aload_n 0, 1) := by decide +kernel
theorem dX7_mean_8 : decode cX7_mean 8 = .ok (.getfield 7, 3) := by decide +kernel
theorem dX7_mean_11 : decode cX7_mean 11 = .ok (.bipush 15, 2) := by decide +kernel
theorem dX7_mean_13 : decode cX7_mean 13 = .ok (.iaload, 1) := by decide +kernel
theorem dX7_mean_14 : decode cX7_mean 14 = .ok (.if_icmp .ge 41, 3) := by decide +kernel
theorem dX7_mean_17 : decode cX7_mean 17 = .ok (.aload_n 0, 1) := by decide +kernel
theorem dX7_mean_18 : decode cX7_mean 18 = .ok (.iload_n 3, 1) := by decide +kernel
theorem dX7_mean_19 : decode cX7_mean 19 = .ok (.invokevirtual 76, 3) := by decide +kernel
theorem dX7_mean_22 : decode cX7_mean 22 = .ok (.ifCond .eq 27, 3) := by decide +kernel
theorem dX7_mean_25 : decode cX7_mean 25 = .ok (.iload_n 1, 1) := by decide +kernel
theorem dX7_mean_26 : decode cX7_mean 26 = .ok (.aload_n 0, 1) := by decide +kernel
theorem dX7_mean_27 : decode cX7_mean 27 = .ok (.iload_n 3, 1) := by decide +kernel
theorem dX7_mean_28 : decode cX7_mean 28 = .ok (.invokevirtual 80, 3) := by decide +kernel
theorem dX7_mean_31 : decode cX7_mean 31 = .ok (.aload_n 0, 1) := by decide +kernel
theorem dX7_mean_32 : decode cX7_mean 32 = .ok (.iload_n 3, 1) := by decide +kernel
theorem dX7_mean_33 : decode cX7_mean 33 = .ok (.iconst 3, 1) := by decide +kernel
theorem dX7_mean_34 : decode cX7_mean 34 = .ok (.invokevirtual 66, 3) := by decide +kernel
theorem dX7_mean_37 : decode cX7_mean 37 = .ok (.imul, 1) := by decide +kernel
theorem dX7_mean_38 : decode cX7_mean 38 = .ok (.iadd, 1) := by decide +kernel
theorem dX7_mean_39 : decode cX7_mean 39 = .ok (.istore_n 1, 1) := by decide +kernel
theorem dX7_mean_40 : decode cX7_mean 40 = .ok (.iload_n 2, 1) := by decide +kernel
theorem dX7_mean_41 : decode cX7_mean 41 = .ok (.aload_n 0, 1) := by decide +kernel
theorem dX7_mean_42 : decode cX7_mean 42 = .ok (.iload_n 3, 1) := by decide +kernel
theorem dX7_mean_43 : decode cX7_mean 43 = .ok (.iconst 3, 1) := by decide +kernel
theorem dX7_mean_44 : decode cX7_mean 44 = .ok (.invokevirtual 66, 3) := by decide +kernel
theorem dX7_mean_47 : decode cX7_mean 47 = .ok (.iadd, 1) := by decide +kernel
theorem dX7_mean_48 : decode cX7_mean 48 = .ok (.istore_n 2, 1) := by decide +kernel
theorem dX7_mean_49 : decode cX7_mean 49 = .ok (.iinc 3 1, 3) := by decide +kernel
theorem dX7_mean_52 : decode cX7_mean 52 = .ok (.goto (-46), 3) := by decide +kernel
theorem dX7_mean_55 : decode cX7_mean 55 = .ok (.iload_n 2, 1) := by decide +kernel
theorem dX7_mean_56 : decode cX7_mean 56 = .ok (.ifCond .ne 8, 3) := by decide +kernel
theorem dX7_mean_59 : decode cX7_mean 59 = .ok (.ldc 47, 2) := by decide +kernel
theorem dX7_mean_61 : decode cX7_mean 61 = .ok (.goto 6, 3) := by decide +kernel
theorem dX7_mean_64 : decode cX7_mean 64 = .ok (.iload_n 1, 1) := by decide +kernel
theorem dX7_mean_65 : decode cX7_mean 65 = .ok (.iload_n 2, 1) := by decide +kernel
theorem dX7_mean_66 : decode cX7_mean 66 = .ok (.idiv, 1) := by decide +kernel
theorem dX7_mean_67 : decode cX7_mean 67 = .ok (.ireturn, 1) := by decide +kernel
theorem dX7_slope_0 : decode cX7_slope 0 = .ok (.aload_n 0, 1) := by decide +kernel
theorem dX7_slope_1 : decode cX7_slope 1 = .ok (.invokevirtual 87, 3) := by decide +kernel
theorem dX7_slope_4 : decode cX7_slope 4 = .ok (.istore_n 1, 1) := by decide +kernel
theorem dX7_slope_5 : decode cX7_slope 5 = .ok (.iload_n 1, 1) := by decide +kernel
theorem dX7_slope_6 : decode cX7_slope 6 = .ok (.ldc 47, 2) := by decide +kernel
theorem dX7_slope_8 : decode cX7_slope 8 = .ok (.if_icmp .eq 15, 3) := by decide +kernel
theorem dX7_slope_11 : decode cX7_slope 11 = .ok (.aload_n 0, 1) := by decide +kernel
theorem dX7_slope_12 : decode cX7_slope 12 = .ok (.getfield 7, 3) := by decide +kernel
theorem dX7_slope_15 : decode cX7_slope 15 = .ok (.bipush 14, 2) := by decide +kernel
theorem dX7_slope_17 : decode cX7_slope 17 = .ok (.iaload, 1) := by decide +kernel
theorem dX7_slope_18 : decode cX7_slope 18 = .ok (.ldc 47, 2) := by decide +kernel
theorem dX7_slope_20 : decode cX7_slope 20 = .ok (.if_icmp .ne 8, 3) := by decide +kernel
theorem dX7_slope_23 : decode cX7_slope 23 = .ok (.ldc 47, 2) := by decide +kernel
theorem dX7_slope_25 : decode cX7_slope 25 = .ok (.goto 12, 3) := by decide +kernel
theorem dX7_slope_28 : decode cX7_slope 28 = .ok (.iload_n 1, 1) := by decide +kernel
theorem dX7_slope_29 : decode cX7_slope 29 = .ok (.aload_n 0, 1) := by decide +kernel
theorem dX7_slope_30 : decode cX7_slope 30 = .ok (.getfield 7, 3) := by decide +kernel
theorem dX7_slope_33 : decode cX7_slope 33 = .ok (.bipush 14, 2) := by decide +kernel
theorem dX7_slope_35 : decode cX7_slope 35 = .ok (.iaload, 1) := by decide +kernel
theorem dX7_slope_36 : decode cX7_slope 36 = .ok (.isub, 1) := by decide +kernel
theorem dX7_slope_37 : decode cX7_slope 37 = .ok (.ireturn, 1) := by decide +kernel
theorem dX7_follow_0 : decode cX7_follow 0 = .ok (.aload_n 0, 1) := by decide +kernel
theorem dX7_follow_1 : decode cX7_follow 1 = .ok (.iload_n 1, 1) := by decide +kernel
theorem dX7_follow_2 : decode cX7_follow 2 = .ok (.iconst 4, 1) := by decide +kernel
theorem dX7_follow_3 : decode cX7_follow 3 = .ok (.aload_n 0, 1) := by decide +kernel
theorem dX7_follow_4 : decode cX7_follow 4 = .ok (.iload_n 1, 1) := by decide +kernel
theorem dX7_follow_5 : decode cX7_follow 5 = .ok (.iconst 4, 1) := by decide +kernel
theorem dX7_follow_6 : decode cX7_follow 6 = .ok (.invokevirtual 66, 3) := by decide +kernel
theorem dX7_follow_9 : decode cX7_follow 9 = .ok (.aload_n 0, 1) := by decide +kernel
theorem dX7_follow_10 : decode cX7_follow 10 = .ok (.iload_n 1, 1) := by decide +kernel
theorem dX7_follow_11 : decode cX7_follow 11 = .ok (.invokevirtual 91, 3) := by decide +kernel
theorem dX7_follow_14 : decode cX7_follow 14 = .ok (.iadd, 1) := by decide +kernel
theorem dX7_follow_15 : decode cX7_follow 15 = .ok (.invokevirtual 94, 3) := by decide +kernel
theorem dX7_follow_18 : decode cX7_follow 18 = .ok (.return_, 1) := by decide +kernel
theorem dX7_changeOf_0 : decode cX7_changeOf 0 = .ok (.aload_n 0, 1) := by decide +kernel
theorem dX7_changeOf_1 : decode cX7_changeOf 1 = .ok (.getfield 7, 3) := by decide +kernel
theorem dX7_changeOf_4 : decode cX7_changeOf 4 = .ok (.iconst 1, 1) := by decide +kernel
theorem dX7_changeOf_5 : decode cX7_changeOf 5 = .ok (.iaload, 1) := by decide +kernel
theorem dX7_changeOf_6 : decode cX7_changeOf 6 = .ok (.aload_n 0, 1) := by decide +kernel
theorem dX7_changeOf_7 : decode cX7_changeOf 7 = .ok (.iload_n 1, 1) := by decide +kernel
theorem dX7_changeOf_8 : decode cX7_changeOf 8 = .ok (.iconst 2, 1) := by decide +kernel
theorem dX7_changeOf_9 : decode cX7_changeOf 9 = .ok (.invokevirtual 66, 3) := by decide +kernel
theorem dX7_changeOf_12 : decode cX7_changeOf 12 = .ok (.iadd, 1) := by decide +kernel
theorem dX7_changeOf_13 : decode cX7_changeOf 13 = .ok (.aload_n 0, 1) := by decide +kernel
theorem dX7_changeOf_14 : decode cX7_changeOf 14 = .ok (.iload_n 1, 1) := by decide +kernel
theorem dX7_changeOf_15 : decode cX7_changeOf 15 = .ok (.iconst 4, 1) := by decide +kernel
theorem dX7_changeOf_16 : decode cX7_changeOf 16 = .ok (.invokevirtual 66, 3) := by decide +kernel
theorem dX7_changeOf_19 : decode cX7_changeOf 19 = .ok (.isub, 1) := by decide +kernel
theorem dX7_changeOf_20 : decode cX7_changeOf 20 = .ok (.aload_n 0, 1) := by decide +kernel
theorem dX7_changeOf_21 : decode cX7_changeOf 21 = .ok (.iload_n 1, 1) := by decide +kernel
theorem dX7_changeOf_22 : decode cX7_changeOf 22 = .ok (.iconst 1, 1) := by decide +kernel
theorem dX7_changeOf_23 : decode cX7_changeOf 23 = .ok (.invokevirtual 66, 3) := by decide +kernel
theorem dX7_changeOf_26 : decode cX7_changeOf 26 = .ok (.idiv, 1) := by decide +kernel
theorem dX7_changeOf_27 : decode cX7_changeOf 27 = .ok (.ireturn, 1) := by decide +kernel
theorem dX7_read_0 : decode cX7_read 0 = .ok (.bipush 11, 2) := by decide +kernel
theorem dX7_read_2 : decode cX7_read 2 = .ok (.istore_n 2, 1) := by decide +kernel
theorem dX7_read_3 : decode cX7_read 3 = .ok (.iload_n 2, 1) := by decide +kernel
theorem dX7_read_4 : decode cX7_read 4 = .ok (.iconst 1, 1) := by decide +kernel
theorem dX7_read_5 : decode cX7_read 5 = .ok (.if_icmp .le 29, 3) := by decide +kernel
theorem dX7_read_8 : decode cX7_read 8 = .ok (.aload_n 0, 1) := by decide +kernel
theorem dX7_read_9 : decode cX7_read 9 = .ok (.iload_n 1, 1) := by decide +kernel
theorem dX7_read_10 : decode cX7_read 10 = .ok (.bipush 9, 2) := by decide +kernel
theorem dX7_read_12 : decode cX7_read 12 = .ok (.iload_n 2, 1) := by decide +kernel
theorem dX7_read_13 : decode cX7_read 13 = .ok (.iadd, 1) := by decide +kernel
theorem dX7_read_14 : decode cX7_read 14 = .ok (.aload_n 0, 1) := by decide +kernel
theorem dX7_read_15 : decode cX7_read 15 = .ok (.iload_n 1, 1) := by decide +kernel
theorem dX7_read_16 : decode cX7_read 16 = .ok (.bipush 9, 2) := by decide +kernel
theorem dX7_read_18 : decode cX7_read 18 = .ok (.iload_n 2, 1) := by decide +kernel
theorem dX7_read_19 : decode cX7_read 19 = .ok (.iadd, 1) := by decide +kernel
theorem dX7_read_20 : decode cX7_read 20 = .ok (.iconst 2, 1) := by decide +kernel
theorem dX7_read_21 : decode cX7_read 21 = .ok (.isub, 1) := by decide +kernel
theorem dX7_read_22 : decode cX7_read 22 = .ok (.invokevirtual 66, 3) := by decide +kernel
theorem dX7_read_25 : decode cX7_read 25 = .ok (.invokevirtual 94, 3) := by decide +kernel
theorem dX7_read_28 : decode cX7_read 28 = .ok (.iinc 2 (-1), 3) := by decide +kernel
theorem dX7_read_31 : decode cX7_read 31 = .ok (.goto (-28), 3) := by decide +kernel
theorem dX7_read_34 : decode cX7_read 34 = .ok (.aload_n 0, 1) := by decide +kernel
theorem dX7_read_35 : decode cX7_read 35 = .ok (.iload_n 1, 1) := by decide +kernel
theorem dX7_read_36 : decode cX7_read 36 = .ok (.bipush 9, 2) := by decide +kernel
theorem dX7_read_38 : decode cX7_read 38 = .ok (.aload_n 0, 1) := by decide +kernel
theorem dX7_read_39 : decode cX7_read 39 = .ok (.getfield 7, 3) := by decide +kernel
theorem dX7_read_42 : decode cX7_read 42 = .ok (.iconst 0, 1) := by decide +kernel
theorem dX7_read_43 : decode cX7_read 43 = .ok (.iaload, 1) := by decide +kernel
theorem dX7_read_44 : decode cX7_read 44 = .ok (.invokevirtual 94, 3) := by decide +kernel
theorem dX7_read_47 : decode cX7_read 47 = .ok (.aload_n 0, 1) := by decide +kernel
theorem dX7_read_48 : decode cX7_read 48 = .ok (.iload_n 1, 1) := by decide +kernel
theorem dX7_read_49 : decode cX7_read 49 = .ok (.bipush 10, 2) := by decide +kernel
theorem dX7_read_51 : decode cX7_read 51 = .ok (.aload_n 0, 1) := by decide +kernel
theorem dX7_read_52 : decode cX7_read 52 = .ok (.iload_n 1, 1) := by decide +kernel
theorem dX7_read_53 : decode cX7_read 53 = .ok (.iconst 4, 1) := by decide +kernel
theorem dX7_read_54 : decode cX7_read 54 = .ok (.invokevirtual 66, 3) := by decide +kernel
theorem dX7_read_57 : decode cX7_read 57 = .ok (.invokevirtual 94, 3) := by decide +kernel
theorem dX7_read_60 : decode cX7_read 60 = .ok (.aload_n 0, 1) := by decide +kernel
theorem dX7_read_61 : decode cX7_read 61 = .ok (.iload_n 1, 1) := by decide +kernel
theorem dX7_read_62 : decode cX7_read 62 = .ok (.bipush 7, 2) := by decide +kernel
theorem dX7_read_64 : decode cX7_read 64 = .ok (.aload_n 0, 1) := by decide +kernel
theorem dX7_read_65 : decode cX7_read 65 = .ok (.iload_n 1, 1) := by decide +kernel
theorem dX7_read_66 : decode cX7_read 66 = .ok (.bipush 7, 2) := by decide +kernel
theorem dX7_read_68 : decode cX7_read 68 = .ok (.invokevirtual 66, 3) := by decide +kernel
theorem dX7_read_71 : decode cX7_read 71 = .ok (.bipush 6, 2) := by decide +kernel
theorem dX7_read_73 : decode cX7_read 73 = .ok (.if_icmp .ge 15, 3) := by decide +kernel
theorem dX7_read_76 : decode cX7_read 76 = .ok (.aload_n 0, 1) := by decide +kernel
theorem dX7_read_77 : decode cX7_read 77 = .ok (.iload_n 1, 1) := by decide +kernel
theorem dX7_read_78 : decode cX7_read 78 = .ok (.bipush 7, 2) := by decide +kernel
theorem dX7_read_80 : decode cX7_read 80 = .ok (.invokevirtual 66, 3) := by decide +kernel
theorem dX7_read_83 : decode cX7_read 83 = .ok (.iconst 1, 1) := by decide +kernel
theorem dX7_read_84 : decode cX7_read 84 = .ok (.iadd, 1) := by decide +kernel
theorem dX7_read_85 : decode cX7_read 85 = .ok (.goto 5, 3) := by decide +kernel
theorem dX7_read_88 : decode cX7_read 88 = .ok (.bipush 6, 2) := by decide +kernel
theorem dX7_read_90 : decode cX7_read 90 = .ok (.invokevirtual 94, 3) := by decide +kernel
theorem dX7_read_93 : decode cX7_read 93 = .ok (.aload_n 0, 1) := by decide +kernel
theorem dX7_read_94 : decode cX7_read 94 = .ok (.getfield 7, 3) := by decide +kernel
theorem dX7_read_97 : decode cX7_read 97 = .ok (.bipush 12, 2) := by decide +kernel
theorem dX7_read_99 : decode cX7_read 99 = .ok (.dup2, 1) := by decide +kernel
theorem dX7_read_100 : decode cX7_read 100 = .ok (.iaload, 1) := by decide +kernel
theorem dX7_read_101 : decode cX7_read 101 = .ok (.iconst 1, 1) := by decide +kernel
theorem dX7_read_102 : decode cX7_read 102 = .ok (.iadd, 1) := by decide +kernel
theorem dX7_read_103 : decode cX7_read 103 = .ok (.iastore, 1) := by decide +kernel
theorem dX7_read_104 : decode cX7_read 104 = .ok (.return_, 1) := by decide +kernel
theorem dX7_isDue_0 : decode cX7_isDue 0 = .ok (.aload_n 0, 1) := by decide +kernel
theorem dX7_isDue_1 : decode cX7_isDue 1 = .ok (.getfield 7, 3) := by decide +kernel
theorem dX7_isDue_4 : decode cX7_isDue 4 = .ok (.iconst 0, 1) := by decide +kernel
theorem dX7_isDue_5 : decode cX7_isDue 5 = .ok (.iaload, 1) := by decide +kernel
theorem dX7_isDue_6 : decode cX7_isDue 6 = .ok (.aload_n 0, 1) := by decide +kernel
theorem dX7_isDue_7 : decode cX7_isDue 7 = .ok (.getfield 7, 3) := by decide +kernel
theorem dX7_isDue_10 : decode cX7_isDue 10 = .ok (.iconst 4, 1) := by decide +kernel
theorem dX7_isDue_11 : decode cX7_isDue 11 = .ok (.iload_n 1, 1) := by decide +kernel
theorem dX7_isDue_12 : decode cX7_isDue 12 = .ok (.iadd, 1) := by decide +kernel
theorem dX7_isDue_13 : decode cX7_isDue 13 = .ok (.iaload, 1) := by decide +kernel
theorem dX7_isDue_14 : decode cX7_isDue 14 = .ok (.irem, 1) := by decide +kernel
theorem dX7_isDue_15 : decode cX7_isDue 15 = .ok (.ifCond .ne 7, 3) := by decide +kernel
theorem dX7_isDue_18 : decode cX7_isDue 18 = .ok (.iconst 1, 1) := by decide +kernel
theorem dX7_isDue_19 : decode cX7_isDue 19 = .ok (.goto 4, 3) := by decide +kernel
theorem dX7_isDue_22 : decode cX7_isDue 22 = .ok (.iconst 0, 1) := by decide +kernel
theorem dX7_isDue_23 : decode cX7_isDue 23 = .ok (.ireturn, 1) := by decide +kernel
theorem dX7_readRows_0 : decode cX7_readRows 0 = .ok (.aload_n 0, 1) := by decide +kernel
theorem dX7_readRows_1 : decode cX7_readRows 1 = .ok (.getfield 7, 3) := by decide +kernel
theorem dX7_readRows_4 : decode cX7_readRows 4 = .ok (.bipush 12, 2) := by decide +kernel
theorem dX7_readRows_6 : decode cX7_readRows 6 = .ok (.iaload, 1) := by decide +kernel
theorem dX7_readRows_7 : decode cX7_readRows 7 = .ok (.istore_n 1, 1) := by decide +kernel
theorem dX7_readRows_8 : decode cX7_readRows 8 = .ok (.iconst 0, 1) := by decide +kernel
theorem dX7_readRows_9 : decode cX7_readRows 9 = .ok (.istore_n 2, 1) := by decide +kernel
theorem dX7_readRows_10 : decode cX7_readRows 10 = .ok (.iload_n 2, 1) := by decide +kernel
theorem dX7_readRows_11 : decode cX7_readRows 11 = .ok (.iconst 4, 1) := by decide +kernel
theorem dX7_readRows_12 : decode cX7_readRows 12 = .ok (.if_icmp .ge 64, 3) := by decide +kernel
theorem dX7_readRows_15 : decode cX7_readRows 15 = .ok (.aload_n 0, 1) := by decide +kernel
theorem dX7_readRows_16 : decode cX7_readRows 16 = .ok (.iload_n 2, 1) := by decide +kernel
theorem dX7_readRows_17 : decode cX7_readRows 17 = .ok (.invokevirtual 98, 3) := by decide +kernel
theorem dX7_readRows_20 : decode cX7_readRows 20 = .ok (.ifCond .eq 50, 3) := by decide +kernel
theorem dX7_readRows_23 : decode cX7_readRows 23 = .ok (.aload_n 0, 1) := by decide +kernel
theorem dX7_readRows_24 : decode cX7_readRows 24 = .ok (.getfield 7, 3) := by decide +kernel
theorem dX7_readRows_27 : decode cX7_readRows 27 = .ok (.bipush 8, 2) := by decide +kernel
theorem dX7_readRows_29 : decode cX7_readRows 29 = .ok (.iload_n 2, 1) := by decide +kernel
theorem dX7_readRows_30 : decode cX7_readRows 30 = .ok (.iadd, 1) := by decide +kernel
theorem dX7_readRows_31 : decode cX7_readRows 31 = .ok (.dup2, 1) := by decide +kernel
theorem dX7_readRows_32 : decode cX7_readRows 32 = .ok (.iaload, 1) := by decide +kernel
theorem dX7_readRows_33 : decode cX7_readRows 33 = .ok (.iconst 1, 1) := by decide +kernel
theorem dX7_readRows_34 : decode cX7_readRows 34 = .ok (.iadd, 1) := by decide +kernel
theorem dX7_readRows_35 : decode cX7_readRows 35 = .ok (.iastore, 1) := by decide +kernel
theorem dX7_readRows_36 : decode cX7_readRows 36 = .ok (.iconst 0, 1) := by decide +kernel
theorem dX7_readRows_37 : decode cX7_readRows 37 = .ok (.istore_n 3, 1) := by decide +kernel
theorem dX7_readRows_38 : decode cX7_readRows 38 = .ok (.iload_n 3, 1) := by decide +kernel
theorem dX7_readRows_39 : decode cX7_readRows 39 = .ok (.aload_n 0, 1) := by decide +kernel
theorem dX7_readRows_40 : decode cX7_readRows 40 = .ok (.getfield 7, 3) := by decide +kernel
theorem dX7_readRows_43 : decode cX7_readRows 43 = .ok (.bipush 15, 2) := by decide +kernel
theorem dX7_readRows_45 : decode cX7_readRows 45 = .ok (.iaload, 1) := by decide +kernel
theorem dX7_readRows_46 : decode cX7_readRows 46 = .ok (.if_icmp .ge 24, 3) := by decide +kernel
theorem dX7_readRows_49 : decode cX7_readRows 49 = .ok (.aload_n 0, 1) := by decide +kernel
theorem dX7_readRows_50 : decode cX7_readRows 50 = .ok (.iload_n 3, 1) := by decide +kernel
theorem dX7_readRows_51 : decode cX7_readRows 51 = .ok (.iconst 0, 1) := by decide +kernel
theorem dX7_readRows_52 : decode cX7_readRows 52 = .ok (.invokevirtual 66, 3) := by decide +kernel
theorem dX7_readRows_55 : decode cX7_readRows 55 = .ok (.iload_n 2, 1) := by decide +kernel
theorem dX7_readRows_56 : decode cX7_readRows 56 = .ok (.if_icmp .ne 8, 3) := by decide +kernel
theorem dX7_readRows_59 : decode cX7_readRows 59 = .ok (.aload_n 0, 1) := by decide +kernel
theorem dX7_readRows_60 : decode cX7_readRows 60 = .ok (.iload_n 3, 1) := by decide +kernel
theorem dX7_readRows_61 : decode cX7_readRows 61 = .ok (.invokevirtual 101, 3) := by decide +kernel
theorem dX7_readRows_64 : decode cX7_readRows 64 = .ok (.iinc 3 1, 3) := by decide +kernel
theorem dX7_readRows_67 : decode cX7_readRows 67 = .ok (.goto (-29), 3) := by decide +kernel
theorem dX7_readRows_70 : decode cX7_readRows 70 = .ok (.iinc 2 1, 3) := by decide +kernel
theorem dX7_readRows_73 : decode cX7_readRows 73 = .ok (.goto (-63), 3) := by decide +kernel
theorem dX7_readRows_76 : decode cX7_readRows 76 = .ok (.aload_n 0, 1) := by decide +kernel
theorem dX7_readRows_77 : decode cX7_readRows 77 = .ok (.getfield 7, 3) := by decide +kernel
theorem dX7_readRows_80 : decode cX7_readRows 80 = .ok (.bipush 12, 2) := by decide +kernel
theorem dX7_readRows_82 : decode cX7_readRows 82 = .ok (.iaload, 1) := by decide +kernel
theorem dX7_readRows_83 : decode cX7_readRows 83 = .ok (.iload_n 1, 1) := by decide +kernel
theorem dX7_readRows_84 : decode cX7_readRows 84 = .ok (.isub, 1) := by decide +kernel
theorem dX7_readRows_85 : decode cX7_readRows 85 = .ok (.ireturn, 1) := by decide +kernel
theorem dX7_compare_0 : decode cX7_compare 0 = .ok (.aload_n 0, 1) := by decide +kernel
theorem dX7_compare_1 : decode cX7_compare 1 = .ok (.iload_n 1, 1) := by decide +kernel
theorem dX7_compare_2 : decode cX7_compare 2 = .ok (.invokevirtual 104, 3) := by decide +kernel
theorem dX7_compare_5 : decode cX7_compare 5 = .ok (.istore_n 2, 1) := by decide +kernel
theorem dX7_compare_6 : decode cX7_compare 6 = .ok (.aload_n 0, 1) := by decide +kernel
theorem dX7_compare_7 : decode cX7_compare 7 = .ok (.getfield 29, 3) := by decide +kernel
theorem dX7_compare_10 : decode cX7_compare 10 = .ok (.iload_n 1, 1) := by decide +kernel
theorem dX7_compare_11 : decode cX7_compare 11 = .ok (.aload_n 0, 1) := by decide +kernel
theorem dX7_compare_12 : decode cX7_compare 12 = .ok (.iload_n 1, 1) := by decide +kernel
theorem dX7_compare_13 : decode cX7_compare 13 = .ok (.invokevirtual 76, 3) := by decide +kernel
theorem dX7_compare_16 : decode cX7_compare 16 = .ok (.ifCond .eq 26, 3) := by decide +kernel
theorem dX7_compare_19 : decode cX7_compare 19 = .ok (.aload_n 0, 1) := by decide +kernel
theorem dX7_compare_20 : decode cX7_compare 20 = .ok (.aload_n 0, 1) := by decide +kernel
theorem dX7_compare_21 : decode cX7_compare 21 = .ok (.iload_n 1, 1) := by decide +kernel
theorem dX7_compare_22 : decode cX7_compare 22 = .ok (.iconst 0, 1) := by decide +kernel
theorem dX7_compare_23 : decode cX7_compare 23 = .ok (.invokevirtual 66, 3) := by decide +kernel
theorem dX7_compare_26 : decode cX7_compare 26 = .ok (.invokevirtual 98, 3) := by decide +kernel
theorem dX7_compare_29 : decode cX7_compare 29 = .ok (.ifCond .eq 13, 3) := by decide +kernel
theorem dX7_compare_32 : decode cX7_compare 32 = .ok (.iload_n 2, 1) := by decide +kernel
theorem dX7_compare_33 : decode cX7_compare 33 = .ok (.ldc 47, 2) := by decide +kernel
theorem dX7_compare_35 : decode cX7_compare 35 = .ok (.if_icmp .eq 7, 3) := by decide +kernel
theorem dX7_compare_38 : decode cX7_compare 38 = .ok (.iconst 1, 1) := by decide +kernel
theorem dX7_compare_39 : decode cX7_compare 39 = .ok (.goto 4, 3) := by decide +kernel
theorem dX7_compare_42 : decode cX7_compare 42 = .ok (.iconst 0, 1) := by decide +kernel
theorem dX7_compare_43 : decode cX7_compare 43 = .ok (.bastore, 1) := by decide +kernel
theorem dX7_compare_44 : decode cX7_compare 44 = .ok (.aload_n 0, 1) := by decide +kernel
theorem dX7_compare_45 : decode cX7_compare 45 = .ok (.getfield 29, 3) := by decide +kernel
theorem dX7_compare_48 : decode cX7_compare 48 = .ok (.iload_n 1, 1) := by decide +kernel
theorem dX7_compare_49 : decode cX7_compare 49 = .ok (.baload, 1) := by decide +kernel
theorem dX7_compare_50 : decode cX7_compare 50 = .ok (.ifCond .ne 4, 3) := by decide +kernel
theorem dX7_compare_53 : decode cX7_compare 53 = .ok (.return_, 1) := by decide +kernel
theorem dX7_compare_54 : decode cX7_compare 54 = .ok (.aload_n 0, 1) := by decide +kernel
theorem dX7_compare_55 : decode cX7_compare 55 = .ok (.iload_n 1, 1) := by decide +kernel
theorem dX7_compare_56 : decode cX7_compare 56 = .ok (.invokevirtual 80, 3) := by decide +kernel
theorem dX7_compare_59 : decode cX7_compare 59 = .ok (.iload_n 2, 1) := by decide +kernel
theorem dX7_compare_60 : decode cX7_compare 60 = .ok (.isub, 1) := by decide +kernel
theorem dX7_compare_61 : decode cX7_compare 61 = .ok (.invokestatic 107, 3) := by decide +kernel
theorem dX7_compare_64 : decode cX7_compare 64 = .ok (.aload_n 0, 1) := by decide +kernel
theorem dX7_compare_65 : decode cX7_compare 65 = .ok (.getfield 7, 3) := by decide +kernel
theorem dX7_compare_68 : decode cX7_compare 68 = .ok (.iconst 2, 1) := by decide +kernel
theorem dX7_compare_69 : decode cX7_compare 69 = .ok (.iaload, 1) := by decide +kernel
theorem dX7_compare_70 : decode cX7_compare 70 = .ok (.if_icmp .le 47, 3) := by decide +kernel
theorem dX7_compare_73 : decode cX7_compare 73 = .ok (.aload_n 0, 1) := by decide +kernel
theorem dX7_compare_74 : decode cX7_compare 74 = .ok (.getfield 7, 3) := by decide +kernel
theorem dX7_compare_77 : decode cX7_compare 77 = .ok (.bipush 13, 2) := by decide +kernel
theorem dX7_compare_79 : decode cX7_compare 79 = .ok (.dup2, 1) := by decide +kernel
theorem dX7_compare_80 : decode cX7_compare 80 = .ok (.iaload, 1) := by decide +kernel
theorem dX7_compare_81 : decode cX7_compare 81 = .ok (.iconst 1, 1) := by decide +kernel
theorem dX7_compare_82 : decode cX7_compare 82 = .ok (.iadd, 1) := by decide +kernel
theorem dX7_compare_83 : decode cX7_compare 83 = .ok (.iastore, 1) := by decide +kernel
theorem dX7_compare_84 : decode cX7_compare 84 = .ok (.aload_n 0, 1) := by decide +kernel
theorem dX7_compare_85 : decode cX7_compare 85 = .ok (.iload_n 1, 1) := by decide +kernel
theorem dX7_compare_86 : decode cX7_compare 86 = .ok (.bipush 8, 2) := by decide +kernel
theorem dX7_compare_88 : decode cX7_compare 88 = .ok (.aload_n 0, 1) := by decide +kernel
theorem dX7_compare_89 : decode cX7_compare 89 = .ok (.iload_n 1, 1) := by decide +kernel
theorem dX7_compare_90 : decode cX7_compare 90 = .ok (.bipush 8, 2) := by decide +kernel
theorem dX7_compare_92 : decode cX7_compare 92 = .ok (.invokevirtual 66, 3) := by decide +kernel
theorem dX7_compare_95 : decode cX7_compare 95 = .ok (.iconst 1, 1) := by decide +kernel
theorem dX7_compare_96 : decode cX7_compare 96 = .ok (.iadd, 1) := by decide +kernel
theorem dX7_compare_97 : decode cX7_compare 97 = .ok (.invokevirtual 94, 3) := by decide +kernel
theorem dX7_compare_100 : decode cX7_compare 100 = .ok (.aload_n 0, 1) := by decide +kernel
theorem dX7_compare_101 : decode cX7_compare 101 = .ok (.iload_n 1, 1) := by decide +kernel
theorem dX7_compare_102 : decode cX7_compare 102 = .ok (.iconst 5, 1) := by decide +kernel
theorem dX7_compare_103 : decode cX7_compare 103 = .ok (.aload_n 0, 1) := by decide +kernel
theorem dX7_compare_104 : decode cX7_compare 104 = .ok (.iload_n 1, 1) := by decide +kernel
theorem dX7_compare_105 : decode cX7_compare 105 = .ok (.iconst 5, 1) := by decide +kernel
theorem dX7_compare_106 : decode cX7_compare 106 = .ok (.invokevirtual 66, 3) := by decide +kernel
theorem dX7_compare_109 : decode cX7_compare 109 = .ok (.iconst 1, 1) := by decide +kernel
theorem dX7_compare_110 : decode cX7_compare 110 = .ok (.iadd, 1) := by decide +kernel
theorem dX7_compare_111 : decode cX7_compare 111 = .ok (.invokevirtual 94, 3) := by decide +kernel
theorem dX7_compare_114 : decode cX7_compare 114 = .ok (.goto 10, 3) := by decide +kernel
theorem dX7_compare_117 : decode cX7_compare 117 = .ok (.aload_n 0, 1) := by decide +kernel
theorem dX7_compare_118 : decode cX7_compare 118 = .ok (.iload_n 1, 1) := by decide +kernel
theorem dX7_compare_119 : decode cX7_compare 119 = .ok (.iconst 5, 1) := by decide +kernel
theorem dX7_compare_120 : decode cX7_compare 120 = .ok (.iconst 0, 1) := by decide +kernel
theorem dX7_compare_121 : decode cX7_compare 121 = .ok (.invokevirtual 94, 3) := by decide +kernel
theorem dX7_compare_124 : decode cX7_compare 124 = .ok (.return_, 1) := by decide +kernel
theorem dX7_lookForSpikes_0 : decode cX7_lookForSpikes 0 = .ok (.iconst 0, 1) := by decide +kernel
theorem dX7_lookForSpikes_1 : decode cX7_lookForSpikes 1 = .ok (.istore_n 1, 1) := by decide +kernel
theorem dX7_lookForSpikes_2 : decode cX7_lookForSpikes 2 = .ok (.iload_n 1, 1) := by decide +kernel
theorem dX7_lookForSpikes_3 : decode cX7_lookForSpikes 3 = .ok (.aload_n 0, 1) := by decide +kernel
theorem dX7_lookForSpikes_4 : decode cX7_lookForSpikes 4 = .ok (.getfield 7, 3) := by decide +kernel
theorem dX7_lookForSpikes_7 : decode cX7_lookForSpikes 7 = .ok (.bipush 15, 2) := by decide +kernel
theorem dX7_lookForSpikes_9 : decode cX7_lookForSpikes 9 = .ok (.iaload, 1) := by decide +kernel
theorem dX7_lookForSpikes_10 : decode cX7_lookForSpikes 10 = .ok (.if_icmp .ge 14, 3) := by decide +kernel
theorem dX7_lookForSpikes_13 : decode cX7_lookForSpikes 13 = .ok (.aload_n 0, 1) := by decide +kernel
theorem dX7_lookForSpikes_14 : decode cX7_lookForSpikes 14 = .ok (.iload_n 1, 1) := by decide +kernel
theorem dX7_lookForSpikes_15 : decode cX7_lookForSpikes 15 = .ok (.invokevirtual 110, 3) := by decide +kernel
theorem dX7_lookForSpikes_18 : decode cX7_lookForSpikes 18 = .ok (.iinc 1 1, 3) := by decide +kernel
theorem dX7_lookForSpikes_21 : decode cX7_lookForSpikes 21 = .ok (.goto (-19), 3) := by decide +kernel
theorem dX7_lookForSpikes_24 : decode cX7_lookForSpikes 24 = .ok (.iconst 0, 1) := by decide +kernel
theorem dX7_lookForSpikes_25 : decode cX7_lookForSpikes 25 = .ok (.istore_n 1, 1) := by decide +kernel
theorem dX7_lookForSpikes_26 : decode cX7_lookForSpikes 26 = .ok (.iload_n 1, 1) := by decide +kernel
theorem dX7_lookForSpikes_27 : decode cX7_lookForSpikes 27 = .ok (.aload_n 0, 1) := by decide +kernel
theorem dX7_lookForSpikes_28 : decode cX7_lookForSpikes 28 = .ok (.getfield 7, 3) := by decide +kernel
theorem dX7_lookForSpikes_31 : decode cX7_lookForSpikes 31 = .ok (.bipush 15, 2) := by decide +kernel
theorem dX7_lookForSpikes_33 : decode cX7_lookForSpikes 33 = .ok (.iaload, 1) := by decide +kernel
theorem dX7_lookForSpikes_34 : decode cX7_lookForSpikes 34 = .ok (.if_icmp .ge 41, 3) := by decide +kernel
theorem dX7_lookForSpikes_37 : decode cX7_lookForSpikes 37 = .ok (.aload_n 0, 1) := by decide +kernel
theorem dX7_lookForSpikes_38 : decode cX7_lookForSpikes 38 = .ok (.getfield 29, 3) := by decide +kernel
theorem dX7_lookForSpikes_41 : decode cX7_lookForSpikes 41 = .ok (.iload_n 1, 1) := by decide +kernel
theorem dX7_lookForSpikes_42 : decode cX7_lookForSpikes 42 = .ok (.baload, 1) := by decide +kernel
theorem dX7_lookForSpikes_43 : decode cX7_lookForSpikes 43 = .ok (.ifCond .eq 26, 3) := by decide +kernel
theorem dX7_lookForSpikes_46 : decode cX7_lookForSpikes 46 = .ok (.aload_n 0, 1) := by decide +kernel
theorem dX7_lookForSpikes_47 : decode cX7_lookForSpikes 47 = .ok (.iload_n 1, 1) := by decide +kernel
theorem dX7_lookForSpikes_48 : decode cX7_lookForSpikes 48 = .ok (.iconst 5, 1) := by decide +kernel
theorem dX7_lookForSpikes_49 : decode cX7_lookForSpikes 49 = .ok (.invokevirtual 66, 3) := by decide +kernel
theorem dX7_lookForSpikes_52 : decode cX7_lookForSpikes 52 = .ok (.aload_n 0, 1) := by decide +kernel
theorem dX7_lookForSpikes_53 : decode cX7_lookForSpikes 53 = .ok (.getfield 7, 3) := by decide +kernel
theorem dX7_lookForSpikes_56 : decode cX7_lookForSpikes 56 = .ok (.iconst 3, 1) := by decide +kernel
theorem dX7_lookForSpikes_57 : decode cX7_lookForSpikes 57 = .ok (.iaload, 1) := by decide +kernel
theorem dX7_lookForSpikes_58 : decode cX7_lookForSpikes 58 = .ok (.if_icmp .lt 11, 3) := by decide +kernel
theorem dX7_lookForSpikes_61 : decode cX7_lookForSpikes 61 = .ok (.aload_n 0, 1) := by decide +kernel
theorem dX7_lookForSpikes_62 : decode cX7_lookForSpikes 62 = .ok (.iload_n 1, 1) := by decide +kernel
theorem dX7_lookForSpikes_63 : decode cX7_lookForSpikes 63 = .ok (.bipush 6, 2) := by decide +kernel
theorem dX7_lookForSpikes_65 : decode cX7_lookForSpikes 65 = .ok (.iconst 1, 1) := by decide +kernel
theorem dX7_lookForSpikes_66 : decode cX7_lookForSpikes 66 = .ok (.invokevirtual 94, 3) := by decide +kernel
theorem dX7_lookForSpikes_69 : decode cX7_lookForSpikes 69 = .ok (.iinc 1 1, 3) := by decide +kernel
theorem dX7_lookForSpikes_72 : decode cX7_lookForSpikes 72 = .ok (.goto (-46), 3) := by decide +kernel
theorem dX7_lookForSpikes_75 : decode cX7_lookForSpikes 75 = .ok (.return_, 1) := by decide +kernel
theorem dX7_pass_0 : decode cX7_pass 0 = .ok (.aload_n 0, 1) := by decide +kernel
theorem dX7_pass_1 : decode cX7_pass 1 = .ok (.getfield 7, 3) := by decide +kernel
theorem dX7_pass_4 : decode cX7_pass 4 = .ok (.bipush 14, 2) := by decide +kernel
theorem dX7_pass_6 : decode cX7_pass 6 = .ok (.aload_n 0, 1) := by decide +kernel
theorem dX7_pass_7 : decode cX7_pass 7 = .ok (.invokevirtual 87, 3) := by decide +kernel
theorem dX7_pass_10 : decode cX7_pass 10 = .ok (.iastore, 1) := by decide +kernel
theorem dX7_pass_11 : decode cX7_pass 11 = .ok (.aload_n 0, 1) := by decide +kernel
theorem dX7_pass_12 : decode cX7_pass 12 = .ok (.getfield 7, 3) := by decide +kernel
theorem dX7_pass_15 : decode cX7_pass 15 = .ok (.iconst 0, 1) := by decide +kernel
theorem dX7_pass_16 : decode cX7_pass 16 = .ok (.dup2, 1) := by decide +kernel
theorem dX7_pass_17 : decode cX7_pass 17 = .ok (.iaload, 1) := by decide +kernel
theorem dX7_pass_18 : decode cX7_pass 18 = .ok (.iconst 1, 1) := by decide +kernel
theorem dX7_pass_19 : decode cX7_pass 19 = .ok (.iadd, 1) := by decide +kernel
theorem dX7_pass_20 : decode cX7_pass 20 = .ok (.iastore, 1) := by decide +kernel
theorem dX7_pass_21 : decode cX7_pass 21 = .ok (.aload_n 0, 1) := by decide +kernel
theorem dX7_pass_22 : decode cX7_pass 22 = .ok (.getfield 7, 3) := by decide +kernel
theorem dX7_pass_25 : decode cX7_pass 25 = .ok (.iconst 1, 1) := by decide +kernel
theorem dX7_pass_26 : decode cX7_pass 26 = .ok (.iload_n 1, 1) := by decide +kernel
theorem dX7_pass_27 : decode cX7_pass 27 = .ok (.iastore, 1) := by decide +kernel
theorem dX7_pass_28 : decode cX7_pass 28 = .ok (.iconst 0, 1) := by decide +kernel
theorem dX7_pass_29 : decode cX7_pass 29 = .ok (.istore_n 2, 1) := by decide +kernel
theorem dX7_pass_30 : decode cX7_pass 30 = .ok (.iload_n 2, 1) := by decide +kernel
theorem dX7_pass_31 : decode cX7_pass 31 = .ok (.aload_n 0, 1) := by decide +kernel
theorem dX7_pass_32 : decode cX7_pass 32 = .ok (.getfield 7, 3) := by decide +kernel
theorem dX7_pass_35 : decode cX7_pass 35 = .ok (.bipush 15, 2) := by decide +kernel
theorem dX7_pass_37 : decode cX7_pass 37 = .ok (.iaload, 1) := by decide +kernel
theorem dX7_pass_38 : decode cX7_pass 38 = .ok (.if_icmp .ge 14, 3) := by decide +kernel
theorem dX7_pass_41 : decode cX7_pass 41 = .ok (.aload_n 0, 1) := by decide +kernel
theorem dX7_pass_42 : decode cX7_pass 42 = .ok (.iload_n 2, 1) := by decide +kernel
theorem dX7_pass_43 : decode cX7_pass 43 = .ok (.invokevirtual 113, 3) := by decide +kernel
theorem dX7_pass_46 : decode cX7_pass 46 = .ok (.iinc 2 1, 3) := by decide +kernel
theorem dX7_pass_49 : decode cX7_pass 49 = .ok (.goto (-19), 3) := by decide +kernel
theorem dX7_pass_52 : decode cX7_pass 52 = .ok (.aload_n 0, 1) := by decide +kernel
theorem dX7_pass_53 : decode cX7_pass 53 = .ok (.invokevirtual 116, 3) := by decide +kernel
theorem dX7_pass_56 : decode cX7_pass 56 = .ok (.istore_n 2, 1) := by decide +kernel
theorem dX7_pass_57 : decode cX7_pass 57 = .ok (.aload_n 0, 1) := by decide +kernel
theorem dX7_pass_58 : decode cX7_pass 58 = .ok (.invokevirtual 119, 3) := by decide +kernel
theorem dX7_pass_61 : decode cX7_pass 61 = .ok (.iload_n 2, 1) := by decide +kernel
theorem dX7_pass_62 : decode cX7_pass 62 = .ok (.ireturn, 1) := by decide +kernel
theorem dX7_areNumbers_0 : decode cX7_areNumbers 0 = .ok (.iload_n 0, 1) := by decide +kernel
theorem dX7_areNumbers_1 : decode cX7_areNumbers 1 = .ok (.iconst 1, 1) := by decide +kernel
theorem dX7_areNumbers_2 : decode cX7_areNumbers 2 = .ok (.bipush 9, 2) := by decide +kernel
theorem dX7_areNumbers_4 : decode cX7_areNumbers 4 = .ok (.invokestatic 52, 3) := by decide +kernel
theorem dX7_areNumbers_7 : decode cX7_areNumbers 7 = .ok (.ifCond .eq 29, 3) := by decide +kernel
theorem dX7_areNumbers_10 : decode cX7_areNumbers 10 = .ok (.iload_n 1, 1) := by decide +kernel
theorem dX7_areNumbers_11 : decode cX7_areNumbers 11 = .ok (.sipush (-200), 3) := by decide +kernel
theorem dX7_areNumbers_14 : decode cX7_areNumbers 14 = .ok (.sipush 200, 3) := by decide +kernel
theorem dX7_areNumbers_17 : decode cX7_areNumbers 17 = .ok (.invokestatic 52, 3) := by decide +kernel
theorem dX7_areNumbers_20 : decode cX7_areNumbers 20 = .ok (.ifCond .eq 16, 3) := by decide +kernel
theorem dX7_areNumbers_23 : decode cX7_areNumbers 23 = .ok (.iload_n 2, 1) := by decide +kernel
theorem dX7_areNumbers_24 : decode cX7_areNumbers 24 = .ok (.iconst 1, 1) := by decide +kernel
theorem dX7_areNumbers_25 : decode cX7_areNumbers 25 = .ok (.iconst 5, 1) := by decide +kernel
theorem dX7_areNumbers_26 : decode cX7_areNumbers 26 = .ok (.invokestatic 52, 3) := by decide +kernel
theorem dX7_areNumbers_29 : decode cX7_areNumbers 29 = .ok (.ifCond .eq 7, 3) := by decide +kernel
theorem dX7_areNumbers_32 : decode cX7_areNumbers 32 = .ok (.iconst 1, 1) := by decide +kernel
theorem dX7_areNumbers_33 : decode cX7_areNumbers 33 = .ok (.goto 4, 3) := by decide +kernel
theorem dX7_areNumbers_36 : decode cX7_areNumbers 36 = .ok (.iconst 0, 1) := by decide +kernel
theorem dX7_areNumbers_37 : decode cX7_areNumbers 37 = .ok (.ireturn, 1) := by decide +kernel
theorem dX7_add_0 : decode cX7_add 0 = .ok (.aload_n 0, 1) := by decide +kernel
theorem dX7_add_1 : decode cX7_add 1 = .ok (.getfield 7, 3) := by decide +kernel
theorem dX7_add_4 : decode cX7_add 4 = .ok (.bipush 15, 2) := by decide +kernel
theorem dX7_add_6 : decode cX7_add 6 = .ok (.iaload, 1) := by decide +kernel
theorem dX7_add_7 : decode cX7_add 7 = .ok (.istore 5, 2) := by decide +kernel
theorem dX7_add_9 : decode cX7_add 9 = .ok (.iconst 0, 1) := by decide +kernel
theorem dX7_add_10 : decode cX7_add 10 = .ok (.istore 6, 2) := by decide +kernel
theorem dX7_add_12 : decode cX7_add 12 = .ok (.iload 6, 2) := by decide +kernel
theorem dX7_add_14 : decode cX7_add 14 = .ok (.bipush 21, 2) := by decide +kernel
theorem dX7_add_16 : decode cX7_add 16 = .ok (.if_icmp .ge 18, 3) := by decide +kernel
theorem dX7_add_19 : decode cX7_add 19 = .ok (.aload_n 0, 1) := by decide +kernel
theorem dX7_add_20 : decode cX7_add 20 = .ok (.iload 5, 2) := by decide +kernel
theorem dX7_add_22 : decode cX7_add 22 = .ok (.iload 6, 2) := by decide +kernel
theorem dX7_add_24 : decode cX7_add 24 = .ok (.iconst 0, 1) := by decide +kernel
theorem dX7_add_25 : decode cX7_add 25 = .ok (.invokevirtual 94, 3) := by decide +kernel
theorem dX7_add_28 : decode cX7_add 28 = .ok (.iinc 6 1, 3) := by decide +kernel
theorem dX7_add_31 : decode cX7_add 31 = .ok (.goto (-19), 3) := by decide +kernel
theorem dX7_add_34 : decode cX7_add 34 = .ok (.aload_n 0, 1) := by decide +kernel
theorem dX7_add_35 : decode cX7_add 35 = .ok (.iload 5, 2) := by decide +kernel
theorem dX7_add_37 : decode cX7_add 37 = .ok (.iconst 0, 1) := by decide +kernel
theorem dX7_add_38 : decode cX7_add 38 = .ok (.iload_n 1, 1) := by decide +kernel
theorem dX7_add_39 : decode cX7_add 39 = .ok (.invokevirtual 94, 3) := by decide +kernel
theorem dX7_add_42 : decode cX7_add 42 = .ok (.aload_n 0, 1) := by decide +kernel
theorem dX7_add_43 : decode cX7_add 43 = .ok (.iload 5, 2) := by decide +kernel
theorem dX7_add_45 : decode cX7_add 45 = .ok (.iconst 1, 1) := by decide +kernel
theorem dX7_add_46 : decode cX7_add 46 = .ok (.iload_n 2, 1) := by decide +kernel
theorem dX7_add_47 : decode cX7_add 47 = .ok (.invokevirtual 94, 3) := by decide +kernel
theorem dX7_add_50 : decode cX7_add 50 = .ok (.aload_n 0, 1) := by decide +kernel
theorem dX7_add_51 : decode cX7_add 51 = .ok (.iload 5, 2) := by decide +kernel
theorem dX7_add_53 : decode cX7_add 53 = .ok (.iconst 2, 1) := by decide +kernel
theorem dX7_add_54 : decode cX7_add 54 = .ok (.iload_n 3, 1) := by decide +kernel
theorem dX7_add_55 : decode cX7_add 55 = .ok (.invokevirtual 94, 3) := by decide +kernel
theorem dX7_add_58 : decode cX7_add 58 = .ok (.aload_n 0, 1) := by decide +kernel
theorem dX7_add_59 : decode cX7_add 59 = .ok (.iload 5, 2) := by decide +kernel
theorem dX7_add_61 : decode cX7_add 61 = .ok (.iconst 3, 1) := by decide +kernel
theorem dX7_add_62 : decode cX7_add 62 = .ok (.iload 4, 2) := by decide +kernel
theorem dX7_add_64 : decode cX7_add 64 = .ok (.invokevirtual 94, 3) := by decide +kernel
theorem dX7_add_67 : decode cX7_add 67 = .ok (.aload_n 0, 1) := by decide +kernel
theorem dX7_add_68 : decode cX7_add 68 = .ok (.iload 5, 2) := by decide +kernel
theorem dX7_add_70 : decode cX7_add 70 = .ok (.iconst 4, 1) := by decide +kernel
theorem dX7_add_71 : decode cX7_add 71 = .ok (.aload_n 0, 1) := by decide +kernel
theorem dX7_add_72 : decode cX7_add 72 = .ok (.getfield 7, 3) := by decide +kernel
theorem dX7_add_75 : decode cX7_add 75 = .ok (.iconst 1, 1) := by decide +kernel
theorem dX7_add_76 : decode cX7_add 76 = .ok (.iaload, 1) := by decide +kernel
theorem dX7_add_77 : decode cX7_add 77 = .ok (.iload_n 3, 1) := by decide +kernel
theorem dX7_add_78 : decode cX7_add 78 = .ok (.iadd, 1) := by decide +kernel
theorem dX7_add_79 : decode cX7_add 79 = .ok (.invokevirtual 94, 3) := by decide +kernel
theorem dX7_add_82 : decode cX7_add 82 = .ok (.aload_n 0, 1) := by decide +kernel
theorem dX7_add_83 : decode cX7_add 83 = .ok (.getfield 7, 3) := by decide +kernel
theorem dX7_add_86 : decode cX7_add 86 = .ok (.bipush 15, 2) := by decide +kernel
theorem dX7_add_88 : decode cX7_add 88 = .ok (.dup2, 1) := by decide +kernel
theorem dX7_add_89 : decode cX7_add 89 = .ok (.iaload, 1) := by decide +kernel
theorem dX7_add_90 : decode cX7_add 90 = .ok (.iconst 1, 1) := by decide +kernel
theorem dX7_add_91 : decode cX7_add 91 = .ok (.iadd, 1) := by decide +kernel
theorem dX7_add_92 : decode cX7_add 92 = .ok (.iastore, 1) := by decide +kernel
theorem dX7_add_93 : decode cX7_add 93 = .ok (.iload 5, 2) := by decide +kernel
theorem dX7_add_95 : decode cX7_add 95 = .ok (.ireturn, 1) := by decide +kernel
theorem dX7_thermometer_0 : decode cX7_thermometer 0 = .ok (.aload_n 0, 1) := by decide +kernel
theorem dX7_thermometer_1 : decode cX7_thermometer 1 = .ok (.iconst 0, 1) := by decide +kernel
theorem dX7_thermometer_2 : decode cX7_thermometer 2 = .ok (.putfield 48, 3) := by decide +kernel
theorem dX7_thermometer_5 : decode cX7_thermometer 5 = .ok (.iload_n 1, 1) := by decide +kernel
theorem dX7_thermometer_6 : decode cX7_thermometer 6 = .ok (.invokestatic 122, 3) := by decide +kernel
theorem dX7_thermometer_9 : decode cX7_thermometer 9 = .ok (.ifCond .ne 9, 3) := by decide +kernel
theorem dX7_thermometer_12 : decode cX7_thermometer 12 = .ok (.aload_n 0, 1) := by decide +kernel
theorem dX7_thermometer_13 : decode cX7_thermometer 13 = .ok (.iconst 1, 1) := by decide +kernel
theorem dX7_thermometer_14 : decode cX7_thermometer 14 = .ok (.invokevirtual 59, 3) := by decide +kernel
theorem dX7_thermometer_17 : decode cX7_thermometer 17 = .ok (.ireturn, 1) := by decide +kernel
theorem dX7_thermometer_18 : decode cX7_thermometer 18 = .ok (.iload_n 2, 1) := by decide +kernel
theorem dX7_thermometer_19 : decode cX7_thermometer 19 = .ok (.iload_n 3, 1) := by decide +kernel
theorem dX7_thermometer_20 : decode cX7_thermometer 20 = .ok (.iload 4, 2) := by decide +kernel
theorem dX7_thermometer_22 : decode cX7_thermometer 22 = .ok (.invokestatic 125, 3) := by decide +kernel
theorem dX7_thermometer_25 : decode cX7_thermometer 25 = .ok (.ifCond .ne 9, 3) := by decide +kernel
theorem dX7_thermometer_28 : decode cX7_thermometer 28 = .ok (.aload_n 0, 1) := by decide +kernel
theorem dX7_thermometer_29 : decode cX7_thermometer 29 = .ok (.iconst 2, 1) := by decide +kernel
theorem dX7_thermometer_30 : decode cX7_thermometer 30 = .ok (.invokevirtual 59, 3) := by decide +kernel
theorem dX7_thermometer_33 : decode cX7_thermometer 33 = .ok (.ireturn, 1) := by decide +kernel
theorem dX7_thermometer_34 : decode cX7_thermometer 34 = .ok (.aload_n 0, 1) := by decide +kernel
theorem dX7_thermometer_35 : decode cX7_thermometer 35 = .ok (.getfield 7, 3) := by decide +kernel
theorem dX7_thermometer_38 : decode cX7_thermometer 38 = .ok (.bipush 15, 2) := by decide +kernel
theorem dX7_thermometer_40 : decode cX7_thermometer 40 = .ok (.iaload, 1) := by decide +kernel
theorem dX7_thermometer_41 : decode cX7_thermometer 41 = .ok (.bipush 10, 2) := by decide +kernel
theorem dX7_thermometer_43 : decode cX7_thermometer 43 = .ok (.if_icmp .ne 9, 3) := by decide +kernel
theorem dX7_thermometer_46 : decode cX7_thermometer 46 = .ok (.aload_n 0, 1) := by decide +kernel
theorem dX7_thermometer_47 : decode cX7_thermometer 47 = .ok (.iconst 3, 1) := by decide +kernel
theorem dX7_thermometer_48 : decode cX7_thermometer 48 = .ok (.invokevirtual 59, 3) := by decide +kernel
theorem dX7_thermometer_51 : decode cX7_thermometer 51 = .ok (.ireturn, 1) := by decide +kernel
theorem dX7_thermometer_52 : decode cX7_thermometer 52 = .ok (.aload_n 0, 1) := by decide +kernel
theorem dX7_thermometer_53 : decode cX7_thermometer 53 = .ok (.invokevirtual 63, 3) := by decide +kernel
theorem dX7_thermometer_56 : decode cX7_thermometer 56 = .ok (.aload_n 0, 1) := by decide +kernel
theorem dX7_thermometer_57 : decode cX7_thermometer 57 = .ok (.iload_n 1, 1) := by decide +kernel
theorem dX7_thermometer_58 : decode cX7_thermometer 58 = .ok (.iload_n 2, 1) := by decide +kernel
theorem dX7_thermometer_59 : decode cX7_thermometer 59 = .ok (.iload_n 3, 1) := by decide +kernel
theorem dX7_thermometer_60 : decode cX7_thermometer 60 = .ok (.iload 4, 2) := by decide +kernel
theorem dX7_thermometer_62 : decode cX7_thermometer 62 = .ok (.invokevirtual 128, 3) := by decide +kernel
theorem dX7_thermometer_65 : decode cX7_thermometer 65 = .ok (.ireturn, 1) := by decide +kernel
theorem dX7_isTemperature_0 : decode cX7_isTemperature 0 = .ok (.iload_n 0, 1) := by decide +kernel
theorem dX7_isTemperature_1 : decode cX7_isTemperature 1 = .ok (.sipush (-5000), 3) := by decide +kernel
theorem dX7_isTemperature_4 : decode cX7_isTemperature 4 = .ok (.sipush 5000, 3) := by decide +kernel
theorem dX7_isTemperature_7 : decode cX7_isTemperature 7 = .ok (.invokestatic 52, 3) := by decide +kernel
theorem dX7_isTemperature_10 : decode cX7_isTemperature 10 = .ok (.ireturn, 1) := by decide +kernel
theorem dX7_hour_0 : decode cX7_hour 0 = .ok (.aload_n 0, 1) := by decide +kernel
theorem dX7_hour_1 : decode cX7_hour 1 = .ok (.iconst 0, 1) := by decide +kernel
theorem dX7_hour_2 : decode cX7_hour 2 = .ok (.putfield 48, 3) := by decide +kernel
theorem dX7_hour_5 : decode cX7_hour 5 = .ok (.iload_n 1, 1) := by decide +kernel
theorem dX7_hour_6 : decode cX7_hour 6 = .ok (.invokestatic 132, 3) := by decide +kernel
theorem dX7_hour_9 : decode cX7_hour 9 = .ok (.ifCond .ne 9, 3) := by decide +kernel
theorem dX7_hour_12 : decode cX7_hour 12 = .ok (.aload_n 0, 1) := by decide +kernel
theorem dX7_hour_13 : decode cX7_hour 13 = .ok (.iconst 1, 1) := by decide +kernel
theorem dX7_hour_14 : decode cX7_hour 14 = .ok (.invokevirtual 59, 3) := by decide +kernel
theorem dX7_hour_17 : decode cX7_hour 17 = .ok (.ireturn, 1) := by decide +kernel
theorem dX7_hour_18 : decode cX7_hour 18 = .ok (.aload_n 0, 1) := by decide +kernel
theorem dX7_hour_19 : decode cX7_hour 19 = .ok (.getfield 7, 3) := by decide +kernel
theorem dX7_hour_22 : decode cX7_hour 22 = .ok (.iconst 0, 1) := by decide +kernel
theorem dX7_hour_23 : decode cX7_hour 23 = .ok (.iaload, 1) := by decide +kernel
theorem dX7_hour_24 : decode cX7_hour 24 = .ok (.sipush 9999, 3) := by decide +kernel
theorem dX7_hour_27 : decode cX7_hour 27 = .ok (.if_icmp .ne 9, 3) := by decide +kernel
theorem dX7_hour_30 : decode cX7_hour 30 = .ok (.aload_n 0, 1) := by decide +kernel
theorem dX7_hour_31 : decode cX7_hour 31 = .ok (.iconst 2, 1) := by decide +kernel
theorem dX7_hour_32 : decode cX7_hour 32 = .ok (.invokevirtual 59, 3) := by decide +kernel
theorem dX7_hour_35 : decode cX7_hour 35 = .ok (.ireturn, 1) := by decide +kernel
theorem dX7_hour_36 : decode cX7_hour 36 = .ok (.aload_n 0, 1) := by decide +kernel
theorem dX7_hour_37 : decode cX7_hour 37 = .ok (.invokevirtual 63, 3) := by decide +kernel
theorem dX7_hour_40 : decode cX7_hour 40 = .ok (.aload_n 0, 1) := by decide +kernel
theorem dX7_hour_41 : decode cX7_hour 41 = .ok (.iload_n 1, 1) := by decide +kernel
theorem dX7_hour_42 : decode cX7_hour 42 = .ok (.invokevirtual 135, 3) := by decide +kernel
theorem dX7_hour_45 : decode cX7_hour 45 = .ok (.ireturn, 1) := by decide +kernel
theorem dX7_hours_0 : decode cX7_hours 0 = .ok (.aload_n 0, 1) := by decide +kernel
theorem dX7_hours_1 : decode cX7_hours 1 = .ok (.iconst 0, 1) := by decide +kernel
theorem dX7_hours_2 : decode cX7_hours 2 = .ok (.putfield 48, 3) := by decide +kernel
theorem dX7_hours_5 : decode cX7_hours 5 = .ok (.iload_n 1, 1) := by decide +kernel
theorem dX7_hours_6 : decode cX7_hours 6 = .ok (.iconst 1, 1) := by decide +kernel
theorem dX7_hours_7 : decode cX7_hours 7 = .ok (.bipush 24, 2) := by decide +kernel
theorem dX7_hours_9 : decode cX7_hours 9 = .ok (.invokestatic 52, 3) := by decide +kernel
theorem dX7_hours_12 : decode cX7_hours 12 = .ok (.ifCond .eq 16, 3) := by decide +kernel
theorem dX7_hours_15 : decode cX7_hours 15 = .ok (.iload_n 2, 1) := by decide +kernel
theorem dX7_hours_16 : decode cX7_hours 16 = .ok (.sipush (-500), 3) := by decide +kernel
theorem dX7_hours_19 : decode cX7_hours 19 = .ok (.sipush 500, 3) := by decide +kernel
theorem dX7_hours_22 : decode cX7_hours 22 = .ok (.invokestatic 52, 3) := by decide +kernel
theorem dX7_hours_25 : decode cX7_hours 25 = .ok (.ifCond .ne 9, 3) := by decide +kernel
theorem dX7_hours_28 : decode cX7_hours 28 = .ok (.aload_n 0, 1) := by decide +kernel
theorem dX7_hours_29 : decode cX7_hours 29 = .ok (.iconst 1, 1) := by decide +kernel
theorem dX7_hours_30 : decode cX7_hours 30 = .ok (.invokevirtual 59, 3) := by decide +kernel
theorem dX7_hours_33 : decode cX7_hours 33 = .ok (.ireturn, 1) := by decide +kernel
theorem dX7_hours_34 : decode cX7_hours 34 = .ok (.aload_n 0, 1) := by decide +kernel
theorem dX7_hours_35 : decode cX7_hours 35 = .ok (.getfield 7, 3) := by decide +kernel
theorem dX7_hours_38 : decode cX7_hours 38 = .ok (.iconst 0, 1) := by decide +kernel
theorem dX7_hours_39 : decode cX7_hours 39 = .ok (.iaload, 1) := by decide +kernel
theorem dX7_hours_40 : decode cX7_hours 40 = .ok (.iload_n 1, 1) := by decide +kernel
theorem dX7_hours_41 : decode cX7_hours 41 = .ok (.iadd, 1) := by decide +kernel
theorem dX7_hours_42 : decode cX7_hours 42 = .ok (.sipush 9999, 3) := by decide +kernel
theorem dX7_hours_45 : decode cX7_hours 45 = .ok (.if_icmp .le 9, 3) := by decide +kernel
theorem dX7_hours_48 : decode cX7_hours 48 = .ok (.aload_n 0, 1) := by decide +kernel
theorem dX7_hours_49 : decode cX7_hours 49 = .ok (.iconst 2, 1) := by decide +kernel
theorem dX7_hours_50 : decode cX7_hours 50 = .ok (.invokevirtual 59, 3) := by decide +kernel
theorem dX7_hours_53 : decode cX7_hours 53 = .ok (.ireturn, 1) := by decide +kernel
theorem dX7_hours_54 : decode cX7_hours 54 = .ok (.aload_n 0, 1) := by decide +kernel
theorem dX7_hours_55 : decode cX7_hours 55 = .ok (.invokevirtual 63, 3) := by decide +kernel
theorem dX7_hours_58 : decode cX7_hours 58 = .ok (.iconst 0, 1) := by decide +kernel
theorem dX7_hours_59 : decode cX7_hours 59 = .ok (.istore_n 3, 1) := by decide +kernel
theorem dX7_hours_60 : decode cX7_hours 60 = .ok (.iload_n 3, 1) := by decide +kernel
theorem dX7_hours_61 : decode cX7_hours 61 = .ok (.iload_n 1, 1) := by decide +kernel
theorem dX7_hours_62 : decode cX7_hours 62 = .ok (.if_icmp .ge 55, 3) := by decide +kernel
theorem dX7_hours_65 : decode cX7_hours 65 = .ok (.aload_n 0, 1) := by decide +kernel
theorem dX7_hours_66 : decode cX7_hours 66 = .ok (.getfield 7, 3) := by decide +kernel
theorem dX7_hours_69 : decode cX7_hours 69 = .ok (.iconst 1, 1) := by decide +kernel
theorem dX7_hours_70 : decode cX7_hours 70 = .ok (.iaload, 1) := by decide +kernel
theorem dX7_hours_71 : decode cX7_hours 71 = .ok (.iload_n 2, 1) := by decide +kernel
theorem dX7_hours_72 : decode cX7_hours 72 = .ok (.iadd, 1) := by decide +kernel
theorem dX7_hours_73 : decode cX7_hours 73 = .ok (.istore 4, 2) := by decide +kernel
theorem dX7_hours_75 : decode cX7_hours 75 = .ok (.aload_n 0, 1) := by decide +kernel
theorem dX7_hours_76 : decode cX7_hours 76 = .ok (.iload 4, 2) := by decide +kernel
theorem dX7_hours_78 : decode cX7_hours 78 = .ok (.sipush (-5000), 3) := by decide +kernel
theorem dX7_hours_81 : decode cX7_hours 81 = .ok (.if_icmp .ge 9, 3) := by decide +kernel
theorem dX7_hours_84 : decode cX7_hours 84 = .ok (.sipush (-5000), 3) := by decide +kernel
theorem dX7_hours_87 : decode cX7_hours 87 = .ok (.goto 19, 3) := by decide +kernel
theorem dX7_hours_90 : decode cX7_hours 90 = .ok (.iload 4, 2) := by decide +kernel
theorem dX7_hours_92 : decode cX7_hours 92 = .ok (.sipush 5000, 3) := by decide +kernel
theorem dX7_hours_95 : decode cX7_hours 95 = .ok (.if_icmp .le 9, 3) := by decide +kernel
theorem dX7_hours_98 : decode cX7_hours 98 = .ok (.sipush 5000, 3) := by decide +kernel
theorem dX7_hours_101 : decode cX7_hours 101 = .ok (.goto 5, 3) := by decide +kernel
theorem dX7_hours_104 : decode cX7_hours 104 = .ok (.iload 4, 2) := by decide +kernel
theorem dX7_hours_106 : decode cX7_hours 106 = .ok (.invokevirtual 135, 3) := by decide +kernel
theorem dX7_hours_109 : decode cX7_hours 109 = .ok (.istore 5, 2) := by decide +kernel
theorem dX7_hours_111 : decode cX7_hours 111 = .ok (.iinc 3 1, 3) := by decide +kernel
theorem dX7_hours_114 : decode cX7_hours 114 = .ok (.goto (-54), 3) := by decide +kernel
theorem dX7_hours_117 : decode cX7_hours 117 = .ok (.aload_n 0, 1) := by decide +kernel
theorem dX7_hours_118 : decode cX7_hours 118 = .ok (.getfield 7, 3) := by decide +kernel
theorem dX7_hours_121 : decode cX7_hours 121 = .ok (.iconst 1, 1) := by decide +kernel
theorem dX7_hours_122 : decode cX7_hours 122 = .ok (.iaload, 1) := by decide +kernel
theorem dX7_hours_123 : decode cX7_hours 123 = .ok (.ireturn, 1) := by decide +kernel
theorem dX7_periodNow_0 : decode cX7_periodNow 0 = .ok (.aload_n 0, 1) := by decide +kernel
theorem dX7_periodNow_1 : decode cX7_periodNow 1 = .ok (.getfield 7, 3) := by decide +kernel
theorem dX7_periodNow_4 : decode cX7_periodNow 4 = .ok (.iconst 4, 1) := by decide +kernel
theorem dX7_periodNow_5 : decode cX7_periodNow 5 = .ok (.iload_n 1, 1) := by decide +kernel
theorem dX7_periodNow_6 : decode cX7_periodNow 6 = .ok (.iadd, 1) := by decide +kernel
theorem dX7_periodNow_7 : decode cX7_periodNow 7 = .ok (.iaload, 1) := by decide +kernel
theorem dX7_periodNow_8 : decode cX7_periodNow 8 = .ok (.istore_n 3, 1) := by decide +kernel
theorem dX7_periodNow_9 : decode cX7_periodNow 9 = .ok (.aload_n 0, 1) := by decide +kernel
theorem dX7_periodNow_10 : decode cX7_periodNow 10 = .ok (.getfield 7, 3) := by decide +kernel
theorem dX7_periodNow_13 : decode cX7_periodNow 13 = .ok (.iconst 4, 1) := by decide +kernel
theorem dX7_periodNow_14 : decode cX7_periodNow 14 = .ok (.iload_n 1, 1) := by decide +kernel
theorem dX7_periodNow_15 : decode cX7_periodNow 15 = .ok (.iadd, 1) := by decide +kernel
theorem dX7_periodNow_16 : decode cX7_periodNow 16 = .ok (.iload_n 2, 1) := by decide +kernel
theorem dX7_periodNow_17 : decode cX7_periodNow 17 = .ok (.iastore, 1) := by decide +kernel
theorem dX7_periodNow_18 : decode cX7_periodNow 18 = .ok (.iload_n 3, 1) := by decide +kernel
theorem dX7_periodNow_19 : decode cX7_periodNow 19 = .ok (.ireturn, 1) := by decide +kernel
theorem dX7_period_0 : decode cX7_period 0 = .ok (.aload_n 0, 1) := by decide +kernel
theorem dX7_period_1 : decode cX7_period 1 = .ok (.iconst 0, 1) := by decide +kernel
theorem dX7_period_2 : decode cX7_period 2 = .ok (.putfield 48, 3) := by decide +kernel
theorem dX7_period_5 : decode cX7_period 5 = .ok (.iload_n 1, 1) := by decide +kernel
theorem dX7_period_6 : decode cX7_period 6 = .ok (.invokestatic 122, 3) := by decide +kernel
theorem dX7_period_9 : decode cX7_period 9 = .ok (.ifCond .ne 9, 3) := by decide +kernel
theorem dX7_period_12 : decode cX7_period 12 = .ok (.aload_n 0, 1) := by decide +kernel
theorem dX7_period_13 : decode cX7_period 13 = .ok (.iconst 1, 1) := by decide +kernel
theorem dX7_period_14 : decode cX7_period 14 = .ok (.invokevirtual 59, 3) := by decide +kernel
theorem dX7_period_17 : decode cX7_period 17 = .ok (.ireturn, 1) := by decide +kernel
theorem dX7_period_18 : decode cX7_period 18 = .ok (.iload_n 2, 1) := by decide +kernel
theorem dX7_period_19 : decode cX7_period 19 = .ok (.iconst 1, 1) := by decide +kernel
theorem dX7_period_20 : decode cX7_period 20 = .ok (.bipush 6, 2) := by decide +kernel
theorem dX7_period_22 : decode cX7_period 22 = .ok (.invokestatic 52, 3) := by decide +kernel
theorem dX7_period_25 : decode cX7_period 25 = .ok (.ifCond .ne 9, 3) := by decide +kernel
theorem dX7_period_28 : decode cX7_period 28 = .ok (.aload_n 0, 1) := by decide +kernel
theorem dX7_period_29 : decode cX7_period 29 = .ok (.iconst 2, 1) := by decide +kernel
theorem dX7_period_30 : decode cX7_period 30 = .ok (.invokevirtual 59, 3) := by decide +kernel
theorem dX7_period_33 : decode cX7_period 33 = .ok (.ireturn, 1) := by decide +kernel
theorem dX7_period_34 : decode cX7_period 34 = .ok (.aload_n 0, 1) := by decide +kernel
theorem dX7_period_35 : decode cX7_period 35 = .ok (.invokevirtual 63, 3) := by decide +kernel
theorem dX7_period_38 : decode cX7_period 38 = .ok (.aload_n 0, 1) := by decide +kernel
theorem dX7_period_39 : decode cX7_period 39 = .ok (.iload_n 1, 1) := by decide +kernel
theorem dX7_period_40 : decode cX7_period 40 = .ok (.iload_n 2, 1) := by decide +kernel
theorem dX7_period_41 : decode cX7_period 41 = .ok (.invokevirtual 138, 3) := by decide +kernel
theorem dX7_period_44 : decode cX7_period 44 = .ok (.ireturn, 1) := by decide +kernel
theorem dX7_calibrateNow_0 : decode cX7_calibrateNow 0 = .ok (.aload_n 0, 1) := by decide +kernel
theorem dX7_calibrateNow_1 : decode cX7_calibrateNow 1 = .ok (.iload_n 1, 1) := by decide +kernel
theorem dX7_calibrateNow_2 : decode cX7_calibrateNow 2 = .ok (.iconst 5, 1) := by decide +kernel
theorem dX7_calibrateNow_3 : decode cX7_calibrateNow 3 = .ok (.invokevirtual 66, 3) := by decide +kernel
theorem dX7_calibrateNow_6 : decode cX7_calibrateNow 6 = .ok (.istore_n 2, 1) := by decide +kernel
theorem dX7_calibrateNow_7 : decode cX7_calibrateNow 7 = .ok (.aload_n 0, 1) := by decide +kernel
theorem dX7_calibrateNow_8 : decode cX7_calibrateNow 8 = .ok (.iload_n 1, 1) := by decide +kernel
theorem dX7_calibrateNow_9 : decode cX7_calibrateNow 9 = .ok (.iconst 4, 1) := by decide +kernel
theorem dX7_calibrateNow_10 : decode cX7_calibrateNow 10 = .ok (.aload_n 0, 1) := by decide +kernel
theorem dX7_calibrateNow_11 : decode cX7_calibrateNow 11 = .ok (.getfield 7, 3) := by decide +kernel
theorem dX7_calibrateNow_14 : decode cX7_calibrateNow 14 = .ok (.iconst 1, 1) := by decide +kernel
theorem dX7_calibrateNow_15 : decode cX7_calibrateNow 15 = .ok (.iaload, 1) := by decide +kernel
theorem dX7_calibrateNow_16 : decode cX7_calibrateNow 16 = .ok (.aload_n 0, 1) := by decide +kernel
theorem dX7_calibrateNow_17 : decode cX7_calibrateNow 17 = .ok (.iload_n 1, 1) := by decide +kernel
theorem dX7_calibrateNow_18 : decode cX7_calibrateNow 18 = .ok (.iconst 2, 1) := by decide +kernel
theorem dX7_calibrateNow_19 : decode cX7_calibrateNow 19 = .ok (.invokevirtual 66, 3) := by decide +kernel
theorem dX7_calibrateNow_22 : decode cX7_calibrateNow 22 = .ok (.iadd, 1) := by decide +kernel
theorem dX7_calibrateNow_23 : decode cX7_calibrateNow 23 = .ok (.invokevirtual 94, 3) := by decide +kernel
theorem dX7_calibrateNow_26 : decode cX7_calibrateNow 26 = .ok (.aload_n 0, 1) := by decide +kernel
theorem dX7_calibrateNow_27 : decode cX7_calibrateNow 27 = .ok (.iload_n 1, 1) := by decide +kernel
theorem dX7_calibrateNow_28 : decode cX7_calibrateNow 28 = .ok (.iconst 5, 1) := by decide +kernel
theorem dX7_calibrateNow_29 : decode cX7_calibrateNow 29 = .ok (.iconst 0, 1) := by decide +kernel
theorem dX7_calibrateNow_30 : decode cX7_calibrateNow 30 = .ok (.invokevirtual 94, 3) := by decide +kernel
theorem dX7_calibrateNow_33 : decode cX7_calibrateNow 33 = .ok (.aload_n 0, 1) := by decide +kernel
theorem dX7_calibrateNow_34 : decode cX7_calibrateNow 34 = .ok (.iload_n 1, 1) := by decide +kernel
theorem dX7_calibrateNow_35 : decode cX7_calibrateNow 35 = .ok (.bipush 6, 2) := by decide +kernel
theorem dX7_calibrateNow_37 : decode cX7_calibrateNow 37 = .ok (.iconst 0, 1) := by decide +kernel
theorem dX7_calibrateNow_38 : decode cX7_calibrateNow 38 = .ok (.invokevirtual 94, 3) := by decide +kernel
theorem dX7_calibrateNow_41 : decode cX7_calibrateNow 41 = .ok (.aload_n 0, 1) := by decide +kernel
theorem dX7_calibrateNow_42 : decode cX7_calibrateNow 42 = .ok (.iload_n 1, 1) := by decide +kernel
theorem dX7_calibrateNow_43 : decode cX7_calibrateNow 43 = .ok (.bipush 7, 2) := by decide +kernel
theorem dX7_calibrateNow_45 : decode cX7_calibrateNow 45 = .ok (.iconst 0, 1) := by decide +kernel
theorem dX7_calibrateNow_46 : decode cX7_calibrateNow 46 = .ok (.invokevirtual 94, 3) := by decide +kernel
theorem dX7_calibrateNow_49 : decode cX7_calibrateNow 49 = .ok (.iconst 0, 1) := by decide +kernel
theorem dX7_calibrateNow_50 : decode cX7_calibrateNow 50 = .ok (.istore_n 3, 1) := by decide +kernel
theorem dX7_calibrateNow_51 : decode cX7_calibrateNow 51 = .ok (.iload_n 3, 1) := by decide +kernel
theorem dX7_calibrateNow_52 : decode cX7_calibrateNow 52 = .ok (.bipush 12, 2) := by decide +kernel
theorem dX7_calibrateNow_54 : decode cX7_calibrateNow 54 = .ok (.if_icmp .ge 19, 3) := by decide +kernel
theorem dX7_calibrateNow_57 : decode cX7_calibrateNow 57 = .ok (.aload_n 0, 1) := by decide +kernel
theorem dX7_calibrateNow_58 : decode cX7_calibrateNow 58 = .ok (.iload_n 1, 1) := by decide +kernel
theorem dX7_calibrateNow_59 : decode cX7_calibrateNow 59 = .ok (.bipush 9, 2) := by decide +kernel
theorem dX7_calibrateNow_61 : decode cX7_calibrateNow 61 = .ok (.iload_n 3, 1) := by decide +kernel
theorem dX7_calibrateNow_62 : decode cX7_calibrateNow 62 = .ok (.iadd, 1) := by decide +kernel
theorem dX7_calibrateNow_63 : decode cX7_calibrateNow 63 = .ok (.iconst 0, 1) := by decide +kernel
theorem dX7_calibrateNow_64 : decode cX7_calibrateNow 64 = .ok (.invokevirtual 94, 3) := by decide +kernel
theorem dX7_calibrateNow_67 : decode cX7_calibrateNow 67 = .ok (.iinc 3 1, 3) := by decide +kernel
theorem dX7_calibrateNow_70 : decode cX7_calibrateNow 70 = .ok (.goto (-19), 3) := by decide +kernel
theorem dX7_calibrateNow_73 : decode cX7_calibrateNow 73 = .ok (.iload_n 2, 1) := by decide +kernel
theorem dX7_calibrateNow_74 : decode cX7_calibrateNow 74 = .ok (.ireturn, 1) := by decide +kernel
theorem dX7_calibrate_0 : decode cX7_calibrate 0 = .ok (.aload_n 0, 1) := by decide +kernel
theorem dX7_calibrate_1 : decode cX7_calibrate 1 = .ok (.iconst 0, 1) := by decide +kernel
theorem dX7_calibrate_2 : decode cX7_calibrate 2 = .ok (.putfield 48, 3) := by decide +kernel
theorem dX7_calibrate_5 : decode cX7_calibrate 5 = .ok (.aload_n 0, 1) := by decide +kernel
theorem dX7_calibrate_6 : decode cX7_calibrate 6 = .ok (.iload_n 1, 1) := by decide +kernel
theorem dX7_calibrate_7 : decode cX7_calibrate 7 = .ok (.invokevirtual 141, 3) := by decide +kernel
theorem dX7_calibrate_10 : decode cX7_calibrate 10 = .ok (.ifCond .ne 9, 3) := by decide +kernel
theorem dX7_calibrate_13 : decode cX7_calibrate 13 = .ok (.aload_n 0, 1) := by decide +kernel
theorem dX7_calibrate_14 : decode cX7_calibrate 14 = .ok (.iconst 1, 1) := by decide +kernel
theorem dX7_calibrate_15 : decode cX7_calibrate 15 = .ok (.invokevirtual 59, 3) := by decide +kernel
theorem dX7_calibrate_18 : decode cX7_calibrate 18 = .ok (.ireturn, 1) := by decide +kernel
theorem dX7_calibrate_19 : decode cX7_calibrate 19 = .ok (.aload_n 0, 1) := by decide +kernel
theorem dX7_calibrate_20 : decode cX7_calibrate 20 = .ok (.invokevirtual 63, 3) := by decide +kernel
theorem dX7_calibrate_23 : decode cX7_calibrate 23 = .ok (.aload_n 0, 1) := by decide +kernel
theorem dX7_calibrate_24 : decode cX7_calibrate 24 = .ok (.iload_n 1, 1) := by decide +kernel
theorem dX7_calibrate_25 : decode cX7_calibrate 25 = .ok (.invokevirtual 144, 3) := by decide +kernel
theorem dX7_calibrate_28 : decode cX7_calibrate 28 = .ok (.ireturn, 1) := by decide +kernel
theorem dX7_knock_0 : decode cX7_knock 0 = .ok (.aload_n 0, 1) := by decide +kernel
theorem dX7_knock_1 : decode cX7_knock 1 = .ok (.iconst 0, 1) := by decide +kernel
theorem dX7_knock_2 : decode cX7_knock 2 = .ok (.putfield 48, 3) := by decide +kernel
theorem dX7_knock_5 : decode cX7_knock 5 = .ok (.aload_n 0, 1) := by decide +kernel
theorem dX7_knock_6 : decode cX7_knock 6 = .ok (.iload_n 1, 1) := by decide +kernel
theorem dX7_knock_7 : decode cX7_knock 7 = .ok (.invokevirtual 141, 3) := by decide +kernel
theorem dX7_knock_10 : decode cX7_knock 10 = .ok (.ifCond .ne 9, 3) := by decide +kernel
theorem dX7_knock_13 : decode cX7_knock 13 = .ok (.aload_n 0, 1) := by decide +kernel
theorem dX7_knock_14 : decode cX7_knock 14 = .ok (.iconst 1, 1) := by decide +kernel
theorem dX7_knock_15 : decode cX7_knock 15 = .ok (.invokevirtual 59, 3) := by decide +kernel
theorem dX7_knock_18 : decode cX7_knock 18 = .ok (.ireturn, 1) := by decide +kernel
theorem dX7_knock_19 : decode cX7_knock 19 = .ok (.iload_n 2, 1) := by decide +kernel
theorem dX7_knock_20 : decode cX7_knock 20 = .ok (.sipush (-3000), 3) := by decide +kernel
theorem dX7_knock_23 : decode cX7_knock 23 = .ok (.sipush 3000, 3) := by decide +kernel
theorem dX7_knock_26 : decode cX7_knock 26 = .ok (.invokestatic 52, 3) := by decide +kernel
theorem dX7_knock_29 : decode cX7_knock 29 = .ok (.ifCond .ne 9, 3) := by decide +kernel
theorem dX7_knock_32 : decode cX7_knock 32 = .ok (.aload_n 0, 1) := by decide +kernel
theorem dX7_knock_33 : decode cX7_knock 33 = .ok (.iconst 2, 1) := by decide +kernel
theorem dX7_knock_34 : decode cX7_knock 34 = .ok (.invokevirtual 59, 3) := by decide +kernel
theorem dX7_knock_37 : decode cX7_knock 37 = .ok (.ireturn, 1) := by decide +kernel
theorem dX7_knock_38 : decode cX7_knock 38 = .ok (.aload_n 0, 1) := by decide +kernel
theorem dX7_knock_39 : decode cX7_knock 39 = .ok (.iload_n 1, 1) := by decide +kernel
theorem dX7_knock_40 : decode cX7_knock 40 = .ok (.iconst 4, 1) := by decide +kernel
theorem dX7_knock_41 : decode cX7_knock 41 = .ok (.invokevirtual 66, 3) := by decide +kernel
theorem dX7_knock_44 : decode cX7_knock 44 = .ok (.iload_n 2, 1) := by decide +kernel
theorem dX7_knock_45 : decode cX7_knock 45 = .ok (.iadd, 1) := by decide +kernel
theorem dX7_knock_46 : decode cX7_knock 46 = .ok (.istore_n 3, 1) := by decide +kernel
theorem dX7_knock_47 : decode cX7_knock 47 = .ok (.iload_n 3, 1) := by decide +kernel
theorem dX7_knock_48 : decode cX7_knock 48 = .ok (.sipush (-20000), 3) := by decide +kernel
theorem dX7_knock_51 : decode cX7_knock 51 = .ok (.sipush 20000, 3) := by decide +kernel
theorem dX7_knock_54 : decode cX7_knock 54 = .ok (.invokestatic 52, 3) := by decide +kernel
theorem dX7_knock_57 : decode cX7_knock 57 = .ok (.ifCond .ne 9, 3) := by decide +kernel
theorem dX7_knock_60 : decode cX7_knock 60 = .ok (.aload_n 0, 1) := by decide +kernel
theorem dX7_knock_61 : decode cX7_knock 61 = .ok (.iconst 3, 1) := by decide +kernel
theorem dX7_knock_62 : decode cX7_knock 62 = .ok (.invokevirtual 59, 3) := by decide +kernel
theorem dX7_knock_65 : decode cX7_knock 65 = .ok (.ireturn, 1) := by decide +kernel
theorem dX7_knock_66 : decode cX7_knock 66 = .ok (.aload_n 0, 1) := by decide +kernel
theorem dX7_knock_67 : decode cX7_knock 67 = .ok (.invokevirtual 63, 3) := by decide +kernel
theorem dX7_knock_70 : decode cX7_knock 70 = .ok (.aload_n 0, 1) := by decide +kernel
theorem dX7_knock_71 : decode cX7_knock 71 = .ok (.iload_n 1, 1) := by decide +kernel
theorem dX7_knock_72 : decode cX7_knock 72 = .ok (.iconst 4, 1) := by decide +kernel
theorem dX7_knock_73 : decode cX7_knock 73 = .ok (.iload_n 3, 1) := by decide +kernel
theorem dX7_knock_74 : decode cX7_knock 74 = .ok (.invokevirtual 94, 3) := by decide +kernel
theorem dX7_knock_77 : decode cX7_knock 77 = .ok (.iload_n 3, 1) := by decide +kernel
theorem dX7_knock_78 : decode cX7_knock 78 = .ok (.ldc 147, 2) := by decide +kernel
theorem dX7_knock_80 : decode cX7_knock 80 = .ok (.iadd, 1) := by decide +kernel
theorem dX7_knock_81 : decode cX7_knock 81 = .ok (.ireturn, 1) := by decide +kernel
theorem dX7_set_0 : decode cX7_set 0 = .ok (.aload_n 0, 1) := by decide +kernel
theorem dX7_set_1 : decode cX7_set 1 = .ok (.iconst 0, 1) := by decide +kernel
theorem dX7_set_2 : decode cX7_set 2 = .ok (.putfield 48, 3) := by decide +kernel
theorem dX7_set_5 : decode cX7_set 5 = .ok (.iload_n 1, 1) := by decide +kernel
theorem dX7_set_6 : decode cX7_set 6 = .ok (.iconst 0, 1) := by decide +kernel
theorem dX7_set_7 : decode cX7_set 7 = .ok (.iconst 1, 1) := by decide +kernel
theorem dX7_set_8 : decode cX7_set 8 = .ok (.invokestatic 52, 3) := by decide +kernel
theorem dX7_set_11 : decode cX7_set 11 = .ok (.ifCond .ne 9, 3) := by decide +kernel
theorem dX7_set_14 : decode cX7_set 14 = .ok (.aload_n 0, 1) := by decide +kernel
theorem dX7_set_15 : decode cX7_set 15 = .ok (.iconst 1, 1) := by decide +kernel
theorem dX7_set_16 : decode cX7_set 16 = .ok (.invokevirtual 59, 3) := by decide +kernel
theorem dX7_set_19 : decode cX7_set 19 = .ok (.ireturn, 1) := by decide +kernel
theorem dX7_set_20 : decode cX7_set 20 = .ok (.iload_n 1, 1) := by decide +kernel
theorem dX7_set_21 : decode cX7_set 21 = .ok (.ifCond .ne 18, 3) := by decide +kernel
theorem dX7_set_24 : decode cX7_set 24 = .ok (.iload_n 2, 1) := by decide +kernel
theorem dX7_set_25 : decode cX7_set 25 = .ok (.bipush 10, 2) := by decide +kernel
theorem dX7_set_27 : decode cX7_set 27 = .ok (.sipush 2000, 3) := by decide +kernel
theorem dX7_set_30 : decode cX7_set 30 = .ok (.invokestatic 52, 3) := by decide +kernel
theorem dX7_set_33 : decode cX7_set 33 = .ok (.ifCond .eq 15, 3) := by decide +kernel
theorem dX7_set_36 : decode cX7_set 36 = .ok (.goto 18, 3) := by decide +kernel
theorem dX7_set_39 : decode cX7_set 39 = .ok (.iload_n 2, 1) := by decide +kernel
theorem dX7_set_40 : decode cX7_set 40 = .ok (.iconst 1, 1) := by decide +kernel
theorem dX7_set_41 : decode cX7_set 41 = .ok (.iconst 5, 1) := by decide +kernel
theorem dX7_set_42 : decode cX7_set 42 = .ok (.invokestatic 52, 3) := by decide +kernel
theorem dX7_set_45 : decode cX7_set 45 = .ok (.ifCond .ne 9, 3) := by decide +kernel
theorem dX7_set_48 : decode cX7_set 48 = .ok (.aload_n 0, 1) := by decide +kernel
theorem dX7_set_49 : decode cX7_set 49 = .ok (.iconst 2, 1) := by decide +kernel
theorem dX7_set_50 : decode cX7_set 50 = .ok (.invokevirtual 59, 3) := by decide +kernel
theorem dX7_set_53 : decode cX7_set 53 = .ok (.ireturn, 1) := by decide +kernel
theorem dX7_set_54 : decode cX7_set 54 = .ok (.aload_n 0, 1) := by decide +kernel
theorem dX7_set_55 : decode cX7_set 55 = .ok (.invokevirtual 63, 3) := by decide +kernel
theorem dX7_set_58 : decode cX7_set 58 = .ok (.aload_n 0, 1) := by decide +kernel
theorem dX7_set_59 : decode cX7_set 59 = .ok (.getfield 7, 3) := by decide +kernel
theorem dX7_set_62 : decode cX7_set 62 = .ok (.iconst 2, 1) := by decide +kernel
theorem dX7_set_63 : decode cX7_set 63 = .ok (.iload_n 1, 1) := by decide +kernel
theorem dX7_set_64 : decode cX7_set 64 = .ok (.iadd, 1) := by decide +kernel
theorem dX7_set_65 : decode cX7_set 65 = .ok (.iaload, 1) := by decide +kernel
theorem dX7_set_66 : decode cX7_set 66 = .ok (.istore_n 3, 1) := by decide +kernel
theorem dX7_set_67 : decode cX7_set 67 = .ok (.aload_n 0, 1) := by decide +kernel
theorem dX7_set_68 : decode cX7_set 68 = .ok (.getfield 7, 3) := by decide +kernel
theorem dX7_set_71 : decode cX7_set 71 = .ok (.iconst 2, 1) := by decide +kernel
theorem dX7_set_72 : decode cX7_set 72 = .ok (.iload_n 1, 1) := by decide +kernel
theorem dX7_set_73 : decode cX7_set 73 = .ok (.iadd, 1) := by decide +kernel
theorem dX7_set_74 : decode cX7_set 74 = .ok (.iload_n 2, 1) := by decide +kernel
theorem dX7_set_75 : decode cX7_set 75 = .ok (.iastore, 1) := by decide +kernel
theorem dX7_set_76 : decode cX7_set 76 = .ok (.iload_n 3, 1) := by decide +kernel
theorem dX7_set_77 : decode cX7_set 77 = .ok (.ireturn, 1) := by decide +kernel
theorem dX7_append_0 : decode cX7_append 0 = .ok (.aload_n 0, 1) := by decide +kernel
theorem dX7_append_1 : decode cX7_append 1 = .ok (.iconst 0, 1) := by decide +kernel
theorem dX7_append_2 : decode cX7_append 2 = .ok (.putfield 48, 3) := by decide +kernel
theorem dX7_append_5 : decode cX7_append 5 = .ok (.iload_n 1, 1) := by decide +kernel
theorem dX7_append_6 : decode cX7_append 6 = .ok (.bipush 33, 2) := by decide +kernel
theorem dX7_append_8 : decode cX7_append 8 = .ok (.bipush 126, 2) := by decide +kernel
theorem dX7_append_10 : decode cX7_append 10 = .ok (.invokestatic 52, 3) := by decide +kernel
theorem dX7_append_13 : decode cX7_append 13 = .ok (.ifCond .ne 9, 3) := by decide +kernel
theorem dX7_append_16 : decode cX7_append 16 = .ok (.aload_n 0, 1) := by decide +kernel
theorem dX7_append_17 : decode cX7_append 17 = .ok (.iconst 1, 1) := by decide +kernel
theorem dX7_append_18 : decode cX7_append 18 = .ok (.invokevirtual 59, 3) := by decide +kernel
theorem dX7_append_21 : decode cX7_append 21 = .ok (.ireturn, 1) := by decide +kernel
theorem dX7_append_22 : decode cX7_append 22 = .ok (.aload_n 0, 1) := by decide +kernel
theorem dX7_append_23 : decode cX7_append 23 = .ok (.getfield 148, 3) := by decide +kernel
theorem dX7_append_26 : decode cX7_append 26 = .ok (.bipush 60, 2) := by decide +kernel
theorem dX7_append_28 : decode cX7_append 28 = .ok (.if_icmp .ne 9, 3) := by decide +kernel
theorem dX7_append_31 : decode cX7_append 31 = .ok (.aload_n 0, 1) := by decide +kernel
theorem dX7_append_32 : decode cX7_append 32 = .ok (.iconst 2, 1) := by decide +kernel
theorem dX7_append_33 : decode cX7_append 33 = .ok (.invokevirtual 59, 3) := by decide +kernel
theorem dX7_append_36 : decode cX7_append 36 = .ok (.ireturn, 1) := by decide +kernel
theorem dX7_append_37 : decode cX7_append 37 = .ok (.aload_n 0, 1) := by decide +kernel
theorem dX7_append_38 : decode cX7_append 38 = .ok (.getfield 32, 3) := by decide +kernel
theorem dX7_append_41 : decode cX7_append 41 = .ok (.aload_n 0, 1) := by decide +kernel
theorem dX7_append_42 : decode cX7_append 42 = .ok (.getfield 148, 3) := by decide +kernel
theorem dX7_append_45 : decode cX7_append 45 = .ok (.iload_n 1, 1) := by decide +kernel
theorem dX7_append_46 : decode cX7_append 46 = .ok (.iastore, 1) := by decide +kernel
theorem dX7_append_47 : decode cX7_append 47 = .ok (.aload_n 0, 1) := by decide +kernel
theorem dX7_append_48 : decode cX7_append 48 = .ok (.dup, 1) := by decide +kernel
theorem dX7_append_49 : decode cX7_append 49 = .ok (.getfield 148, 3) := by decide +kernel
theorem dX7_append_52 : decode cX7_append 52 = .ok (.iconst 1, 1) := by decide +kernel
theorem dX7_append_53 : decode cX7_append 53 = .ok (.iadd, 1) := by decide +kernel
theorem dX7_append_54 : decode cX7_append 54 = .ok (.putfield 148, 3) := by decide +kernel
theorem dX7_append_57 : decode cX7_append 57 = .ok (.aload_n 0, 1) := by decide +kernel
theorem dX7_append_58 : decode cX7_append 58 = .ok (.getfield 148, 3) := by decide +kernel
theorem dX7_append_61 : decode cX7_append 61 = .ok (.ireturn, 1) := by decide +kernel
theorem dX7_clearBuffer_0 : decode cX7_clearBuffer 0 = .ok (.aload_n 0, 1) := by decide +kernel
theorem dX7_clearBuffer_1 : decode cX7_clearBuffer 1 = .ok (.iconst 0, 1) := by decide +kernel
theorem dX7_clearBuffer_2 : decode cX7_clearBuffer 2 = .ok (.putfield 48, 3) := by decide +kernel
theorem dX7_clearBuffer_5 : decode cX7_clearBuffer 5 = .ok (.aload_n 0, 1) := by decide +kernel
theorem dX7_clearBuffer_6 : decode cX7_clearBuffer 6 = .ok (.getfield 148, 3) := by decide +kernel
theorem dX7_clearBuffer_9 : decode cX7_clearBuffer 9 = .ok (.istore_n 1, 1) := by decide +kernel
theorem dX7_clearBuffer_10 : decode cX7_clearBuffer 10 = .ok (.aload_n 0, 1) := by decide +kernel
theorem dX7_clearBuffer_11 : decode cX7_clearBuffer 11 = .ok (.iconst 0, 1) := by decide +kernel
theorem dX7_clearBuffer_12 : decode cX7_clearBuffer 12 = .ok (.putfield 148, 3) := by decide +kernel
theorem dX7_clearBuffer_15 : decode cX7_clearBuffer 15 = .ok (.iload_n 1, 1) := by decide +kernel
theorem dX7_clearBuffer_16 : decode cX7_clearBuffer 16 = .ok (.ireturn, 1) := by decide +kernel
theorem dX7_takes_0 : decode cX7_takes 0 = .ok (.aload_n 0, 1) := by decide +kernel
theorem dX7_takes_1 : decode cX7_takes 1 = .ok (.getfield 151, 3) := by decide +kernel
theorem dX7_takes_4 : decode cX7_takes 4 = .ok (.aload_n 0, 1) := by decide +kernel
theorem dX7_takes_5 : decode cX7_takes 5 = .ok (.getfield 148, 3) := by decide +kernel
theorem dX7_takes_8 : decode cX7_takes 8 = .ok (.if_icmp .ge 24, 3) := by decide +kernel
theorem dX7_takes_11 : decode cX7_takes 11 = .ok (.aload_n 0, 1) := by decide +kernel
theorem dX7_takes_12 : decode cX7_takes 12 = .ok (.getfield 32, 3) := by decide +kernel
theorem dX7_takes_15 : decode cX7_takes 15 = .ok (.aload_n 0, 1) := by decide +kernel
theorem dX7_takes_16 : decode cX7_takes 16 = .ok (.getfield 151, 3) := by decide +kernel
theorem dX7_takes_19 : decode cX7_takes 19 = .ok (.iaload, 1) := by decide +kernel
theorem dX7_takes_20 : decode cX7_takes 20 = .ok (.iload_n 1, 1) := by decide +kernel
theorem dX7_takes_21 : decode cX7_takes 21 = .ok (.iload_n 2, 1) := by decide +kernel
theorem dX7_takes_22 : decode cX7_takes 22 = .ok (.invokestatic 52, 3) := by decide +kernel
theorem dX7_takes_25 : decode cX7_takes 25 = .ok (.ifCond .eq 7, 3) := by decide +kernel
theorem dX7_takes_28 : decode cX7_takes 28 = .ok (.iconst 1, 1) := by decide +kernel
theorem dX7_takes_29 : decode cX7_takes 29 = .ok (.goto 4, 3) := by decide +kernel
theorem dX7_takes_32 : decode cX7_takes 32 = .ok (.iconst 0, 1) := by decide +kernel
theorem dX7_takes_33 : decode cX7_takes 33 = .ok (.istore_n 3, 1) := by decide +kernel
theorem dX7_takes_34 : decode cX7_takes 34 = .ok (.aload_n 0, 1) := by decide +kernel
theorem dX7_takes_35 : decode cX7_takes 35 = .ok (.dup, 1) := by decide +kernel
theorem dX7_takes_36 : decode cX7_takes 36 = .ok (.getfield 151, 3) := by decide +kernel
theorem dX7_takes_39 : decode cX7_takes 39 = .ok (.iload_n 3, 1) := by decide +kernel
theorem dX7_takes_40 : decode cX7_takes 40 = .ok (.ifCond .eq 7, 3) := by decide +kernel
theorem dX7_takes_43 : decode cX7_takes 43 = .ok (.iconst 1, 1) := by decide +kernel
theorem dX7_takes_44 : decode cX7_takes 44 = .ok (.goto 4, 3) := by decide +kernel
theorem dX7_takes_47 : decode cX7_takes 47 = .ok (.iconst 0, 1) := by decide +kernel
theorem dX7_takes_48 : decode cX7_takes 48 = .ok (.iadd, 1) := by decide +kernel
theorem dX7_takes_49 : decode cX7_takes 49 = .ok (.putfield 151, 3) := by decide +kernel
theorem dX7_takes_52 : decode cX7_takes 52 = .ok (.iload_n 3, 1) := by decide +kernel
theorem dX7_takes_53 : decode cX7_takes 53 = .ok (.ireturn, 1) := by decide +kernel
theorem dX7_digit_0 : decode cX7_digit 0 = .ok (.aload_n 0, 1) := by decide +kernel
theorem dX7_digit_1 : decode cX7_digit 1 = .ok (.getfield 32, 3) := by decide +kernel
theorem dX7_digit_4 : decode cX7_digit 4 = .ok (.aload_n 0, 1) := by decide +kernel
theorem dX7_digit_5 : decode cX7_digit 5 = .ok (.getfield 151, 3) := by decide +kernel
theorem dX7_digit_8 : decode cX7_digit 8 = .ok (.iconst 1, 1) := by decide +kernel
theorem dX7_digit_9 : decode cX7_digit 9 = .ok (.isub, 1) := by decide +kernel
theorem dX7_digit_10 : decode cX7_digit 10 = .ok (.iaload, 1) := by decide +kernel
theorem dX7_digit_11 : decode cX7_digit 11 = .ok (.bipush 48, 2) := by decide +kernel
theorem dX7_digit_13 : decode cX7_digit 13 = .ok (.isub, 1) := by decide +kernel
theorem dX7_digit_14 : decode cX7_digit 14 = .ok (.ireturn, 1) := by decide +kernel
theorem dX7_readDegrees_0 : decode cX7_readDegrees 0 = .ok (.aload_n 0, 1) := by decide +kernel
theorem dX7_readDegrees_1 : decode cX7_readDegrees 1 = .ok (.bipush 45, 2) := by decide +kernel
theorem dX7_readDegrees_3 : decode cX7_readDegrees 3 = .ok (.bipush 45, 2) := by decide +kernel
theorem dX7_readDegrees_5 : decode cX7_readDegrees 5 = .ok (.invokevirtual 154, 3) := by decide +kernel
theorem dX7_readDegrees_8 : decode cX7_readDegrees 8 = .ok (.istore_n 1, 1) := by decide +kernel
theorem dX7_readDegrees_9 : decode cX7_readDegrees 9 = .ok (.aload_n 0, 1) := by decide +kernel
theorem dX7_readDegrees_10 : decode cX7_readDegrees 10 = .ok (.bipush 48, 2) := by decide +kernel
theorem dX7_readDegrees_12 : decode cX7_readDegrees 12 = .ok (.bipush 57, 2) := by decide +kernel
theorem dX7_readDegrees_14 : decode cX7_readDegrees 14 = .ok (.invokevirtual 154, 3) := by decide +kernel
theorem dX7_readDegrees_17 : decode cX7_readDegrees 17 = .ok (.ifCond .ne 5, 3) := by decide +kernel
theorem dX7_readDegrees_20 : decode cX7_readDegrees 20 = .ok (.iconst 0, 1) := by decide +kernel
theorem dX7_readDegrees_21 : decode cX7_readDegrees 21 = .ok (.ireturn, 1) := by decide +kernel
theorem dX7_readDegrees_22 : decode cX7_readDegrees 22 = .ok (.aload_n 0, 1) := by decide +kernel
theorem dX7_readDegrees_23 : decode cX7_readDegrees 23 = .ok (.invokevirtual 158, 3) := by decide +kernel
theorem dX7_readDegrees_26 : decode cX7_readDegrees 26 = .ok (.istore_n 2, 1) := by decide +kernel
theorem dX7_readDegrees_27 : decode cX7_readDegrees 27 = .ok (.iload_n 2, 1) := by decide +kernel
theorem dX7_readDegrees_28 : decode cX7_readDegrees 28 = .ok (.iconst 5, 1) := by decide +kernel
theorem dX7_readDegrees_29 : decode cX7_readDegrees 29 = .ok (.if_icmp .ne 17, 3) := by decide +kernel
theorem dX7_readDegrees_32 : decode cX7_readDegrees 32 = .ok (.aload_n 0, 1) := by decide +kernel
theorem dX7_readDegrees_33 : decode cX7_readDegrees 33 = .ok (.bipush 48, 2) := by decide +kernel
theorem dX7_readDegrees_35 : decode cX7_readDegrees 35 = .ok (.bipush 48, 2) := by decide +kernel
theorem dX7_readDegrees_37 : decode cX7_readDegrees 37 = .ok (.invokevirtual 154, 3) := by decide +kernel
theorem dX7_readDegrees_40 : decode cX7_readDegrees 40 = .ok (.ifCond .eq 36, 3) := by decide +kernel
theorem dX7_readDegrees_43 : decode cX7_readDegrees 43 = .ok (.goto 23, 3) := by decide +kernel
theorem dX7_readDegrees_46 : decode cX7_readDegrees 46 = .ok (.iload_n 2, 1) := by decide +kernel
theorem dX7_readDegrees_47 : decode cX7_readDegrees 47 = .ok (.ifCond .le 29, 3) := by decide +kernel
theorem dX7_readDegrees_50 : decode cX7_readDegrees 50 = .ok (.iload_n 2, 1) := by decide +kernel
theorem dX7_readDegrees_51 : decode cX7_readDegrees 51 = .ok (.iconst 5, 1) := by decide +kernel
theorem dX7_readDegrees_52 : decode cX7_readDegrees 52 = .ok (.if_icmp .ge 24, 3) := by decide +kernel
theorem dX7_readDegrees_55 : decode cX7_readDegrees 55 = .ok (.aload_n 0, 1) := by decide +kernel
theorem dX7_readDegrees_56 : decode cX7_readDegrees 56 = .ok (.bipush 48, 2) := by decide +kernel
theorem dX7_readDegrees_58 : decode cX7_readDegrees 58 = .ok (.bipush 57, 2) := by decide +kernel
theorem dX7_readDegrees_60 : decode cX7_readDegrees 60 = .ok (.invokevirtual 154, 3) := by decide +kernel
theorem dX7_readDegrees_63 : decode cX7_readDegrees 63 = .ok (.ifCond .eq 13, 3) := by decide +kernel
theorem dX7_readDegrees_66 : decode cX7_readDegrees 66 = .ok (.bipush 10, 2) := by decide +kernel
theorem dX7_readDegrees_68 : decode cX7_readDegrees 68 = .ok (.iload_n 2, 1) := by decide +kernel
theorem dX7_readDegrees_69 : decode cX7_readDegrees 69 = .ok (.imul, 1) := by decide +kernel
theorem dX7_readDegrees_70 : decode cX7_readDegrees 70 = .ok (.aload_n 0, 1) := by decide +kernel
theorem dX7_readDegrees_71 : decode cX7_readDegrees 71 = .ok (.invokevirtual 158, 3) := by decide +kernel
theorem dX7_readDegrees_74 : decode cX7_readDegrees 74 = .ok (.iadd, 1) := by decide +kernel
theorem dX7_readDegrees_75 : decode cX7_readDegrees 75 = .ok (.istore_n 2, 1) := by decide +kernel
theorem dX7_readDegrees_76 : decode cX7_readDegrees 76 = .ok (.aload_n 0, 1) := by decide +kernel
theorem dX7_readDegrees_77 : decode cX7_readDegrees 77 = .ok (.getfield 38, 3) := by decide +kernel
theorem dX7_readDegrees_80 : decode cX7_readDegrees 80 = .ok (.aload_n 0, 1) := by decide +kernel
theorem dX7_readDegrees_81 : decode cX7_readDegrees 81 = .ok (.getfield 161, 3) := by decide +kernel
theorem dX7_readDegrees_84 : decode cX7_readDegrees 84 = .ok (.iload_n 1, 1) := by decide +kernel
theorem dX7_readDegrees_85 : decode cX7_readDegrees 85 = .ok (.ifCond .eq 8, 3) := by decide +kernel
theorem dX7_readDegrees_88 : decode cX7_readDegrees 88 = .ok (.iload_n 2, 1) := by decide +kernel
theorem dX7_readDegrees_89 : decode cX7_readDegrees 89 = .ok (.ineg, 1) := by decide +kernel
theorem dX7_readDegrees_90 : decode cX7_readDegrees 90 = .ok (.goto 4, 3) := by decide +kernel
theorem dX7_readDegrees_93 : decode cX7_readDegrees 93 = .ok (.iload_n 2, 1) := by decide +kernel
theorem dX7_readDegrees_94 : decode cX7_readDegrees 94 = .ok (.iastore, 1) := by decide +kernel
theorem dX7_readDegrees_95 : decode cX7_readDegrees 95 = .ok (.iconst 1, 1) := by decide +kernel
theorem dX7_readDegrees_96 : decode cX7_readDegrees 96 = .ok (.ireturn, 1) := by decide +kernel
theorem dX7_readNew_0 : decode cX7_readNew 0 = .ok (.aload_n 0, 1) := by decide +kernel
theorem dX7_readNew_1 : decode cX7_readNew 1 = .ok (.bipush 48, 2) := by decide +kernel
theorem dX7_readNew_3 : decode cX7_readNew 3 = .ok (.bipush 51, 2) := by decide +kernel
theorem dX7_readNew_5 : decode cX7_readNew 5 = .ok (.invokevirtual 154, 3) := by decide +kernel
theorem dX7_readNew_8 : decode cX7_readNew 8 = .ok (.ifCond .ne 5, 3) := by decide +kernel
theorem dX7_readNew_11 : decode cX7_readNew 11 = .ok (.iconst 0, 1) := by decide +kernel
theorem dX7_readNew_12 : decode cX7_readNew 12 = .ok (.ireturn, 1) := by decide +kernel
theorem dX7_readNew_13 : decode cX7_readNew 13 = .ok (.aload_n 0, 1) := by decide +kernel
theorem dX7_readNew_14 : decode cX7_readNew 14 = .ok (.getfield 38, 3) := by decide +kernel
theorem dX7_readNew_17 : decode cX7_readNew 17 = .ok (.aload_n 0, 1) := by decide +kernel
theorem dX7_readNew_18 : decode cX7_readNew 18 = .ok (.getfield 161, 3) := by decide +kernel
theorem dX7_readNew_21 : decode cX7_readNew 21 = .ok (.aload_n 0, 1) := by decide +kernel
theorem dX7_readNew_22 : decode cX7_readNew 22 = .ok (.invokevirtual 158, 3) := by decide +kernel
theorem dX7_readNew_25 : decode cX7_readNew 25 = .ok (.iastore, 1) := by decide +kernel
theorem dX7_readNew_26 : decode cX7_readNew 26 = .ok (.aload_n 0, 1) := by decide +kernel
theorem dX7_readNew_27 : decode cX7_readNew 27 = .ok (.bipush 44, 2) := by decide +kernel
theorem dX7_readNew_29 : decode cX7_readNew 29 = .ok (.bipush 44, 2) := by decide +kernel
theorem dX7_readNew_31 : decode cX7_readNew 31 = .ok (.invokevirtual 154, 3) := by decide +kernel
theorem dX7_readNew_34 : decode cX7_readNew 34 = .ok (.ifCond .eq 14, 3) := by decide +kernel
theorem dX7_readNew_37 : decode cX7_readNew 37 = .ok (.aload_n 0, 1) := by decide +kernel
theorem dX7_readNew_38 : decode cX7_readNew 38 = .ok (.bipush 49, 2) := by decide +kernel
theorem dX7_readNew_40 : decode cX7_readNew 40 = .ok (.bipush 57, 2) := by decide +kernel
theorem dX7_readNew_42 : decode cX7_readNew 42 = .ok (.invokevirtual 154, 3) := by decide +kernel
theorem dX7_readNew_45 : decode cX7_readNew 45 = .ok (.ifCond .ne 5, 3) := by decide +kernel
theorem dX7_readNew_48 : decode cX7_readNew 48 = .ok (.iconst 0, 1) := by decide +kernel
theorem dX7_readNew_49 : decode cX7_readNew 49 = .ok (.ireturn, 1) := by decide +kernel
theorem dX7_readNew_50 : decode cX7_readNew 50 = .ok (.aload_n 0, 1) := by decide +kernel
theorem dX7_readNew_51 : decode cX7_readNew 51 = .ok (.getfield 41, 3) := by decide +kernel
theorem dX7_readNew_54 : decode cX7_readNew 54 = .ok (.aload_n 0, 1) := by decide +kernel
theorem dX7_readNew_55 : decode cX7_readNew 55 = .ok (.getfield 161, 3) := by decide +kernel
theorem dX7_readNew_58 : decode cX7_readNew 58 = .ok (.aload_n 0, 1) := by decide +kernel
theorem dX7_readNew_59 : decode cX7_readNew 59 = .ok (.invokevirtual 158, 3) := by decide +kernel
theorem dX7_readNew_62 : decode cX7_readNew 62 = .ok (.iastore, 1) := by decide +kernel
theorem dX7_readNew_63 : decode cX7_readNew 63 = .ok (.aload_n 0, 1) := by decide +kernel
theorem dX7_readNew_64 : decode cX7_readNew 64 = .ok (.getfield 44, 3) := by decide +kernel
theorem dX7_readNew_67 : decode cX7_readNew 67 = .ok (.aload_n 0, 1) := by decide +kernel
theorem dX7_readNew_68 : decode cX7_readNew 68 = .ok (.getfield 161, 3) := by decide +kernel
theorem dX7_readNew_71 : decode cX7_readNew 71 = .ok (.iconst 1, 1) := by decide +kernel
theorem dX7_readNew_72 : decode cX7_readNew 72 = .ok (.iastore, 1) := by decide +kernel
theorem dX7_readNew_73 : decode cX7_readNew 73 = .ok (.aload_n 0, 1) := by decide +kernel
theorem dX7_readNew_74 : decode cX7_readNew 74 = .ok (.bipush 42, 2) := by decide +kernel
theorem dX7_readNew_76 : decode cX7_readNew 76 = .ok (.bipush 42, 2) := by decide +kernel
theorem dX7_readNew_78 : decode cX7_readNew 78 = .ok (.invokevirtual 154, 3) := by decide +kernel
theorem dX7_readNew_81 : decode cX7_readNew 81 = .ok (.ifCond .eq 29, 3) := by decide +kernel
theorem dX7_readNew_84 : decode cX7_readNew 84 = .ok (.aload_n 0, 1) := by decide +kernel
theorem dX7_readNew_85 : decode cX7_readNew 85 = .ok (.bipush 49, 2) := by decide +kernel
theorem dX7_readNew_87 : decode cX7_readNew 87 = .ok (.bipush 53, 2) := by decide +kernel
theorem dX7_readNew_89 : decode cX7_readNew 89 = .ok (.invokevirtual 154, 3) := by decide +kernel
theorem dX7_readNew_92 : decode cX7_readNew 92 = .ok (.ifCond .ne 5, 3) := by decide +kernel
theorem dX7_readNew_95 : decode cX7_readNew 95 = .ok (.iconst 0, 1) := by decide +kernel
theorem dX7_readNew_96 : decode cX7_readNew 96 = .ok (.ireturn, 1) := by decide +kernel
theorem dX7_readNew_97 : decode cX7_readNew 97 = .ok (.aload_n 0, 1) := by decide +kernel
theorem dX7_readNew_98 : decode cX7_readNew 98 = .ok (.getfield 44, 3) := by decide +kernel
theorem dX7_readNew_101 : decode cX7_readNew 101 = .ok (.aload_n 0, 1) := by decide +kernel
theorem dX7_readNew_102 : decode cX7_readNew 102 = .ok (.getfield 161, 3) := by decide +kernel
theorem dX7_readNew_105 : decode cX7_readNew 105 = .ok (.aload_n 0, 1) := by decide +kernel
theorem dX7_readNew_106 : decode cX7_readNew 106 = .ok (.invokevirtual 158, 3) := by decide +kernel
theorem dX7_readNew_109 : decode cX7_readNew 109 = .ok (.iastore, 1) := by decide +kernel
theorem dX7_readNew_110 : decode cX7_readNew 110 = .ok (.iconst 1, 1) := by decide +kernel
theorem dX7_readNew_111 : decode cX7_readNew 111 = .ok (.ireturn, 1) := by decide +kernel
theorem dX7_readPeriod_0 : decode cX7_readPeriod 0 = .ok (.aload_n 0, 1) := by decide +kernel
theorem dX7_readPeriod_1 : decode cX7_readPeriod 1 = .ok (.bipush 48, 2) := by decide +kernel
theorem dX7_readPeriod_3 : decode cX7_readPeriod 3 = .ok (.bipush 51, 2) := by decide +kernel
theorem dX7_readPeriod_5 : decode cX7_readPeriod 5 = .ok (.invokevirtual 154, 3) := by decide +kernel
theorem dX7_readPeriod_8 : decode cX7_readPeriod 8 = .ok (.ifCond .ne 5, 3) := by decide +kernel
theorem dX7_readPeriod_11 : decode cX7_readPeriod 11 = .ok (.iconst 0, 1) := by decide +kernel
theorem dX7_readPeriod_12 : decode cX7_readPeriod 12 = .ok (.ireturn, 1) := by decide +kernel
theorem dX7_readPeriod_13 : decode cX7_readPeriod 13 = .ok (.aload_n 0, 1) := by decide +kernel
theorem dX7_readPeriod_14 : decode cX7_readPeriod 14 = .ok (.getfield 38, 3) := by decide +kernel
theorem dX7_readPeriod_17 : decode cX7_readPeriod 17 = .ok (.aload_n 0, 1) := by decide +kernel
theorem dX7_readPeriod_18 : decode cX7_readPeriod 18 = .ok (.getfield 161, 3) := by decide +kernel
theorem dX7_readPeriod_21 : decode cX7_readPeriod 21 = .ok (.aload_n 0, 1) := by decide +kernel
theorem dX7_readPeriod_22 : decode cX7_readPeriod 22 = .ok (.invokevirtual 158, 3) := by decide +kernel
theorem dX7_readPeriod_25 : decode cX7_readPeriod 25 = .ok (.iastore, 1) := by decide +kernel
theorem dX7_readPeriod_26 : decode cX7_readPeriod 26 = .ok (.aload_n 0, 1) := by decide +kernel
theorem dX7_readPeriod_27 : decode cX7_readPeriod 27 = .ok (.bipush 47, 2) := by decide +kernel
theorem dX7_readPeriod_29 : decode cX7_readPeriod 29 = .ok (.bipush 47, 2) := by decide +kernel
theorem dX7_readPeriod_31 : decode cX7_readPeriod 31 = .ok (.invokevirtual 154, 3) := by decide +kernel
theorem dX7_readPeriod_34 : decode cX7_readPeriod 34 = .ok (.ifCond .eq 14, 3) := by decide +kernel
theorem dX7_readPeriod_37 : decode cX7_readPeriod 37 = .ok (.aload_n 0, 1) := by decide +kernel
theorem dX7_readPeriod_38 : decode cX7_readPeriod 38 = .ok (.bipush 49, 2) := by decide +kernel
theorem dX7_readPeriod_40 : decode cX7_readPeriod 40 = .ok (.bipush 54, 2) := by decide +kernel
theorem dX7_readPeriod_42 : decode cX7_readPeriod 42 = .ok (.invokevirtual 154, 3) := by decide +kernel
theorem dX7_readPeriod_45 : decode cX7_readPeriod 45 = .ok (.ifCond .ne 5, 3) := by decide +kernel
theorem dX7_readPeriod_48 : decode cX7_readPeriod 48 = .ok (.iconst 0, 1) := by decide +kernel
theorem dX7_readPeriod_49 : decode cX7_readPeriod 49 = .ok (.ireturn, 1) := by decide +kernel
theorem dX7_readPeriod_50 : decode cX7_readPeriod 50 = .ok (.aload_n 0, 1) := by decide +kernel
theorem dX7_readPeriod_51 : decode cX7_readPeriod 51 = .ok (.getfield 41, 3) := by decide +kernel
theorem dX7_readPeriod_54 : decode cX7_readPeriod 54 = .ok (.aload_n 0, 1) := by decide +kernel
theorem dX7_readPeriod_55 : decode cX7_readPeriod 55 = .ok (.getfield 161, 3) := by decide +kernel
theorem dX7_readPeriod_58 : decode cX7_readPeriod 58 = .ok (.aload_n 0, 1) := by decide +kernel
theorem dX7_readPeriod_59 : decode cX7_readPeriod 59 = .ok (.invokevirtual 158, 3) := by decide +kernel
theorem dX7_readPeriod_62 : decode cX7_readPeriod 62 = .ok (.iastore, 1) := by decide +kernel
theorem dX7_readPeriod_63 : decode cX7_readPeriod 63 = .ok (.iconst 1, 1) := by decide +kernel
theorem dX7_readPeriod_64 : decode cX7_readPeriod 64 = .ok (.ireturn, 1) := by decide +kernel
theorem dX7_readCalibrated_0 : decode cX7_readCalibrated 0 = .ok (.aload_n 0, 1) := by decide +kernel
theorem dX7_readCalibrated_1 : decode cX7_readCalibrated 1 = .ok (.bipush 48, 2) := by decide +kernel
theorem dX7_readCalibrated_3 : decode cX7_readCalibrated 3 = .ok (.bipush 57, 2) := by decide +kernel
theorem dX7_readCalibrated_5 : decode cX7_readCalibrated 5 = .ok (.invokevirtual 154, 3) := by decide +kernel
theorem dX7_readCalibrated_8 : decode cX7_readCalibrated 8 = .ok (.ifCond .ne 5, 3) := by decide +kernel
theorem dX7_readCalibrated_11 : decode cX7_readCalibrated 11 = .ok (.iconst 0, 1) := by decide +kernel
theorem dX7_readCalibrated_12 : decode cX7_readCalibrated 12 = .ok (.ireturn, 1) := by decide +kernel
theorem dX7_readCalibrated_13 : decode cX7_readCalibrated 13 = .ok (.aload_n 0, 1) := by decide +kernel
theorem dX7_readCalibrated_14 : decode cX7_readCalibrated 14 = .ok (.getfield 38, 3) := by decide +kernel
theorem dX7_readCalibrated_17 : decode cX7_readCalibrated 17 = .ok (.aload_n 0, 1) := by decide +kernel
theorem dX7_readCalibrated_18 : decode cX7_readCalibrated 18 = .ok (.getfield 161, 3) := by decide +kernel
theorem dX7_readCalibrated_21 : decode cX7_readCalibrated 21 = .ok (.aload_n 0, 1) := by decide +kernel
theorem dX7_readCalibrated_22 : decode cX7_readCalibrated 22 = .ok (.invokevirtual 158, 3) := by decide +kernel
theorem dX7_readCalibrated_25 : decode cX7_readCalibrated 25 = .ok (.iastore, 1) := by decide +kernel
theorem dX7_readCalibrated_26 : decode cX7_readCalibrated 26 = .ok (.iconst 1, 1) := by decide +kernel
theorem dX7_readCalibrated_27 : decode cX7_readCalibrated 27 = .ok (.ireturn, 1) := by decide +kernel
theorem dX7_readOrder_0 : decode cX7_readOrder 0 = .ok (.aload_n 0, 1) := by decide +kernel
theorem dX7_readOrder_1 : decode cX7_readOrder 1 = .ok (.getfield 151, 3) := by decide +kernel
theorem dX7_readOrder_4 : decode cX7_readOrder 4 = .ok (.aload_n 0, 1) := by decide +kernel
theorem dX7_readOrder_5 : decode cX7_readOrder 5 = .ok (.getfield 148, 3) := by decide +kernel
theorem dX7_readOrder_8 : decode cX7_readOrder 8 = .ok (.if_icmp .ge 15, 3) := by decide +kernel
theorem dX7_readOrder_11 : decode cX7_readOrder 11 = .ok (.aload_n 0, 1) := by decide +kernel
theorem dX7_readOrder_12 : decode cX7_readOrder 12 = .ok (.getfield 32, 3) := by decide +kernel
theorem dX7_readOrder_15 : decode cX7_readOrder 15 = .ok (.aload_n 0, 1) := by decide +kernel
theorem dX7_readOrder_16 : decode cX7_readOrder 16 = .ok (.getfield 151, 3) := by decide +kernel
theorem dX7_readOrder_19 : decode cX7_readOrder 19 = .ok (.iaload, 1) := by decide +kernel
theorem dX7_readOrder_20 : decode cX7_readOrder 20 = .ok (.goto 4, 3) := by decide +kernel
theorem dX7_readOrder_23 : decode cX7_readOrder 23 = .ok (.iconst 0, 1) := by decide +kernel
theorem dX7_readOrder_24 : decode cX7_readOrder 24 = .ok (.istore_n 1, 1) := by decide +kernel
theorem dX7_readOrder_25 : decode cX7_readOrder 25 = .ok (.iload_n 1, 1) := by decide +kernel
theorem dX7_readOrder_26 : decode cX7_readOrder 26 = .ok (.bipush 116, 2) := by decide +kernel
theorem dX7_readOrder_28 : decode cX7_readOrder 28 = .ok (.if_icmp .eq 21, 3) := by decide +kernel
theorem dX7_readOrder_31 : decode cX7_readOrder 31 = .ok (.iload_n 1, 1) := by decide +kernel
theorem dX7_readOrder_32 : decode cX7_readOrder 32 = .ok (.bipush 104, 2) := by decide +kernel
theorem dX7_readOrder_34 : decode cX7_readOrder 34 = .ok (.if_icmp .eq 15, 3) := by decide +kernel
theorem dX7_readOrder_37 : decode cX7_readOrder 37 = .ok (.iload_n 1, 1) := by decide +kernel
theorem dX7_readOrder_38 : decode cX7_readOrder 38 = .ok (.bipush 112, 2) := by decide +kernel
theorem dX7_readOrder_40 : decode cX7_readOrder 40 = .ok (.if_icmp .eq 9, 3) := by decide +kernel
theorem dX7_readOrder_43 : decode cX7_readOrder 43 = .ok (.iload_n 1, 1) := by decide +kernel
theorem dX7_readOrder_44 : decode cX7_readOrder 44 = .ok (.bipush 99, 2) := by decide +kernel
theorem dX7_readOrder_46 : decode cX7_readOrder 46 = .ok (.if_icmp .ne 7, 3) := by decide +kernel
theorem dX7_readOrder_49 : decode cX7_readOrder 49 = .ok (.iconst 1, 1) := by decide +kernel
theorem dX7_readOrder_50 : decode cX7_readOrder 50 = .ok (.goto 4, 3) := by decide +kernel
theorem dX7_readOrder_53 : decode cX7_readOrder 53 = .ok (.iconst 0, 1) := by decide +kernel
theorem dX7_readOrder_54 : decode cX7_readOrder 54 = .ok (.istore_n 2, 1) := by decide +kernel
theorem dX7_readOrder_55 : decode cX7_readOrder 55 = .ok (.aload_n 0, 1) := by decide +kernel
theorem dX7_readOrder_56 : decode cX7_readOrder 56 = .ok (.dup, 1) := by decide +kernel
theorem dX7_readOrder_57 : decode cX7_readOrder 57 = .ok (.getfield 151, 3) := by decide +kernel
theorem dX7_readOrder_60 : decode cX7_readOrder 60 = .ok (.iload_n 2, 1) := by decide +kernel
theorem dX7_readOrder_61 : decode cX7_readOrder 61 = .ok (.ifCond .eq 7, 3) := by decide +kernel
theorem dX7_readOrder_64 : decode cX7_readOrder 64 = .ok (.iconst 1, 1) := by decide +kernel
theorem dX7_readOrder_65 : decode cX7_readOrder 65 = .ok (.goto 4, 3) := by decide +kernel
theorem dX7_readOrder_68 : decode cX7_readOrder 68 = .ok (.iconst 0, 1) := by decide +kernel
theorem dX7_readOrder_69 : decode cX7_readOrder 69 = .ok (.iadd, 1) := by decide +kernel
theorem dX7_readOrder_70 : decode cX7_readOrder 70 = .ok (.putfield 151, 3) := by decide +kernel
theorem dX7_readOrder_73 : decode cX7_readOrder 73 = .ok (.iload_n 2, 1) := by decide +kernel
theorem dX7_readOrder_74 : decode cX7_readOrder 74 = .ok (.ifCond .eq 62, 3) := by decide +kernel
theorem dX7_readOrder_77 : decode cX7_readOrder 77 = .ok (.iload_n 1, 1) := by decide +kernel
theorem dX7_readOrder_78 : decode cX7_readOrder 78 = .ok (.bipush 116, 2) := by decide +kernel
theorem dX7_readOrder_80 : decode cX7_readOrder 80 = .ok (.if_icmp .ne 13, 3) := by decide +kernel
theorem dX7_readOrder_83 : decode cX7_readOrder 83 = .ok (.aload_n 0, 1) := by decide +kernel
theorem dX7_readOrder_84 : decode cX7_readOrder 84 = .ok (.invokevirtual 164, 3) := by decide +kernel
theorem dX7_readOrder_87 : decode cX7_readOrder 87 = .ok (.ifCond .eq 49, 3) := by decide +kernel
theorem dX7_readOrder_90 : decode cX7_readOrder 90 = .ok (.goto 42, 3) := by decide +kernel
theorem dX7_readOrder_93 : decode cX7_readOrder 93 = .ok (.iload_n 1, 1) := by decide +kernel
theorem dX7_readOrder_94 : decode cX7_readOrder 94 = .ok (.bipush 104, 2) := by decide +kernel
theorem dX7_readOrder_96 : decode cX7_readOrder 96 = .ok (.if_icmp .ne 13, 3) := by decide +kernel
theorem dX7_readOrder_99 : decode cX7_readOrder 99 = .ok (.aload_n 0, 1) := by decide +kernel
theorem dX7_readOrder_100 : decode cX7_readOrder 100 = .ok (.invokevirtual 168, 3) := by decide +kernel
theorem dX7_readOrder_103 : decode cX7_readOrder 103 = .ok (.ifCond .eq 33, 3) := by decide +kernel
theorem dX7_readOrder_106 : decode cX7_readOrder 106 = .ok (.goto 26, 3) := by decide +kernel
theorem dX7_readOrder_109 : decode cX7_readOrder 109 = .ok (.iload_n 1, 1) := by decide +kernel
theorem dX7_readOrder_110 : decode cX7_readOrder 110 = .ok (.bipush 112, 2) := by decide +kernel
theorem dX7_readOrder_112 : decode cX7_readOrder 112 = .ok (.if_icmp .ne 13, 3) := by decide +kernel
theorem dX7_readOrder_115 : decode cX7_readOrder 115 = .ok (.aload_n 0, 1) := by decide +kernel
theorem dX7_readOrder_116 : decode cX7_readOrder 116 = .ok (.invokevirtual 171, 3) := by decide +kernel
theorem dX7_readOrder_119 : decode cX7_readOrder 119 = .ok (.ifCond .eq 17, 3) := by decide +kernel
theorem dX7_readOrder_122 : decode cX7_readOrder 122 = .ok (.goto 10, 3) := by decide +kernel
theorem dX7_readOrder_125 : decode cX7_readOrder 125 = .ok (.aload_n 0, 1) := by decide +kernel
theorem dX7_readOrder_126 : decode cX7_readOrder 126 = .ok (.invokevirtual 174, 3) := by decide +kernel
theorem dX7_readOrder_129 : decode cX7_readOrder 129 = .ok (.ifCond .eq 7, 3) := by decide +kernel
theorem dX7_readOrder_132 : decode cX7_readOrder 132 = .ok (.iconst 1, 1) := by decide +kernel
theorem dX7_readOrder_133 : decode cX7_readOrder 133 = .ok (.goto 4, 3) := by decide +kernel
theorem dX7_readOrder_136 : decode cX7_readOrder 136 = .ok (.iconst 0, 1) := by decide +kernel
theorem dX7_readOrder_137 : decode cX7_readOrder 137 = .ok (.istore_n 2, 1) := by decide +kernel
theorem dX7_readOrder_138 : decode cX7_readOrder 138 = .ok (.iload_n 2, 1) := by decide +kernel
theorem dX7_readOrder_139 : decode cX7_readOrder 139 = .ok (.ifCond .eq 23, 3) := by decide +kernel
theorem dX7_readOrder_142 : decode cX7_readOrder 142 = .ok (.aload_n 0, 1) := by decide +kernel
theorem dX7_readOrder_143 : decode cX7_readOrder 143 = .ok (.getfield 35, 3) := by decide +kernel
theorem dX7_readOrder_146 : decode cX7_readOrder 146 = .ok (.aload_n 0, 1) := by decide +kernel
theorem dX7_readOrder_147 : decode cX7_readOrder 147 = .ok (.getfield 161, 3) := by decide +kernel
theorem dX7_readOrder_150 : decode cX7_readOrder 150 = .ok (.iload_n 1, 1) := by decide +kernel
theorem dX7_readOrder_151 : decode cX7_readOrder 151 = .ok (.iastore, 1) := by decide +kernel
theorem dX7_readOrder_152 : decode cX7_readOrder 152 = .ok (.aload_n 0, 1) := by decide +kernel
theorem dX7_readOrder_153 : decode cX7_readOrder 153 = .ok (.dup, 1) := by decide +kernel
theorem dX7_readOrder_154 : decode cX7_readOrder 154 = .ok (.getfield 161, 3) := by decide +kernel
theorem dX7_readOrder_157 : decode cX7_readOrder 157 = .ok (.iconst 1, 1) := by decide +kernel
theorem dX7_readOrder_158 : decode cX7_readOrder 158 = .ok (.iadd, 1) := by decide +kernel
theorem dX7_readOrder_159 : decode cX7_readOrder 159 = .ok (.putfield 161, 3) := by decide +kernel
theorem dX7_readOrder_162 : decode cX7_readOrder 162 = .ok (.iload_n 2, 1) := by decide +kernel
theorem dX7_readOrder_163 : decode cX7_readOrder 163 = .ok (.ireturn, 1) := by decide +kernel
theorem dX7_isComplete_0 : decode cX7_isComplete 0 = .ok (.aload_n 0, 1) := by decide +kernel
theorem dX7_isComplete_1 : decode cX7_isComplete 1 = .ok (.iconst 0, 1) := by decide +kernel
theorem dX7_isComplete_2 : decode cX7_isComplete 2 = .ok (.putfield 151, 3) := by decide +kernel
theorem dX7_isComplete_5 : decode cX7_isComplete 5 = .ok (.aload_n 0, 1) := by decide +kernel
theorem dX7_isComplete_6 : decode cX7_isComplete 6 = .ok (.iconst 0, 1) := by decide +kernel
theorem dX7_isComplete_7 : decode cX7_isComplete 7 = .ok (.putfield 161, 3) := by decide +kernel
theorem dX7_isComplete_10 : decode cX7_isComplete 10 = .ok (.aload_n 0, 1) := by decide +kernel
theorem dX7_isComplete_11 : decode cX7_isComplete 11 = .ok (.invokevirtual 177, 3) := by decide +kernel
theorem dX7_isComplete_14 : decode cX7_isComplete 14 = .ok (.istore_n 1, 1) := by decide +kernel
theorem dX7_isComplete_15 : decode cX7_isComplete 15 = .ok (.iload_n 1, 1) := by decide +kernel
theorem dX7_isComplete_16 : decode cX7_isComplete 16 = .ok (.ifCond .eq 22, 3) := by decide +kernel
theorem dX7_isComplete_19 : decode cX7_isComplete 19 = .ok (.aload_n 0, 1) := by decide +kernel
theorem dX7_isComplete_20 : decode cX7_isComplete 20 = .ok (.bipush 59, 2) := by decide +kernel
theorem dX7_isComplete_22 : decode cX7_isComplete 22 = .ok (.bipush 59, 2) := by decide +kernel
theorem dX7_isComplete_24 : decode cX7_isComplete 24 = .ok (.invokevirtual 154, 3) := by decide +kernel
theorem dX7_isComplete_27 : decode cX7_isComplete 27 = .ok (.ifCond .eq 11, 3) := by decide +kernel
theorem dX7_isComplete_30 : decode cX7_isComplete 30 = .ok (.aload_n 0, 1) := by decide +kernel
theorem dX7_isComplete_31 : decode cX7_isComplete 31 = .ok (.invokevirtual 177, 3) := by decide +kernel
theorem dX7_isComplete_34 : decode cX7_isComplete 34 = .ok (.istore_n 1, 1) := by decide +kernel
theorem dX7_isComplete_35 : decode cX7_isComplete 35 = .ok (.goto (-20), 3) := by decide +kernel
theorem dX7_isComplete_38 : decode cX7_isComplete 38 = .ok (.iload_n 1, 1) := by decide +kernel
theorem dX7_isComplete_39 : decode cX7_isComplete 39 = .ok (.ifCond .eq 18, 3) := by decide +kernel
theorem dX7_isComplete_42 : decode cX7_isComplete 42 = .ok (.aload_n 0, 1) := by decide +kernel
theorem dX7_isComplete_43 : decode cX7_isComplete 43 = .ok (.getfield 151, 3) := by decide +kernel
theorem dX7_isComplete_46 : decode cX7_isComplete 46 = .ok (.aload_n 0, 1) := by decide +kernel
theorem dX7_isComplete_47 : decode cX7_isComplete 47 = .ok (.getfield 148, 3) := by decide +kernel
theorem dX7_isComplete_50 : decode cX7_isComplete 50 = .ok (.if_icmp .ne 7, 3) := by decide +kernel
theorem dX7_isComplete_53 : decode cX7_isComplete 53 = .ok (.iconst 1, 1) := by decide +kernel
theorem dX7_isComplete_54 : decode cX7_isComplete 54 = .ok (.goto 4, 3) := by decide +kernel
theorem dX7_isComplete_57 : decode cX7_isComplete 57 = .ok (.iconst 0, 1) := by decide +kernel
theorem dX7_isComplete_58 : decode cX7_isComplete 58 = .ok (.ireturn, 1) := by decide +kernel
theorem dX7_firstError_0 : decode cX7_firstError 0 = .ok (.aload_n 0, 1) := by decide +kernel
theorem dX7_firstError_1 : decode cX7_firstError 1 = .ok (.iconst 0, 1) := by decide +kernel
theorem dX7_firstError_2 : decode cX7_firstError 2 = .ok (.putfield 48, 3) := by decide +kernel
theorem dX7_firstError_5 : decode cX7_firstError 5 = .ok (.aload_n 0, 1) := by decide +kernel
theorem dX7_firstError_6 : decode cX7_firstError 6 = .ok (.invokevirtual 180, 3) := by decide +kernel
theorem dX7_firstError_9 : decode cX7_firstError 9 = .ok (.ifCond .eq 10, 3) := by decide +kernel
theorem dX7_firstError_12 : decode cX7_firstError 12 = .ok (.aload_n 0, 1) := by decide +kernel
theorem dX7_firstError_13 : decode cX7_firstError 13 = .ok (.getfield 148, 3) := by decide +kernel
theorem dX7_firstError_16 : decode cX7_firstError 16 = .ok (.goto 7, 3) := by decide +kernel
theorem dX7_firstError_19 : decode cX7_firstError 19 = .ok (.aload_n 0, 1) := by decide +kernel
theorem dX7_firstError_20 : decode cX7_firstError 20 = .ok (.getfield 151, 3) := by decide +kernel
theorem dX7_firstError_23 : decode cX7_firstError 23 = .ok (.ireturn, 1) := by decide +kernel
theorem dX7_canDo_0 : decode cX7_canDo 0 = .ok (.aload_n 0, 1) := by decide +kernel
theorem dX7_canDo_1 : decode cX7_canDo 1 = .ok (.getfield 35, 3) := by decide +kernel
theorem dX7_canDo_4 : decode cX7_canDo 4 = .ok (.iload_n 1, 1) := by decide +kernel
theorem dX7_canDo_5 : decode cX7_canDo 5 = .ok (.iaload, 1) := by decide +kernel
theorem dX7_canDo_6 : decode cX7_canDo 6 = .ok (.bipush 116, 2) := by decide +kernel
theorem dX7_canDo_8 : decode cX7_canDo 8 = .ok (.if_icmp .ne 23, 3) := by decide +kernel
theorem dX7_canDo_11 : decode cX7_canDo 11 = .ok (.aload_n 0, 1) := by decide +kernel
theorem dX7_canDo_12 : decode cX7_canDo 12 = .ok (.getfield 7, 3) := by decide +kernel
theorem dX7_canDo_15 : decode cX7_canDo 15 = .ok (.bipush 15, 2) := by decide +kernel
theorem dX7_canDo_17 : decode cX7_canDo 17 = .ok (.iaload, 1) := by decide +kernel
theorem dX7_canDo_18 : decode cX7_canDo 18 = .ok (.bipush 10, 2) := by decide +kernel
theorem dX7_canDo_20 : decode cX7_canDo 20 = .ok (.if_icmp .ge 7, 3) := by decide +kernel
theorem dX7_canDo_23 : decode cX7_canDo 23 = .ok (.iconst 1, 1) := by decide +kernel
theorem dX7_canDo_24 : decode cX7_canDo 24 = .ok (.goto 67, 3) := by decide +kernel
theorem dX7_canDo_27 : decode cX7_canDo 27 = .ok (.iconst 0, 1) := by decide +kernel
theorem dX7_canDo_28 : decode cX7_canDo 28 = .ok (.goto 63, 3) := by decide +kernel
theorem dX7_canDo_31 : decode cX7_canDo 31 = .ok (.aload_n 0, 1) := by decide +kernel
theorem dX7_canDo_32 : decode cX7_canDo 32 = .ok (.getfield 35, 3) := by decide +kernel
theorem dX7_canDo_35 : decode cX7_canDo 35 = .ok (.iload_n 1, 1) := by decide +kernel
theorem dX7_canDo_36 : decode cX7_canDo 36 = .ok (.iaload, 1) := by decide +kernel
theorem dX7_canDo_37 : decode cX7_canDo 37 = .ok (.bipush 104, 2) := by decide +kernel
theorem dX7_canDo_39 : decode cX7_canDo 39 = .ok (.if_icmp .ne 23, 3) := by decide +kernel
theorem dX7_canDo_42 : decode cX7_canDo 42 = .ok (.aload_n 0, 1) := by decide +kernel
theorem dX7_canDo_43 : decode cX7_canDo 43 = .ok (.getfield 7, 3) := by decide +kernel
theorem dX7_canDo_46 : decode cX7_canDo 46 = .ok (.iconst 0, 1) := by decide +kernel
theorem dX7_canDo_47 : decode cX7_canDo 47 = .ok (.iaload, 1) := by decide +kernel
theorem dX7_canDo_48 : decode cX7_canDo 48 = .ok (.sipush 9999, 3) := by decide +kernel
theorem dX7_canDo_51 : decode cX7_canDo 51 = .ok (.if_icmp .ge 7, 3) := by decide +kernel
theorem dX7_canDo_54 : decode cX7_canDo 54 = .ok (.iconst 1, 1) := by decide +kernel
theorem dX7_canDo_55 : decode cX7_canDo 55 = .ok (.goto 36, 3) := by decide +kernel
theorem dX7_canDo_58 : decode cX7_canDo 58 = .ok (.iconst 0, 1) := by decide +kernel
theorem dX7_canDo_59 : decode cX7_canDo 59 = .ok (.goto 32, 3) := by decide +kernel
theorem dX7_canDo_62 : decode cX7_canDo 62 = .ok (.aload_n 0, 1) := by decide +kernel
theorem dX7_canDo_63 : decode cX7_canDo 63 = .ok (.getfield 35, 3) := by decide +kernel
theorem dX7_canDo_66 : decode cX7_canDo 66 = .ok (.iload_n 1, 1) := by decide +kernel
theorem dX7_canDo_67 : decode cX7_canDo 67 = .ok (.iaload, 1) := by decide +kernel
theorem dX7_canDo_68 : decode cX7_canDo 68 = .ok (.bipush 112, 2) := by decide +kernel
theorem dX7_canDo_70 : decode cX7_canDo 70 = .ok (.if_icmp .eq 16, 3) := by decide +kernel
theorem dX7_canDo_73 : decode cX7_canDo 73 = .ok (.aload_n 0, 1) := by decide +kernel
theorem dX7_canDo_74 : decode cX7_canDo 74 = .ok (.aload_n 0, 1) := by decide +kernel
theorem dX7_canDo_75 : decode cX7_canDo 75 = .ok (.getfield 38, 3) := by decide +kernel
theorem dX7_canDo_78 : decode cX7_canDo 78 = .ok (.iload_n 1, 1) := by decide +kernel
theorem dX7_canDo_79 : decode cX7_canDo 79 = .ok (.iaload, 1) := by decide +kernel
theorem dX7_canDo_80 : decode cX7_canDo 80 = .ok (.invokevirtual 141, 3) := by decide +kernel
theorem dX7_canDo_83 : decode cX7_canDo 83 = .ok (.ifCond .eq 7, 3) := by decide +kernel
theorem dX7_canDo_86 : decode cX7_canDo 86 = .ok (.iconst 1, 1) := by decide +kernel
theorem dX7_canDo_87 : decode cX7_canDo 87 = .ok (.goto 4, 3) := by decide +kernel
theorem dX7_canDo_90 : decode cX7_canDo 90 = .ok (.iconst 0, 1) := by decide +kernel
theorem dX7_canDo_91 : decode cX7_canDo 91 = .ok (.ireturn, 1) := by decide +kernel
theorem dX7_doOrder_0 : decode cX7_doOrder 0 = .ok (.aload_n 0, 1) := by decide +kernel
theorem dX7_doOrder_1 : decode cX7_doOrder 1 = .ok (.getfield 35, 3) := by decide +kernel
theorem dX7_doOrder_4 : decode cX7_doOrder 4 = .ok (.iload_n 1, 1) := by decide +kernel
theorem dX7_doOrder_5 : decode cX7_doOrder 5 = .ok (.iaload, 1) := by decide +kernel
theorem dX7_doOrder_6 : decode cX7_doOrder 6 = .ok (.lookupswitch 89 #[(104, 58), (112, 72), (116, 34)], 34) := by decide +kernel
theorem dX7_doOrder_40 : decode cX7_doOrder 40 = .ok (.aload_n 0, 1) := by decide +kernel
theorem dX7_doOrder_41 : decode cX7_doOrder 41 = .ok (.aload_n 0, 1) := by decide +kernel
theorem dX7_doOrder_42 : decode cX7_doOrder 42 = .ok (.getfield 38, 3) := by decide +kernel
theorem dX7_doOrder_45 : decode cX7_doOrder 45 = .ok (.iload_n 1, 1) := by decide +kernel
theorem dX7_doOrder_46 : decode cX7_doOrder 46 = .ok (.iaload, 1) := by decide +kernel
theorem dX7_doOrder_47 : decode cX7_doOrder 47 = .ok (.aload_n 0, 1) := by decide +kernel
theorem dX7_doOrder_48 : decode cX7_doOrder 48 = .ok (.getfield 41, 3) := by decide +kernel
theorem dX7_doOrder_51 : decode cX7_doOrder 51 = .ok (.iload_n 1, 1) := by decide +kernel
theorem dX7_doOrder_52 : decode cX7_doOrder 52 = .ok (.iaload, 1) := by decide +kernel
theorem dX7_doOrder_53 : decode cX7_doOrder 53 = .ok (.iconst 0, 1) := by decide +kernel
theorem dX7_doOrder_54 : decode cX7_doOrder 54 = .ok (.aload_n 0, 1) := by decide +kernel
theorem dX7_doOrder_55 : decode cX7_doOrder 55 = .ok (.getfield 44, 3) := by decide +kernel
theorem dX7_doOrder_58 : decode cX7_doOrder 58 = .ok (.iload_n 1, 1) := by decide +kernel
theorem dX7_doOrder_59 : decode cX7_doOrder 59 = .ok (.iaload, 1) := by decide +kernel
theorem dX7_doOrder_60 : decode cX7_doOrder 60 = .ok (.invokevirtual 128, 3) := by decide +kernel
theorem dX7_doOrder_63 : decode cX7_doOrder 63 = .ok (.ireturn, 1) := by decide +kernel
theorem dX7_doOrder_64 : decode cX7_doOrder 64 = .ok (.aload_n 0, 1) := by decide +kernel
theorem dX7_doOrder_65 : decode cX7_doOrder 65 = .ok (.bipush 100, 2) := by decide +kernel
theorem dX7_doOrder_67 : decode cX7_doOrder 67 = .ok (.aload_n 0, 1) := by decide +kernel
theorem dX7_doOrder_68 : decode cX7_doOrder 68 = .ok (.getfield 38, 3) := by decide +kernel
theorem dX7_doOrder_71 : decode cX7_doOrder 71 = .ok (.iload_n 1, 1) := by decide +kernel
theorem dX7_doOrder_72 : decode cX7_doOrder 72 = .ok (.iaload, 1) := by decide +kernel
theorem dX7_doOrder_73 : decode cX7_doOrder 73 = .ok (.imul, 1) := by decide +kernel
theorem dX7_doOrder_74 : decode cX7_doOrder 74 = .ok (.invokevirtual 135, 3) := by decide +kernel
theorem dX7_doOrder_77 : decode cX7_doOrder 77 = .ok (.ireturn, 1) := by decide +kernel
theorem dX7_doOrder_78 : decode cX7_doOrder 78 = .ok (.aload_n 0, 1) := by decide +kernel
theorem dX7_doOrder_79 : decode cX7_doOrder 79 = .ok (.aload_n 0, 1) := by decide +kernel
theorem dX7_doOrder_80 : decode cX7_doOrder 80 = .ok (.getfield 38, 3) := by decide +kernel
theorem dX7_doOrder_83 : decode cX7_doOrder 83 = .ok (.iload_n 1, 1) := by decide +kernel
theorem dX7_doOrder_84 : decode cX7_doOrder 84 = .ok (.iaload, 1) := by decide +kernel
theorem dX7_doOrder_85 : decode cX7_doOrder 85 = .ok (.aload_n 0, 1) := by decide +kernel
theorem dX7_doOrder_86 : decode cX7_doOrder 86 = .ok (.getfield 41, 3) := by decide +kernel
theorem dX7_doOrder_89 : decode cX7_doOrder 89 = .ok (.iload_n 1, 1) := by decide +kernel
theorem dX7_doOrder_90 : decode cX7_doOrder 90 = .ok (.iaload, 1) := by decide +kernel
theorem dX7_doOrder_91 : decode cX7_doOrder 91 = .ok (.invokevirtual 138, 3) := by decide +kernel
theorem dX7_doOrder_94 : decode cX7_doOrder 94 = .ok (.ireturn, 1) := by decide +kernel
theorem dX7_doOrder_95 : decode cX7_doOrder 95 = .ok (.aload_n 0, 1) := by decide +kernel
theorem dX7_doOrder_96 : decode cX7_doOrder 96 = .ok (.aload_n 0, 1) := by decide +kernel
theorem dX7_doOrder_97 : decode cX7_doOrder 97 = .ok (.getfield 38, 3) := by decide +kernel
theorem dX7_doOrder_100 : decode cX7_doOrder 100 = .ok (.iload_n 1, 1) := by decide +kernel
theorem dX7_doOrder_101 : decode cX7_doOrder 101 = .ok (.iaload, 1) := by decide +kernel
theorem dX7_doOrder_102 : decode cX7_doOrder 102 = .ok (.invokevirtual 144, 3) := by decide +kernel
theorem dX7_doOrder_105 : decode cX7_doOrder 105 = .ok (.ireturn, 1) := by decide +kernel
theorem dX7_execute_0 : decode cX7_execute 0 = .ok (.aload_n 0, 1) := by decide +kernel
theorem dX7_execute_1 : decode cX7_execute 1 = .ok (.iconst 0, 1) := by decide +kernel
theorem dX7_execute_2 : decode cX7_execute 2 = .ok (.putfield 48, 3) := by decide +kernel
theorem dX7_execute_5 : decode cX7_execute 5 = .ok (.aload_n 0, 1) := by decide +kernel
theorem dX7_execute_6 : decode cX7_execute 6 = .ok (.invokevirtual 180, 3) := by decide +kernel
theorem dX7_execute_9 : decode cX7_execute 9 = .ok (.ifCond .ne 9, 3) := by decide +kernel
theorem dX7_execute_12 : decode cX7_execute 12 = .ok (.aload_n 0, 1) := by decide +kernel
theorem dX7_execute_13 : decode cX7_execute 13 = .ok (.iconst 1, 1) := by decide +kernel
theorem dX7_execute_14 : decode cX7_execute 14 = .ok (.invokevirtual 59, 3) := by decide +kernel
theorem dX7_execute_17 : decode cX7_execute 17 = .ok (.ireturn, 1) := by decide +kernel
theorem dX7_execute_18 : decode cX7_execute 18 = .ok (.aload_n 0, 1) := by decide +kernel
theorem dX7_execute_19 : decode cX7_execute 19 = .ok (.invokevirtual 63, 3) := by decide +kernel
theorem dX7_execute_22 : decode cX7_execute 22 = .ok (.iconst 0, 1) := by decide +kernel
theorem dX7_execute_23 : decode cX7_execute 23 = .ok (.istore_n 1, 1) := by decide +kernel
theorem dX7_execute_24 : decode cX7_execute 24 = .ok (.iload_n 1, 1) := by decide +kernel
theorem dX7_execute_25 : decode cX7_execute 25 = .ok (.aload_n 0, 1) := by decide +kernel
theorem dX7_execute_26 : decode cX7_execute 26 = .ok (.getfield 161, 3) := by decide +kernel
theorem dX7_execute_29 : decode cX7_execute 29 = .ok (.if_icmp .ge 23, 3) := by decide +kernel
theorem dX7_execute_32 : decode cX7_execute 32 = .ok (.aload_n 0, 1) := by decide +kernel
theorem dX7_execute_33 : decode cX7_execute 33 = .ok (.iload_n 1, 1) := by decide +kernel
theorem dX7_execute_34 : decode cX7_execute 34 = .ok (.invokevirtual 183, 3) := by decide +kernel
theorem dX7_execute_37 : decode cX7_execute 37 = .ok (.ifCond .eq 15, 3) := by decide +kernel
theorem dX7_execute_40 : decode cX7_execute 40 = .ok (.aload_n 0, 1) := by decide +kernel
theorem dX7_execute_41 : decode cX7_execute 41 = .ok (.iload_n 1, 1) := by decide +kernel
theorem dX7_execute_42 : decode cX7_execute 42 = .ok (.invokevirtual 186, 3) := by decide +kernel
theorem dX7_execute_45 : decode cX7_execute 45 = .ok (.istore_n 2, 1) := by decide +kernel
theorem dX7_execute_46 : decode cX7_execute 46 = .ok (.iinc 1 1, 3) := by decide +kernel
theorem dX7_execute_49 : decode cX7_execute 49 = .ok (.goto (-25), 3) := by decide +kernel
theorem dX7_execute_52 : decode cX7_execute 52 = .ok (.aload_n 0, 1) := by decide +kernel
theorem dX7_execute_53 : decode cX7_execute 53 = .ok (.iconst 0, 1) := by decide +kernel
theorem dX7_execute_54 : decode cX7_execute 54 = .ok (.putfield 148, 3) := by decide +kernel
theorem dX7_execute_57 : decode cX7_execute 57 = .ok (.iload_n 1, 1) := by decide +kernel
theorem dX7_execute_58 : decode cX7_execute 58 = .ok (.ireturn, 1) := by decide +kernel
theorem dX7_ofThermometer_0 : decode cX7_ofThermometer 0 = .ok (.aload_n 0, 1) := by decide +kernel
theorem dX7_ofThermometer_1 : decode cX7_ofThermometer 1 = .ok (.iconst 0, 1) := by decide +kernel
theorem dX7_ofThermometer_2 : decode cX7_ofThermometer 2 = .ok (.putfield 48, 3) := by decide +kernel
theorem dX7_ofThermometer_5 : decode cX7_ofThermometer 5 = .ok (.aload_n 0, 1) := by decide +kernel
theorem dX7_ofThermometer_6 : decode cX7_ofThermometer 6 = .ok (.iload_n 1, 1) := by decide +kernel
theorem dX7_ofThermometer_7 : decode cX7_ofThermometer 7 = .ok (.invokevirtual 141, 3) := by decide +kernel
theorem dX7_ofThermometer_10 : decode cX7_ofThermometer 10 = .ok (.ifCond .ne 9, 3) := by decide +kernel
theorem dX7_ofThermometer_13 : decode cX7_ofThermometer 13 = .ok (.aload_n 0, 1) := by decide +kernel
theorem dX7_ofThermometer_14 : decode cX7_ofThermometer 14 = .ok (.iconst 1, 1) := by decide +kernel
theorem dX7_ofThermometer_15 : decode cX7_ofThermometer 15 = .ok (.invokevirtual 59, 3) := by decide +kernel
theorem dX7_ofThermometer_18 : decode cX7_ofThermometer 18 = .ok (.ireturn, 1) := by decide +kernel
theorem dX7_ofThermometer_19 : decode cX7_ofThermometer 19 = .ok (.iload_n 2, 1) := by decide +kernel
theorem dX7_ofThermometer_20 : decode cX7_ofThermometer 20 = .ok (.iconst 0, 1) := by decide +kernel
theorem dX7_ofThermometer_21 : decode cX7_ofThermometer 21 = .ok (.bipush 9, 2) := by decide +kernel
theorem dX7_ofThermometer_23 : decode cX7_ofThermometer 23 = .ok (.invokestatic 52, 3) := by decide +kernel
theorem dX7_ofThermometer_26 : decode cX7_ofThermometer 26 = .ok (.ifCond .ne 9, 3) := by decide +kernel
theorem dX7_ofThermometer_29 : decode cX7_ofThermometer 29 = .ok (.aload_n 0, 1) := by decide +kernel
theorem dX7_ofThermometer_30 : decode cX7_ofThermometer 30 = .ok (.iconst 2, 1) := by decide +kernel
theorem dX7_ofThermometer_31 : decode cX7_ofThermometer 31 = .ok (.invokevirtual 59, 3) := by decide +kernel
theorem dX7_ofThermometer_34 : decode cX7_ofThermometer 34 = .ok (.ireturn, 1) := by decide +kernel
theorem dX7_ofThermometer_35 : decode cX7_ofThermometer 35 = .ok (.iload_n 2, 1) := by decide +kernel
theorem dX7_ofThermometer_36 : decode cX7_ofThermometer 36 = .ok (.bipush 9, 2) := by decide +kernel
theorem dX7_ofThermometer_38 : decode cX7_ofThermometer 38 = .ok (.if_icmp .ne 11, 3) := by decide +kernel
theorem dX7_ofThermometer_41 : decode cX7_ofThermometer 41 = .ok (.aload_n 0, 1) := by decide +kernel
theorem dX7_ofThermometer_42 : decode cX7_ofThermometer 42 = .ok (.iload_n 1, 1) := by decide +kernel
theorem dX7_ofThermometer_43 : decode cX7_ofThermometer 43 = .ok (.invokevirtual 80, 3) := by decide +kernel
theorem dX7_ofThermometer_46 : decode cX7_ofThermometer 46 = .ok (.goto 9, 3) := by decide +kernel
theorem dX7_ofThermometer_49 : decode cX7_ofThermometer 49 = .ok (.aload_n 0, 1) := by decide +kernel
theorem dX7_ofThermometer_50 : decode cX7_ofThermometer 50 = .ok (.iload_n 1, 1) := by decide +kernel
theorem dX7_ofThermometer_51 : decode cX7_ofThermometer 51 = .ok (.iload_n 2, 1) := by decide +kernel
theorem dX7_ofThermometer_52 : decode cX7_ofThermometer 52 = .ok (.invokevirtual 66, 3) := by decide +kernel
theorem dX7_ofThermometer_55 : decode cX7_ofThermometer 55 = .ok (.ireturn, 1) := by decide +kernel
theorem dX7_reading_0 : decode cX7_reading 0 = .ok (.aload_n 0, 1) := by decide +kernel
theorem dX7_reading_1 : decode cX7_reading 1 = .ok (.iconst 0, 1) := by decide +kernel
theorem dX7_reading_2 : decode cX7_reading 2 = .ok (.putfield 48, 3) := by decide +kernel
theorem dX7_reading_5 : decode cX7_reading 5 = .ok (.aload_n 0, 1) := by decide +kernel
theorem dX7_reading_6 : decode cX7_reading 6 = .ok (.iload_n 1, 1) := by decide +kernel
theorem dX7_reading_7 : decode cX7_reading 7 = .ok (.invokevirtual 141, 3) := by decide +kernel
theorem dX7_reading_10 : decode cX7_reading 10 = .ok (.ifCond .ne 9, 3) := by decide +kernel
theorem dX7_reading_13 : decode cX7_reading 13 = .ok (.aload_n 0, 1) := by decide +kernel
theorem dX7_reading_14 : decode cX7_reading 14 = .ok (.iconst 1, 1) := by decide +kernel
theorem dX7_reading_15 : decode cX7_reading 15 = .ok (.invokevirtual 59, 3) := by decide +kernel
theorem dX7_reading_18 : decode cX7_reading 18 = .ok (.ireturn, 1) := by decide +kernel
theorem dX7_reading_19 : decode cX7_reading 19 = .ok (.iload_n 2, 1) := by decide +kernel
theorem dX7_reading_20 : decode cX7_reading 20 = .ok (.ifCond .lt 12, 3) := by decide +kernel
theorem dX7_reading_23 : decode cX7_reading 23 = .ok (.iload_n 3, 1) := by decide +kernel
theorem dX7_reading_24 : decode cX7_reading 24 = .ok (.iconst 0, 1) := by decide +kernel
theorem dX7_reading_25 : decode cX7_reading 25 = .ok (.iconst 1, 1) := by decide +kernel
theorem dX7_reading_26 : decode cX7_reading 26 = .ok (.invokestatic 52, 3) := by decide +kernel
theorem dX7_reading_29 : decode cX7_reading 29 = .ok (.ifCond .ne 9, 3) := by decide +kernel
theorem dX7_reading_32 : decode cX7_reading 32 = .ok (.aload_n 0, 1) := by decide +kernel
theorem dX7_reading_33 : decode cX7_reading 33 = .ok (.iconst 2, 1) := by decide +kernel
theorem dX7_reading_34 : decode cX7_reading 34 = .ok (.invokevirtual 59, 3) := by decide +kernel
theorem dX7_reading_37 : decode cX7_reading 37 = .ok (.ireturn, 1) := by decide +kernel
theorem dX7_reading_38 : decode cX7_reading 38 = .ok (.iload_n 2, 1) := by decide +kernel
theorem dX7_reading_39 : decode cX7_reading 39 = .ok (.aload_n 0, 1) := by decide +kernel
theorem dX7_reading_40 : decode cX7_reading 40 = .ok (.iload_n 1, 1) := by decide +kernel
theorem dX7_reading_41 : decode cX7_reading 41 = .ok (.bipush 7, 2) := by decide +kernel
theorem dX7_reading_43 : decode cX7_reading 43 = .ok (.invokevirtual 66, 3) := by decide +kernel
theorem dX7_reading_46 : decode cX7_reading 46 = .ok (.if_icmp .ge 19, 3) := by decide +kernel
theorem dX7_reading_49 : decode cX7_reading 49 = .ok (.aload_n 0, 1) := by decide +kernel
theorem dX7_reading_50 : decode cX7_reading 50 = .ok (.iload_n 1, 1) := by decide +kernel
theorem dX7_reading_51 : decode cX7_reading 51 = .ok (.bipush 9, 2) := by decide +kernel
theorem dX7_reading_53 : decode cX7_reading 53 = .ok (.iconst 2, 1) := by decide +kernel
theorem dX7_reading_54 : decode cX7_reading 54 = .ok (.iload_n 2, 1) := by decide +kernel
theorem dX7_reading_55 : decode cX7_reading 55 = .ok (.imul, 1) := by decide +kernel
theorem dX7_reading_56 : decode cX7_reading 56 = .ok (.iadd, 1) := by decide +kernel
theorem dX7_reading_57 : decode cX7_reading 57 = .ok (.iload_n 3, 1) := by decide +kernel
theorem dX7_reading_58 : decode cX7_reading 58 = .ok (.iadd, 1) := by decide +kernel
theorem dX7_reading_59 : decode cX7_reading 59 = .ok (.invokevirtual 66, 3) := by decide +kernel
theorem dX7_reading_62 : decode cX7_reading 62 = .ok (.goto 5, 3) := by decide +kernel
theorem dX7_reading_65 : decode cX7_reading 65 = .ok (.ldc 47, 2) := by decide +kernel
theorem dX7_reading_67 : decode cX7_reading 67 = .ok (.ireturn, 1) := by decide +kernel
theorem dX7_inRow_0 : decode cX7_inRow 0 = .ok (.iconst 0, 1) := by decide +kernel
theorem dX7_inRow_1 : decode cX7_inRow 1 = .ok (.istore_n 2, 1) := by decide +kernel
theorem dX7_inRow_2 : decode cX7_inRow 2 = .ok (.iconst 0, 1) := by decide +kernel
theorem dX7_inRow_3 : decode cX7_inRow 3 = .ok (.istore_n 3, 1) := by decide +kernel
theorem dX7_inRow_4 : decode cX7_inRow 4 = .ok (.iload_n 3, 1) := by decide +kernel
theorem dX7_inRow_5 : decode cX7_inRow 5 = .ok (.aload_n 0, 1) := by decide +kernel
theorem dX7_inRow_6 : decode cX7_inRow 6 = .ok (.getfield 7, 3) := by decide +kernel
theorem dX7_inRow_9 : decode cX7_inRow 9 = .ok (.bipush 15, 2) := by decide +kernel
theorem dX7_inRow_11 : decode cX7_inRow 11 = .ok (.iaload, 1) := by decide +kernel
theorem dX7_inRow_12 : decode cX7_inRow 12 = .ok (.if_icmp .ge 27, 3) := by decide +kernel
theorem dX7_inRow_15 : decode cX7_inRow 15 = .ok (.iload_n 2, 1) := by decide +kernel
theorem dX7_inRow_16 : decode cX7_inRow 16 = .ok (.aload_n 0, 1) := by decide +kernel
theorem dX7_inRow_17 : decode cX7_inRow 17 = .ok (.iload_n 3, 1) := by decide +kernel
theorem dX7_inRow_18 : decode cX7_inRow 18 = .ok (.iconst 0, 1) := by decide +kernel
theorem dX7_inRow_19 : decode cX7_inRow 19 = .ok (.invokevirtual 66, 3) := by decide +kernel
theorem dX7_inRow_22 : decode cX7_inRow 22 = .ok (.iload_n 1, 1) := by decide +kernel
theorem dX7_inRow_23 : decode cX7_inRow 23 = .ok (.if_icmp .ne 7, 3) := by decide +kernel
theorem dX7_inRow_26 : decode cX7_inRow 26 = .ok (.iconst 1, 1) := by decide +kernel
theorem dX7_inRow_27 : decode cX7_inRow 27 = .ok (.goto 4, 3) := by decide +kernel
theorem dX7_inRow_30 : decode cX7_inRow 30 = .ok (.iconst 0, 1) := by decide +kernel
theorem dX7_inRow_31 : decode cX7_inRow 31 = .ok (.iadd, 1) := by decide +kernel
theorem dX7_inRow_32 : decode cX7_inRow 32 = .ok (.istore_n 2, 1) := by decide +kernel
theorem dX7_inRow_33 : decode cX7_inRow 33 = .ok (.iinc 3 1, 3) := by decide +kernel
theorem dX7_inRow_36 : decode cX7_inRow 36 = .ok (.goto (-32), 3) := by decide +kernel
theorem dX7_inRow_39 : decode cX7_inRow 39 = .ok (.iload_n 2, 1) := by decide +kernel
theorem dX7_inRow_40 : decode cX7_inRow 40 = .ok (.ireturn, 1) := by decide +kernel
theorem dX7_ofRow_0 : decode cX7_ofRow 0 = .ok (.aload_n 0, 1) := by decide +kernel
theorem dX7_ofRow_1 : decode cX7_ofRow 1 = .ok (.getfield 7, 3) := by decide +kernel
theorem dX7_ofRow_4 : decode cX7_ofRow 4 = .ok (.iconst 4, 1) := by decide +kernel
theorem dX7_ofRow_5 : decode cX7_ofRow 5 = .ok (.iload_n 1, 1) := by decide +kernel
theorem dX7_ofRow_6 : decode cX7_ofRow 6 = .ok (.iadd, 1) := by decide +kernel
theorem dX7_ofRow_7 : decode cX7_ofRow 7 = .ok (.iaload, 1) := by decide +kernel
theorem dX7_ofRow_8 : decode cX7_ofRow 8 = .ok (.istore_n 3, 1) := by decide +kernel
theorem dX7_ofRow_9 : decode cX7_ofRow 9 = .ok (.iload_n 2, 1) := by decide +kernel
theorem dX7_ofRow_10 : decode cX7_ofRow 10 = .ok (.ifCond .ne 7, 3) := by decide +kernel
theorem dX7_ofRow_13 : decode cX7_ofRow 13 = .ok (.iload_n 3, 1) := by decide +kernel
theorem dX7_ofRow_14 : decode cX7_ofRow 14 = .ok (.goto 43, 3) := by decide +kernel
theorem dX7_ofRow_17 : decode cX7_ofRow 17 = .ok (.iload_n 2, 1) := by decide +kernel
theorem dX7_ofRow_18 : decode cX7_ofRow 18 = .ok (.iconst 1, 1) := by decide +kernel
theorem dX7_ofRow_19 : decode cX7_ofRow 19 = .ok (.if_icmp .ne 11, 3) := by decide +kernel
theorem dX7_ofRow_22 : decode cX7_ofRow 22 = .ok (.aload_n 0, 1) := by decide +kernel
theorem dX7_ofRow_23 : decode cX7_ofRow 23 = .ok (.iload_n 1, 1) := by decide +kernel
theorem dX7_ofRow_24 : decode cX7_ofRow 24 = .ok (.invokevirtual 189, 3) := by decide +kernel
theorem dX7_ofRow_27 : decode cX7_ofRow 27 = .ok (.goto 30, 3) := by decide +kernel
theorem dX7_ofRow_30 : decode cX7_ofRow 30 = .ok (.iload_n 2, 1) := by decide +kernel
theorem dX7_ofRow_31 : decode cX7_ofRow 31 = .ok (.iconst 2, 1) := by decide +kernel
theorem dX7_ofRow_32 : decode cX7_ofRow 32 = .ok (.if_icmp .ne 16, 3) := by decide +kernel
theorem dX7_ofRow_35 : decode cX7_ofRow 35 = .ok (.iload_n 3, 1) := by decide +kernel
theorem dX7_ofRow_36 : decode cX7_ofRow 36 = .ok (.aload_n 0, 1) := by decide +kernel
theorem dX7_ofRow_37 : decode cX7_ofRow 37 = .ok (.getfield 7, 3) := by decide +kernel
theorem dX7_ofRow_40 : decode cX7_ofRow 40 = .ok (.iconst 0, 1) := by decide +kernel
theorem dX7_ofRow_41 : decode cX7_ofRow 41 = .ok (.iaload, 1) := by decide +kernel
theorem dX7_ofRow_42 : decode cX7_ofRow 42 = .ok (.iload_n 3, 1) := by decide +kernel
theorem dX7_ofRow_43 : decode cX7_ofRow 43 = .ok (.irem, 1) := by decide +kernel
theorem dX7_ofRow_44 : decode cX7_ofRow 44 = .ok (.isub, 1) := by decide +kernel
theorem dX7_ofRow_45 : decode cX7_ofRow 45 = .ok (.goto 12, 3) := by decide +kernel
theorem dX7_ofRow_48 : decode cX7_ofRow 48 = .ok (.aload_n 0, 1) := by decide +kernel
theorem dX7_ofRow_49 : decode cX7_ofRow 49 = .ok (.getfield 7, 3) := by decide +kernel
theorem dX7_ofRow_52 : decode cX7_ofRow 52 = .ok (.bipush 8, 2) := by decide +kernel
theorem dX7_ofRow_54 : decode cX7_ofRow 54 = .ok (.iload_n 1, 1) := by decide +kernel
theorem dX7_ofRow_55 : decode cX7_ofRow 55 = .ok (.iadd, 1) := by decide +kernel
theorem dX7_ofRow_56 : decode cX7_ofRow 56 = .ok (.iaload, 1) := by decide +kernel
theorem dX7_ofRow_57 : decode cX7_ofRow 57 = .ok (.ireturn, 1) := by decide +kernel
theorem dX7_row_0 : decode cX7_row 0 = .ok (.aload_n 0, 1) := by decide +kernel
theorem dX7_row_1 : decode cX7_row 1 = .ok (.iconst 0, 1) := by decide +kernel
theorem dX7_row_2 : decode cX7_row 2 = .ok (.putfield 48, 3) := by decide +kernel
theorem dX7_row_5 : decode cX7_row 5 = .ok (.iload_n 1, 1) := by decide +kernel
theorem dX7_row_6 : decode cX7_row 6 = .ok (.invokestatic 122, 3) := by decide +kernel
theorem dX7_row_9 : decode cX7_row 9 = .ok (.ifCond .ne 9, 3) := by decide +kernel
theorem dX7_row_12 : decode cX7_row 12 = .ok (.aload_n 0, 1) := by decide +kernel
theorem dX7_row_13 : decode cX7_row 13 = .ok (.iconst 1, 1) := by decide +kernel
theorem dX7_row_14 : decode cX7_row 14 = .ok (.invokevirtual 59, 3) := by decide +kernel
theorem dX7_row_17 : decode cX7_row 17 = .ok (.ireturn, 1) := by decide +kernel
theorem dX7_row_18 : decode cX7_row 18 = .ok (.iload_n 2, 1) := by decide +kernel
theorem dX7_row_19 : decode cX7_row 19 = .ok (.iconst 0, 1) := by decide +kernel
theorem dX7_row_20 : decode cX7_row 20 = .ok (.iconst 3, 1) := by decide +kernel
theorem dX7_row_21 : decode cX7_row 21 = .ok (.invokestatic 52, 3) := by decide +kernel
theorem dX7_row_24 : decode cX7_row 24 = .ok (.ifCond .eq 12, 3) := by decide +kernel
theorem dX7_row_27 : decode cX7_row 27 = .ok (.aload_n 0, 1) := by decide +kernel
theorem dX7_row_28 : decode cX7_row 28 = .ok (.iload_n 1, 1) := by decide +kernel
theorem dX7_row_29 : decode cX7_row 29 = .ok (.iload_n 2, 1) := by decide +kernel
theorem dX7_row_30 : decode cX7_row 30 = .ok (.invokevirtual 192, 3) := by decide +kernel
theorem dX7_row_33 : decode cX7_row 33 = .ok (.goto 8, 3) := by decide +kernel
theorem dX7_row_36 : decode cX7_row 36 = .ok (.aload_n 0, 1) := by decide +kernel
theorem dX7_row_37 : decode cX7_row 37 = .ok (.iconst 2, 1) := by decide +kernel
theorem dX7_row_38 : decode cX7_row 38 = .ok (.invokevirtual 59, 3) := by decide +kernel
theorem dX7_row_41 : decode cX7_row 41 = .ok (.ireturn, 1) := by decide +kernel
theorem dX7_asked_0 : decode cX7_asked 0 = .ok (.iconst 0, 1) := by decide +kernel
theorem dX7_asked_1 : decode cX7_asked 1 = .ok (.istore_n 1, 1) := by decide +kernel
theorem dX7_asked_2 : decode cX7_asked 2 = .ok (.iconst 0, 1) := by decide +kernel
theorem dX7_asked_3 : decode cX7_asked 3 = .ok (.istore_n 2, 1) := by decide +kernel
theorem dX7_asked_4 : decode cX7_asked 4 = .ok (.iload_n 2, 1) := by decide +kernel
theorem dX7_asked_5 : decode cX7_asked 5 = .ok (.aload_n 0, 1) := by decide +kernel
theorem dX7_asked_6 : decode cX7_asked 6 = .ok (.getfield 7, 3) := by decide +kernel
theorem dX7_asked_9 : decode cX7_asked 9 = .ok (.bipush 15, 2) := by decide +kernel
theorem dX7_asked_11 : decode cX7_asked 11 = .ok (.iaload, 1) := by decide +kernel
theorem dX7_asked_12 : decode cX7_asked 12 = .ok (.if_icmp .ge 27, 3) := by decide +kernel
theorem dX7_asked_15 : decode cX7_asked 15 = .ok (.iload_n 1, 1) := by decide +kernel
theorem dX7_asked_16 : decode cX7_asked 16 = .ok (.aload_n 0, 1) := by decide +kernel
theorem dX7_asked_17 : decode cX7_asked 17 = .ok (.iload_n 2, 1) := by decide +kernel
theorem dX7_asked_18 : decode cX7_asked 18 = .ok (.invokevirtual 76, 3) := by decide +kernel
theorem dX7_asked_21 : decode cX7_asked 21 = .ok (.ifCond .eq 9, 3) := by decide +kernel
theorem dX7_asked_24 : decode cX7_asked 24 = .ok (.iconst 1, 1) := by decide +kernel
theorem dX7_asked_25 : decode cX7_asked 25 = .ok (.iload_n 2, 1) := by decide +kernel
theorem dX7_asked_26 : decode cX7_asked 26 = .ok (.ishl, 1) := by decide +kernel
theorem dX7_asked_27 : decode cX7_asked 27 = .ok (.goto 4, 3) := by decide +kernel
theorem dX7_asked_30 : decode cX7_asked 30 = .ok (.iconst 0, 1) := by decide +kernel
theorem dX7_asked_31 : decode cX7_asked 31 = .ok (.ior, 1) := by decide +kernel
theorem dX7_asked_32 : decode cX7_asked 32 = .ok (.istore_n 1, 1) := by decide +kernel
theorem dX7_asked_33 : decode cX7_asked 33 = .ok (.iinc 2 1, 3) := by decide +kernel
theorem dX7_asked_36 : decode cX7_asked 36 = .ok (.goto (-32), 3) := by decide +kernel
theorem dX7_asked_39 : decode cX7_asked 39 = .ok (.iload_n 1, 1) := by decide +kernel
theorem dX7_asked_40 : decode cX7_asked 40 = .ok (.ireturn, 1) := by decide +kernel
theorem dX7_shutOut_0 : decode cX7_shutOut 0 = .ok (.iconst 0, 1) := by decide +kernel
theorem dX7_shutOut_1 : decode cX7_shutOut 1 = .ok (.istore_n 1, 1) := by decide +kernel
theorem dX7_shutOut_2 : decode cX7_shutOut 2 = .ok (.iconst 0, 1) := by decide +kernel
theorem dX7_shutOut_3 : decode cX7_shutOut 3 = .ok (.istore_n 2, 1) := by decide +kernel
theorem dX7_shutOut_4 : decode cX7_shutOut 4 = .ok (.iload_n 2, 1) := by decide +kernel
theorem dX7_shutOut_5 : decode cX7_shutOut 5 = .ok (.aload_n 0, 1) := by decide +kernel
theorem dX7_shutOut_6 : decode cX7_shutOut 6 = .ok (.getfield 7, 3) := by decide +kernel
theorem dX7_shutOut_9 : decode cX7_shutOut 9 = .ok (.bipush 15, 2) := by decide +kernel
theorem dX7_shutOut_11 : decode cX7_shutOut 11 = .ok (.iaload, 1) := by decide +kernel
theorem dX7_shutOut_12 : decode cX7_shutOut 12 = .ok (.if_icmp .ge 21, 3) := by decide +kernel
theorem dX7_shutOut_15 : decode cX7_shutOut 15 = .ok (.iload_n 1, 1) := by decide +kernel
theorem dX7_shutOut_16 : decode cX7_shutOut 16 = .ok (.aload_n 0, 1) := by decide +kernel
theorem dX7_shutOut_17 : decode cX7_shutOut 17 = .ok (.iload_n 2, 1) := by decide +kernel
theorem dX7_shutOut_18 : decode cX7_shutOut 18 = .ok (.bipush 6, 2) := by decide +kernel
theorem dX7_shutOut_20 : decode cX7_shutOut 20 = .ok (.invokevirtual 66, 3) := by decide +kernel
theorem dX7_shutOut_23 : decode cX7_shutOut 23 = .ok (.iload_n 2, 1) := by decide +kernel
theorem dX7_shutOut_24 : decode cX7_shutOut 24 = .ok (.ishl, 1) := by decide +kernel
theorem dX7_shutOut_25 : decode cX7_shutOut 25 = .ok (.ior, 1) := by decide +kernel
theorem dX7_shutOut_26 : decode cX7_shutOut 26 = .ok (.istore_n 1, 1) := by decide +kernel
theorem dX7_shutOut_27 : decode cX7_shutOut 27 = .ok (.iinc 2 1, 3) := by decide +kernel
theorem dX7_shutOut_30 : decode cX7_shutOut 30 = .ok (.goto (-26), 3) := by decide +kernel
theorem dX7_shutOut_33 : decode cX7_shutOut 33 = .ok (.iload_n 1, 1) := by decide +kernel
theorem dX7_shutOut_34 : decode cX7_shutOut 34 = .ok (.ireturn, 1) := by decide +kernel
theorem dX7_number_0 : decode cX7_number 0 = .ok (.iload_n 1, 1) := by decide +kernel
theorem dX7_number_1 : decode cX7_number 1 = .ok (.tableswitch 138 0 11 #[63, 70, 78, 85, 90, 95, 100, 105, 112, 120, 128, 133], 63) := by decide +kernel
theorem dX7_number_64 : decode cX7_number 64 = .ok (.aload_n 0, 1) := by decide +kernel
theorem dX7_number_65 : decode cX7_number 65 = .ok (.getfield 7, 3) := by decide +kernel
theorem dX7_number_68 : decode cX7_number 68 = .ok (.iconst 0, 1) := by decide +kernel
theorem dX7_number_69 : decode cX7_number 69 = .ok (.iaload, 1) := by decide +kernel
theorem dX7_number_70 : decode cX7_number 70 = .ok (.ireturn, 1) := by decide +kernel
theorem dX7_number_71 : decode cX7_number 71 = .ok (.aload_n 0, 1) := by decide +kernel
theorem dX7_number_72 : decode cX7_number 72 = .ok (.getfield 7, 3) := by decide +kernel
theorem dX7_number_75 : decode cX7_number 75 = .ok (.bipush 15, 2) := by decide +kernel
theorem dX7_number_77 : decode cX7_number 77 = .ok (.iaload, 1) := by decide +kernel
theorem dX7_number_78 : decode cX7_number 78 = .ok (.ireturn, 1) := by decide +kernel
theorem dX7_number_79 : decode cX7_number 79 = .ok (.aload_n 0, 1) := by decide +kernel
theorem dX7_number_80 : decode cX7_number 80 = .ok (.getfield 7, 3) := by decide +kernel
theorem dX7_number_83 : decode cX7_number 83 = .ok (.iconst 1, 1) := by decide +kernel
theorem dX7_number_84 : decode cX7_number 84 = .ok (.iaload, 1) := by decide +kernel
theorem dX7_number_85 : decode cX7_number 85 = .ok (.ireturn, 1) := by decide +kernel
theorem dX7_number_86 : decode cX7_number 86 = .ok (.aload_n 0, 1) := by decide +kernel
theorem dX7_number_87 : decode cX7_number 87 = .ok (.invokevirtual 195, 3) := by decide +kernel
theorem dX7_number_90 : decode cX7_number 90 = .ok (.ireturn, 1) := by decide +kernel
theorem dX7_number_91 : decode cX7_number 91 = .ok (.aload_n 0, 1) := by decide +kernel
theorem dX7_number_92 : decode cX7_number 92 = .ok (.invokevirtual 198, 3) := by decide +kernel
theorem dX7_number_95 : decode cX7_number 95 = .ok (.ireturn, 1) := by decide +kernel
theorem dX7_number_96 : decode cX7_number 96 = .ok (.aload_n 0, 1) := by decide +kernel
theorem dX7_number_97 : decode cX7_number 97 = .ok (.invokevirtual 87, 3) := by decide +kernel
theorem dX7_number_100 : decode cX7_number 100 = .ok (.ireturn, 1) := by decide +kernel
theorem dX7_number_101 : decode cX7_number 101 = .ok (.aload_n 0, 1) := by decide +kernel
theorem dX7_number_102 : decode cX7_number 102 = .ok (.invokevirtual 201, 3) := by decide +kernel
theorem dX7_number_105 : decode cX7_number 105 = .ok (.ireturn, 1) := by decide +kernel
theorem dX7_number_106 : decode cX7_number 106 = .ok (.aload_n 0, 1) := by decide +kernel
theorem dX7_number_107 : decode cX7_number 107 = .ok (.ldc 47, 2) := by decide +kernel
theorem dX7_number_109 : decode cX7_number 109 = .ok (.invokevirtual 104, 3) := by decide +kernel
theorem dX7_number_112 : decode cX7_number 112 = .ok (.ireturn, 1) := by decide +kernel
theorem dX7_number_113 : decode cX7_number 113 = .ok (.aload_n 0, 1) := by decide +kernel
theorem dX7_number_114 : decode cX7_number 114 = .ok (.getfield 7, 3) := by decide +kernel
theorem dX7_number_117 : decode cX7_number 117 = .ok (.bipush 12, 2) := by decide +kernel
theorem dX7_number_119 : decode cX7_number 119 = .ok (.iaload, 1) := by decide +kernel
theorem dX7_number_120 : decode cX7_number 120 = .ok (.ireturn, 1) := by decide +kernel
theorem dX7_number_121 : decode cX7_number 121 = .ok (.aload_n 0, 1) := by decide +kernel
theorem dX7_number_122 : decode cX7_number 122 = .ok (.getfield 7, 3) := by decide +kernel
theorem dX7_number_125 : decode cX7_number 125 = .ok (.bipush 13, 2) := by decide +kernel
theorem dX7_number_127 : decode cX7_number 127 = .ok (.iaload, 1) := by decide +kernel
theorem dX7_number_128 : decode cX7_number 128 = .ok (.ireturn, 1) := by decide +kernel
theorem dX7_number_129 : decode cX7_number 129 = .ok (.aload_n 0, 1) := by decide +kernel
theorem dX7_number_130 : decode cX7_number 130 = .ok (.getfield 56, 3) := by decide +kernel
theorem dX7_number_133 : decode cX7_number 133 = .ok (.ireturn, 1) := by decide +kernel
theorem dX7_number_134 : decode cX7_number 134 = .ok (.aload_n 0, 1) := by decide +kernel
theorem dX7_number_135 : decode cX7_number 135 = .ok (.getfield 148, 3) := by decide +kernel
theorem dX7_number_138 : decode cX7_number 138 = .ok (.ireturn, 1) := by decide +kernel
theorem dX7_number_139 : decode cX7_number 139 = .ok (.aload_n 0, 1) := by decide +kernel
theorem dX7_number_140 : decode cX7_number 140 = .ok (.getfield 7, 3) := by decide +kernel
theorem dX7_number_143 : decode cX7_number 143 = .ok (.iconst 2, 1) := by decide +kernel
theorem dX7_number_144 : decode cX7_number 144 = .ok (.iload_n 1, 1) := by decide +kernel
theorem dX7_number_145 : decode cX7_number 145 = .ok (.iadd, 1) := by decide +kernel
theorem dX7_number_146 : decode cX7_number 146 = .ok (.bipush 12, 2) := by decide +kernel
theorem dX7_number_148 : decode cX7_number 148 = .ok (.isub, 1) := by decide +kernel
theorem dX7_number_149 : decode cX7_number 149 = .ok (.iaload, 1) := by decide +kernel
theorem dX7_number_150 : decode cX7_number 150 = .ok (.ireturn, 1) := by decide +kernel
theorem dX7_count_0 : decode cX7_count 0 = .ok (.aload_n 0, 1) := by decide +kernel
theorem dX7_count_1 : decode cX7_count 1 = .ok (.iconst 0, 1) := by decide +kernel
theorem dX7_count_2 : decode cX7_count 2 = .ok (.putfield 48, 3) := by decide +kernel
theorem dX7_count_5 : decode cX7_count 5 = .ok (.iload_n 1, 1) := by decide +kernel
theorem dX7_count_6 : decode cX7_count 6 = .ok (.iconst 0, 1) := by decide +kernel
theorem dX7_count_7 : decode cX7_count 7 = .ok (.bipush 13, 2) := by decide +kernel
theorem dX7_count_9 : decode cX7_count 9 = .ok (.invokestatic 52, 3) := by decide +kernel
theorem dX7_count_12 : decode cX7_count 12 = .ok (.ifCond .eq 11, 3) := by decide +kernel
theorem dX7_count_15 : decode cX7_count 15 = .ok (.aload_n 0, 1) := by decide +kernel
theorem dX7_count_16 : decode cX7_count 16 = .ok (.iload_n 1, 1) := by decide +kernel
theorem dX7_count_17 : decode cX7_count 17 = .ok (.invokevirtual 204, 3) := by decide +kernel
theorem dX7_count_20 : decode cX7_count 20 = .ok (.goto 8, 3) := by decide +kernel
theorem dX7_count_23 : decode cX7_count 23 = .ok (.aload_n 0, 1) := by decide +kernel
theorem dX7_count_24 : decode cX7_count 24 = .ok (.iconst 1, 1) := by decide +kernel
theorem dX7_count_25 : decode cX7_count 25 = .ok (.invokevirtual 59, 3) := by decide +kernel
theorem dX7_count_28 : decode cX7_count 28 = .ok (.ireturn, 1) := by decide +kernel
theorem dX7_off_0 : decode cX7_off 0 = .ok (.aload_n 0, 1) := by decide +kernel
theorem dX7_off_1 : decode cX7_off 1 = .ok (.iload_n 1, 1) := by decide +kernel
theorem dX7_off_2 : decode cX7_off 2 = .ok (.invokevirtual 80, 3) := by decide +kernel
theorem dX7_off_5 : decode cX7_off 5 = .ok (.aload_n 0, 1) := by decide +kernel
theorem dX7_off_6 : decode cX7_off 6 = .ok (.getfield 7, 3) := by decide +kernel
theorem dX7_off_9 : decode cX7_off 9 = .ok (.iconst 1, 1) := by decide +kernel
theorem dX7_off_10 : decode cX7_off 10 = .ok (.iaload, 1) := by decide +kernel
theorem dX7_off_11 : decode cX7_off 11 = .ok (.isub, 1) := by decide +kernel
theorem dX7_off_12 : decode cX7_off 12 = .ok (.invokestatic 107, 3) := by decide +kernel
theorem dX7_off_15 : decode cX7_off 15 = .ok (.ireturn, 1) := by decide +kernel
theorem dX7_key_0 : decode cX7_key 0 = .ok (.iload_n 2, 1) := by decide +kernel
theorem dX7_key_1 : decode cX7_key 1 = .ok (.ifCond .ne 11, 3) := by decide +kernel
theorem dX7_key_4 : decode cX7_key 4 = .ok (.aload_n 0, 1) := by decide +kernel
theorem dX7_key_5 : decode cX7_key 5 = .ok (.iload_n 1, 1) := by decide +kernel
theorem dX7_key_6 : decode cX7_key 6 = .ok (.invokevirtual 80, 3) := by decide +kernel
theorem dX7_key_9 : decode cX7_key 9 = .ok (.goto 9, 3) := by decide +kernel
theorem dX7_key_12 : decode cX7_key 12 = .ok (.aload_n 0, 1) := by decide +kernel
theorem dX7_key_13 : decode cX7_key 13 = .ok (.iload_n 1, 1) := by decide +kernel
theorem dX7_key_14 : decode cX7_key 14 = .ok (.invokevirtual 207, 3) := by decide +kernel
theorem dX7_key_17 : decode cX7_key 17 = .ok (.ineg, 1) := by decide +kernel
theorem dX7_key_18 : decode cX7_key 18 = .ok (.ireturn, 1) := by decide +kernel
theorem dX7_ofRank_0 : decode cX7_ofRank 0 = .ok (.ldc 47, 2) := by decide +kernel
theorem dX7_ofRank_2 : decode cX7_ofRank 2 = .ok (.istore_n 3, 1) := by decide +kernel
theorem dX7_ofRank_3 : decode cX7_ofRank 3 = .ok (.iconst 0, 1) := by decide +kernel
theorem dX7_ofRank_4 : decode cX7_ofRank 4 = .ok (.istore 4, 2) := by decide +kernel
theorem dX7_ofRank_6 : decode cX7_ofRank 6 = .ok (.iload 4, 2) := by decide +kernel
theorem dX7_ofRank_8 : decode cX7_ofRank 8 = .ok (.aload_n 0, 1) := by decide +kernel
theorem dX7_ofRank_9 : decode cX7_ofRank 9 = .ok (.getfield 7, 3) := by decide +kernel
theorem dX7_ofRank_12 : decode cX7_ofRank 12 = .ok (.bipush 15, 2) := by decide +kernel
theorem dX7_ofRank_14 : decode cX7_ofRank 14 = .ok (.iaload, 1) := by decide +kernel
theorem dX7_ofRank_15 : decode cX7_ofRank 15 = .ok (.if_icmp .ge 112, 3) := by decide +kernel
theorem dX7_ofRank_18 : decode cX7_ofRank 18 = .ok (.iconst 0, 1) := by decide +kernel
theorem dX7_ofRank_19 : decode cX7_ofRank 19 = .ok (.istore 5, 2) := by decide +kernel
theorem dX7_ofRank_21 : decode cX7_ofRank 21 = .ok (.iconst 0, 1) := by decide +kernel
theorem dX7_ofRank_22 : decode cX7_ofRank 22 = .ok (.istore 6, 2) := by decide +kernel
theorem dX7_ofRank_24 : decode cX7_ofRank 24 = .ok (.iload 6, 2) := by decide +kernel
theorem dX7_ofRank_26 : decode cX7_ofRank 26 = .ok (.aload_n 0, 1) := by decide +kernel
theorem dX7_ofRank_27 : decode cX7_ofRank 27 = .ok (.getfield 7, 3) := by decide +kernel
theorem dX7_ofRank_30 : decode cX7_ofRank 30 = .ok (.bipush 15, 2) := by decide +kernel
theorem dX7_ofRank_32 : decode cX7_ofRank 32 = .ok (.iaload, 1) := by decide +kernel
theorem dX7_ofRank_33 : decode cX7_ofRank 33 = .ok (.if_icmp .ge 64, 3) := by decide +kernel
theorem dX7_ofRank_36 : decode cX7_ofRank 36 = .ok (.aload_n 0, 1) := by decide +kernel
theorem dX7_ofRank_37 : decode cX7_ofRank 37 = .ok (.iload 6, 2) := by decide +kernel
theorem dX7_ofRank_39 : decode cX7_ofRank 39 = .ok (.iload_n 1, 1) := by decide +kernel
theorem dX7_ofRank_40 : decode cX7_ofRank 40 = .ok (.invokevirtual 210, 3) := by decide +kernel
theorem dX7_ofRank_43 : decode cX7_ofRank 43 = .ok (.aload_n 0, 1) := by decide +kernel
theorem dX7_ofRank_44 : decode cX7_ofRank 44 = .ok (.iload 4, 2) := by decide +kernel
theorem dX7_ofRank_46 : decode cX7_ofRank 46 = .ok (.iload_n 1, 1) := by decide +kernel
theorem dX7_ofRank_47 : decode cX7_ofRank 47 = .ok (.invokevirtual 210, 3) := by decide +kernel
theorem dX7_ofRank_50 : decode cX7_ofRank 50 = .ok (.isub, 1) := by decide +kernel
theorem dX7_ofRank_51 : decode cX7_ofRank 51 = .ok (.istore 7, 2) := by decide +kernel
theorem dX7_ofRank_53 : decode cX7_ofRank 53 = .ok (.iload 5, 2) := by decide +kernel
theorem dX7_ofRank_55 : decode cX7_ofRank 55 = .ok (.aload_n 0, 1) := by decide +kernel
theorem dX7_ofRank_56 : decode cX7_ofRank 56 = .ok (.iload 6, 2) := by decide +kernel
theorem dX7_ofRank_58 : decode cX7_ofRank 58 = .ok (.bipush 7, 2) := by decide +kernel
theorem dX7_ofRank_60 : decode cX7_ofRank 60 = .ok (.invokevirtual 66, 3) := by decide +kernel
theorem dX7_ofRank_63 : decode cX7_ofRank 63 = .ok (.ifCond .le 24, 3) := by decide +kernel
theorem dX7_ofRank_66 : decode cX7_ofRank 66 = .ok (.iload 7, 2) := by decide +kernel
theorem dX7_ofRank_68 : decode cX7_ofRank 68 = .ok (.ifCond .lt 15, 3) := by decide +kernel
theorem dX7_ofRank_71 : decode cX7_ofRank 71 = .ok (.iload 7, 2) := by decide +kernel
theorem dX7_ofRank_73 : decode cX7_ofRank 73 = .ok (.ifCond .ne 14, 3) := by decide +kernel
theorem dX7_ofRank_76 : decode cX7_ofRank 76 = .ok (.iload 6, 2) := by decide +kernel
theorem dX7_ofRank_78 : decode cX7_ofRank 78 = .ok (.iload 4, 2) := by decide +kernel
theorem dX7_ofRank_80 : decode cX7_ofRank 80 = .ok (.if_icmp .ge 7, 3) := by decide +kernel
theorem dX7_ofRank_83 : decode cX7_ofRank 83 = .ok (.iconst 1, 1) := by decide +kernel
theorem dX7_ofRank_84 : decode cX7_ofRank 84 = .ok (.goto 4, 3) := by decide +kernel
theorem dX7_ofRank_87 : decode cX7_ofRank 87 = .ok (.iconst 0, 1) := by decide +kernel
theorem dX7_ofRank_88 : decode cX7_ofRank 88 = .ok (.iadd, 1) := by decide +kernel
theorem dX7_ofRank_89 : decode cX7_ofRank 89 = .ok (.istore 5, 2) := by decide +kernel
theorem dX7_ofRank_91 : decode cX7_ofRank 91 = .ok (.iinc 6 1, 3) := by decide +kernel
theorem dX7_ofRank_94 : decode cX7_ofRank 94 = .ok (.goto (-70), 3) := by decide +kernel
theorem dX7_ofRank_97 : decode cX7_ofRank 97 = .ok (.aload_n 0, 1) := by decide +kernel
theorem dX7_ofRank_98 : decode cX7_ofRank 98 = .ok (.iload 4, 2) := by decide +kernel
theorem dX7_ofRank_100 : decode cX7_ofRank 100 = .ok (.bipush 7, 2) := by decide +kernel
theorem dX7_ofRank_102 : decode cX7_ofRank 102 = .ok (.invokevirtual 66, 3) := by decide +kernel
theorem dX7_ofRank_105 : decode cX7_ofRank 105 = .ok (.ifCond .le 14, 3) := by decide +kernel
theorem dX7_ofRank_108 : decode cX7_ofRank 108 = .ok (.iload 5, 2) := by decide +kernel
theorem dX7_ofRank_110 : decode cX7_ofRank 110 = .ok (.iload_n 2, 1) := by decide +kernel
theorem dX7_ofRank_111 : decode cX7_ofRank 111 = .ok (.if_icmp .ne 8, 3) := by decide +kernel
theorem dX7_ofRank_114 : decode cX7_ofRank 114 = .ok (.iload 4, 2) := by decide +kernel
theorem dX7_ofRank_116 : decode cX7_ofRank 116 = .ok (.goto 4, 3) := by decide +kernel
theorem dX7_ofRank_119 : decode cX7_ofRank 119 = .ok (.iload_n 3, 1) := by decide +kernel
theorem dX7_ofRank_120 : decode cX7_ofRank 120 = .ok (.istore_n 3, 1) := by decide +kernel
theorem dX7_ofRank_121 : decode cX7_ofRank 121 = .ok (.iinc 4 1, 3) := by decide +kernel
theorem dX7_ofRank_124 : decode cX7_ofRank 124 = .ok (.goto (-118), 3) := by decide +kernel
theorem dX7_ofRank_127 : decode cX7_ofRank 127 = .ok (.iload_n 3, 1) := by decide +kernel
theorem dX7_ofRank_128 : decode cX7_ofRank 128 = .ok (.ireturn, 1) := by decide +kernel
theorem dX7_ranked_0 : decode cX7_ranked 0 = .ok (.aload_n 0, 1) := by decide +kernel
theorem dX7_ranked_1 : decode cX7_ranked 1 = .ok (.iconst 0, 1) := by decide +kernel
theorem dX7_ranked_2 : decode cX7_ranked 2 = .ok (.putfield 48, 3) := by decide +kernel
theorem dX7_ranked_5 : decode cX7_ranked 5 = .ok (.iload_n 1, 1) := by decide +kernel
theorem dX7_ranked_6 : decode cX7_ranked 6 = .ok (.iconst 0, 1) := by decide +kernel
theorem dX7_ranked_7 : decode cX7_ranked 7 = .ok (.iconst 1, 1) := by decide +kernel
theorem dX7_ranked_8 : decode cX7_ranked 8 = .ok (.invokestatic 52, 3) := by decide +kernel
theorem dX7_ranked_11 : decode cX7_ranked 11 = .ok (.ifCond .eq 16, 3) := by decide +kernel
theorem dX7_ranked_14 : decode cX7_ranked 14 = .ok (.iload_n 2, 1) := by decide +kernel
theorem dX7_ranked_15 : decode cX7_ranked 15 = .ok (.ifCond .lt 12, 3) := by decide +kernel
theorem dX7_ranked_18 : decode cX7_ranked 18 = .ok (.aload_n 0, 1) := by decide +kernel
theorem dX7_ranked_19 : decode cX7_ranked 19 = .ok (.iload_n 1, 1) := by decide +kernel
theorem dX7_ranked_20 : decode cX7_ranked 20 = .ok (.iload_n 2, 1) := by decide +kernel
theorem dX7_ranked_21 : decode cX7_ranked 21 = .ok (.invokevirtual 213, 3) := by decide +kernel
theorem dX7_ranked_24 : decode cX7_ranked 24 = .ok (.goto 8, 3) := by decide +kernel
theorem dX7_ranked_27 : decode cX7_ranked 27 = .ok (.aload_n 0, 1) := by decide +kernel
theorem dX7_ranked_28 : decode cX7_ranked 28 = .ok (.iconst 1, 1) := by decide +kernel
theorem dX7_ranked_29 : decode cX7_ranked 29 = .ok (.invokevirtual 59, 3) := by decide +kernel
theorem dX7_ranked_32 : decode cX7_ranked 32 = .ok (.ireturn, 1) := by decide +kernel
theorem dX7_between_0 : decode cX7_between 0 = .ok (.aload_n 0, 1) := by decide +kernel
theorem dX7_between_1 : decode cX7_between 1 = .ok (.iconst 0, 1) := by decide +kernel
theorem dX7_between_2 : decode cX7_between 2 = .ok (.putfield 48, 3) := by decide +kernel
theorem dX7_between_5 : decode cX7_between 5 = .ok (.iconst 0, 1) := by decide +kernel
theorem dX7_between_6 : decode cX7_between 6 = .ok (.istore_n 3, 1) := by decide +kernel
theorem dX7_between_7 : decode cX7_between 7 = .ok (.iconst 0, 1) := by decide +kernel
theorem dX7_between_8 : decode cX7_between 8 = .ok (.istore 4, 2) := by decide +kernel
theorem dX7_between_10 : decode cX7_between 10 = .ok (.iload 4, 2) := by decide +kernel
theorem dX7_between_12 : decode cX7_between 12 = .ok (.aload_n 0, 1) := by decide +kernel
theorem dX7_between_13 : decode cX7_between 13 = .ok (.getfield 7, 3) := by decide +kernel
theorem dX7_between_16 : decode cX7_between 16 = .ok (.bipush 15, 2) := by decide +kernel
theorem dX7_between_18 : decode cX7_between 18 = .ok (.iaload, 1) := by decide +kernel
theorem dX7_between_19 : decode cX7_between 19 = .ok (.if_icmp .ge 42, 3) := by decide +kernel
theorem dX7_between_22 : decode cX7_between 22 = .ok (.iload_n 3, 1) := by decide +kernel
theorem dX7_between_23 : decode cX7_between 23 = .ok (.aload_n 0, 1) := by decide +kernel
theorem dX7_between_24 : decode cX7_between 24 = .ok (.iload 4, 2) := by decide +kernel
theorem dX7_between_26 : decode cX7_between 26 = .ok (.bipush 7, 2) := by decide +kernel
theorem dX7_between_28 : decode cX7_between 28 = .ok (.invokevirtual 66, 3) := by decide +kernel
theorem dX7_between_31 : decode cX7_between 31 = .ok (.ifCond .le 21, 3) := by decide +kernel
theorem dX7_between_34 : decode cX7_between 34 = .ok (.aload_n 0, 1) := by decide +kernel
theorem dX7_between_35 : decode cX7_between 35 = .ok (.iload 4, 2) := by decide +kernel
theorem dX7_between_37 : decode cX7_between 37 = .ok (.invokevirtual 80, 3) := by decide +kernel
theorem dX7_between_40 : decode cX7_between 40 = .ok (.iload_n 1, 1) := by decide +kernel
theorem dX7_between_41 : decode cX7_between 41 = .ok (.iload_n 2, 1) := by decide +kernel
theorem dX7_between_42 : decode cX7_between 42 = .ok (.invokestatic 52, 3) := by decide +kernel
theorem dX7_between_45 : decode cX7_between 45 = .ok (.ifCond .eq 7, 3) := by decide +kernel
theorem dX7_between_48 : decode cX7_between 48 = .ok (.iconst 1, 1) := by decide +kernel
theorem dX7_between_49 : decode cX7_between 49 = .ok (.goto 4, 3) := by decide +kernel
theorem dX7_between_52 : decode cX7_between 52 = .ok (.iconst 0, 1) := by decide +kernel
theorem dX7_between_53 : decode cX7_between 53 = .ok (.iadd, 1) := by decide +kernel
theorem dX7_between_54 : decode cX7_between 54 = .ok (.istore_n 3, 1) := by decide +kernel
theorem dX7_between_55 : decode cX7_between 55 = .ok (.iinc 4 1, 3) := by decide +kernel
theorem dX7_between_58 : decode cX7_between 58 = .ok (.goto (-48), 3) := by decide +kernel
theorem dX7_between_61 : decode cX7_between 61 = .ok (.iload_n 3, 1) := by decide +kernel
theorem dX7_between_62 : decode cX7_between 62 = .ok (.ireturn, 1) := by decide +kernel
theorem dX7_ifLag_0 : decode cX7_ifLag 0 = .ok (.aload_n 0, 1) := by decide +kernel
theorem dX7_ifLag_1 : decode cX7_ifLag 1 = .ok (.iconst 0, 1) := by decide +kernel
theorem dX7_ifLag_2 : decode cX7_ifLag 2 = .ok (.putfield 48, 3) := by decide +kernel
theorem dX7_ifLag_5 : decode cX7_ifLag 5 = .ok (.aload_n 0, 1) := by decide +kernel
theorem dX7_ifLag_6 : decode cX7_ifLag 6 = .ok (.iload_n 1, 1) := by decide +kernel
theorem dX7_ifLag_7 : decode cX7_ifLag 7 = .ok (.invokevirtual 141, 3) := by decide +kernel
theorem dX7_ifLag_10 : decode cX7_ifLag 10 = .ok (.ifCond .ne 9, 3) := by decide +kernel
theorem dX7_ifLag_13 : decode cX7_ifLag 13 = .ok (.aload_n 0, 1) := by decide +kernel
theorem dX7_ifLag_14 : decode cX7_ifLag 14 = .ok (.iconst 1, 1) := by decide +kernel
theorem dX7_ifLag_15 : decode cX7_ifLag 15 = .ok (.invokevirtual 59, 3) := by decide +kernel
theorem dX7_ifLag_18 : decode cX7_ifLag 18 = .ok (.ireturn, 1) := by decide +kernel
theorem dX7_ifLag_19 : decode cX7_ifLag 19 = .ok (.iload_n 2, 1) := by decide +kernel
theorem dX7_ifLag_20 : decode cX7_ifLag 20 = .ok (.iconst 1, 1) := by decide +kernel
theorem dX7_ifLag_21 : decode cX7_ifLag 21 = .ok (.bipush 9, 2) := by decide +kernel
theorem dX7_ifLag_23 : decode cX7_ifLag 23 = .ok (.invokestatic 52, 3) := by decide +kernel
theorem dX7_ifLag_26 : decode cX7_ifLag 26 = .ok (.ifCond .eq 12, 3) := by decide +kernel
theorem dX7_ifLag_29 : decode cX7_ifLag 29 = .ok (.aload_n 0, 1) := by decide +kernel
theorem dX7_ifLag_30 : decode cX7_ifLag 30 = .ok (.iload_n 1, 1) := by decide +kernel
theorem dX7_ifLag_31 : decode cX7_ifLag 31 = .ok (.iload_n 2, 1) := by decide +kernel
theorem dX7_ifLag_32 : decode cX7_ifLag 32 = .ok (.invokevirtual 70, 3) := by decide +kernel
theorem dX7_ifLag_35 : decode cX7_ifLag 35 = .ok (.goto 8, 3) := by decide +kernel
theorem dX7_ifLag_38 : decode cX7_ifLag 38 = .ok (.aload_n 0, 1) := by decide +kernel
theorem dX7_ifLag_39 : decode cX7_ifLag 39 = .ok (.iconst 2, 1) := by decide +kernel
theorem dX7_ifLag_40 : decode cX7_ifLag 40 = .ok (.invokevirtual 59, 3) := by decide +kernel
theorem dX7_ifLag_43 : decode cX7_ifLag 43 = .ok (.ireturn, 1) := by decide +kernel
theorem dX7_best_0 : decode cX7_best 0 = .ok (.aload_n 0, 1) := by decide +kernel
theorem dX7_best_1 : decode cX7_best 1 = .ok (.iload_n 1, 1) := by decide +kernel
theorem dX7_best_2 : decode cX7_best 2 = .ok (.bipush 7, 2) := by decide +kernel
theorem dX7_best_4 : decode cX7_best 4 = .ok (.invokevirtual 66, 3) := by decide +kernel
theorem dX7_best_7 : decode cX7_best 7 = .ok (.ifCond .ne 6, 3) := by decide +kernel
theorem dX7_best_10 : decode cX7_best 10 = .ok (.ldc 47, 2) := by decide +kernel
theorem dX7_best_12 : decode cX7_best 12 = .ok (.ireturn, 1) := by decide +kernel
theorem dX7_best_13 : decode cX7_best 13 = .ok (.iconst 1, 1) := by decide +kernel
theorem dX7_best_14 : decode cX7_best 14 = .ok (.istore_n 2, 1) := by decide +kernel
theorem dX7_best_15 : decode cX7_best 15 = .ok (.iconst 2, 1) := by decide +kernel
theorem dX7_best_16 : decode cX7_best 16 = .ok (.istore_n 3, 1) := by decide +kernel
theorem dX7_best_17 : decode cX7_best 17 = .ok (.iload_n 3, 1) := by decide +kernel
theorem dX7_best_18 : decode cX7_best 18 = .ok (.bipush 9, 2) := by decide +kernel
theorem dX7_best_20 : decode cX7_best 20 = .ok (.if_icmp .gt 50, 3) := by decide +kernel
theorem dX7_best_23 : decode cX7_best 23 = .ok (.aload_n 0, 1) := by decide +kernel
theorem dX7_best_24 : decode cX7_best 24 = .ok (.iload_n 1, 1) := by decide +kernel
theorem dX7_best_25 : decode cX7_best 25 = .ok (.iload_n 3, 1) := by decide +kernel
theorem dX7_best_26 : decode cX7_best 26 = .ok (.invokevirtual 70, 3) := by decide +kernel
theorem dX7_best_29 : decode cX7_best 29 = .ok (.aload_n 0, 1) := by decide +kernel
theorem dX7_best_30 : decode cX7_best 30 = .ok (.getfield 7, 3) := by decide +kernel
theorem dX7_best_33 : decode cX7_best 33 = .ok (.iconst 1, 1) := by decide +kernel
theorem dX7_best_34 : decode cX7_best 34 = .ok (.iaload, 1) := by decide +kernel
theorem dX7_best_35 : decode cX7_best 35 = .ok (.isub, 1) := by decide +kernel
theorem dX7_best_36 : decode cX7_best 36 = .ok (.invokestatic 107, 3) := by decide +kernel
theorem dX7_best_39 : decode cX7_best 39 = .ok (.aload_n 0, 1) := by decide +kernel
theorem dX7_best_40 : decode cX7_best 40 = .ok (.iload_n 1, 1) := by decide +kernel
theorem dX7_best_41 : decode cX7_best 41 = .ok (.iload_n 2, 1) := by decide +kernel
theorem dX7_best_42 : decode cX7_best 42 = .ok (.invokevirtual 70, 3) := by decide +kernel
theorem dX7_best_45 : decode cX7_best 45 = .ok (.aload_n 0, 1) := by decide +kernel
theorem dX7_best_46 : decode cX7_best 46 = .ok (.getfield 7, 3) := by decide +kernel
theorem dX7_best_49 : decode cX7_best 49 = .ok (.iconst 1, 1) := by decide +kernel
theorem dX7_best_50 : decode cX7_best 50 = .ok (.iaload, 1) := by decide +kernel
theorem dX7_best_51 : decode cX7_best 51 = .ok (.isub, 1) := by decide +kernel
theorem dX7_best_52 : decode cX7_best 52 = .ok (.invokestatic 107, 3) := by decide +kernel
theorem dX7_best_55 : decode cX7_best 55 = .ok (.if_icmp .ge 7, 3) := by decide +kernel
theorem dX7_best_58 : decode cX7_best 58 = .ok (.iload_n 3, 1) := by decide +kernel
theorem dX7_best_59 : decode cX7_best 59 = .ok (.goto 4, 3) := by decide +kernel
theorem dX7_best_62 : decode cX7_best 62 = .ok (.iload_n 2, 1) := by decide +kernel
theorem dX7_best_63 : decode cX7_best 63 = .ok (.istore_n 2, 1) := by decide +kernel
theorem dX7_best_64 : decode cX7_best 64 = .ok (.iinc 3 1, 3) := by decide +kernel
theorem dX7_best_67 : decode cX7_best 67 = .ok (.goto (-50), 3) := by decide +kernel
theorem dX7_best_70 : decode cX7_best 70 = .ok (.iload_n 2, 1) := by decide +kernel
theorem dX7_best_71 : decode cX7_best 71 = .ok (.ireturn, 1) := by decide +kernel
theorem dX7_bestLag_0 : decode cX7_bestLag 0 = .ok (.aload_n 0, 1) := by decide +kernel
theorem dX7_bestLag_1 : decode cX7_bestLag 1 = .ok (.iconst 0, 1) := by decide +kernel
theorem dX7_bestLag_2 : decode cX7_bestLag 2 = .ok (.putfield 48, 3) := by decide +kernel
theorem dX7_bestLag_5 : decode cX7_bestLag 5 = .ok (.aload_n 0, 1) := by decide +kernel
theorem dX7_bestLag_6 : decode cX7_bestLag 6 = .ok (.iload_n 1, 1) := by decide +kernel
theorem dX7_bestLag_7 : decode cX7_bestLag 7 = .ok (.invokevirtual 141, 3) := by decide +kernel
theorem dX7_bestLag_10 : decode cX7_bestLag 10 = .ok (.ifCond .eq 11, 3) := by decide +kernel
theorem dX7_bestLag_13 : decode cX7_bestLag 13 = .ok (.aload_n 0, 1) := by decide +kernel
theorem dX7_bestLag_14 : decode cX7_bestLag 14 = .ok (.iload_n 1, 1) := by decide +kernel
theorem dX7_bestLag_15 : decode cX7_bestLag 15 = .ok (.invokevirtual 216, 3) := by decide +kernel
theorem dX7_bestLag_18 : decode cX7_bestLag 18 = .ok (.goto 8, 3) := by decide +kernel
theorem dX7_bestLag_21 : decode cX7_bestLag 21 = .ok (.aload_n 0, 1) := by decide +kernel
theorem dX7_bestLag_22 : decode cX7_bestLag 22 = .ok (.iconst 1, 1) := by decide +kernel
theorem dX7_bestLag_23 : decode cX7_bestLag 23 = .ok (.invokevirtual 59, 3) := by decide +kernel
theorem dX7_bestLag_26 : decode cX7_bestLag 26 = .ok (.ireturn, 1) := by decide +kernel
theorem dX7_widest_0 : decode cX7_widest 0 = .ok (.iconst 0, 1) := by decide +kernel
theorem dX7_widest_1 : decode cX7_widest 1 = .ok (.istore_n 1, 1) := by decide +kernel
theorem dX7_widest_2 : decode cX7_widest 2 = .ok (.iconst 0, 1) := by decide +kernel
theorem dX7_widest_3 : decode cX7_widest 3 = .ok (.istore_n 2, 1) := by decide +kernel
theorem dX7_widest_4 : decode cX7_widest 4 = .ok (.iload_n 2, 1) := by decide +kernel
theorem dX7_widest_5 : decode cX7_widest 5 = .ok (.aload_n 0, 1) := by decide +kernel
theorem dX7_widest_6 : decode cX7_widest 6 = .ok (.getfield 7, 3) := by decide +kernel
theorem dX7_widest_9 : decode cX7_widest 9 = .ok (.bipush 15, 2) := by decide +kernel
theorem dX7_widest_11 : decode cX7_widest 11 = .ok (.iaload, 1) := by decide +kernel
theorem dX7_widest_12 : decode cX7_widest 12 = .ok (.if_icmp .ge 44, 3) := by decide +kernel
theorem dX7_widest_15 : decode cX7_widest 15 = .ok (.aload_n 0, 1) := by decide +kernel
theorem dX7_widest_16 : decode cX7_widest 16 = .ok (.iload_n 2, 1) := by decide +kernel
theorem dX7_widest_17 : decode cX7_widest 17 = .ok (.iconst 4, 1) := by decide +kernel
theorem dX7_widest_18 : decode cX7_widest 18 = .ok (.invokevirtual 66, 3) := by decide +kernel
theorem dX7_widest_21 : decode cX7_widest 21 = .ok (.aload_n 0, 1) := by decide +kernel
theorem dX7_widest_22 : decode cX7_widest 22 = .ok (.iload_n 2, 1) := by decide +kernel
theorem dX7_widest_23 : decode cX7_widest 23 = .ok (.iconst 2, 1) := by decide +kernel
theorem dX7_widest_24 : decode cX7_widest 24 = .ok (.invokevirtual 66, 3) := by decide +kernel
theorem dX7_widest_27 : decode cX7_widest 27 = .ok (.isub, 1) := by decide +kernel
theorem dX7_widest_28 : decode cX7_widest 28 = .ok (.aload_n 0, 1) := by decide +kernel
theorem dX7_widest_29 : decode cX7_widest 29 = .ok (.getfield 7, 3) := by decide +kernel
theorem dX7_widest_32 : decode cX7_widest 32 = .ok (.iconst 1, 1) := by decide +kernel
theorem dX7_widest_33 : decode cX7_widest 33 = .ok (.iaload, 1) := by decide +kernel
theorem dX7_widest_34 : decode cX7_widest 34 = .ok (.isub, 1) := by decide +kernel
theorem dX7_widest_35 : decode cX7_widest 35 = .ok (.invokestatic 107, 3) := by decide +kernel
theorem dX7_widest_38 : decode cX7_widest 38 = .ok (.istore_n 3, 1) := by decide +kernel
theorem dX7_widest_39 : decode cX7_widest 39 = .ok (.iload_n 3, 1) := by decide +kernel
theorem dX7_widest_40 : decode cX7_widest 40 = .ok (.iload_n 1, 1) := by decide +kernel
theorem dX7_widest_41 : decode cX7_widest 41 = .ok (.if_icmp .le 7, 3) := by decide +kernel
theorem dX7_widest_44 : decode cX7_widest 44 = .ok (.iload_n 3, 1) := by decide +kernel
theorem dX7_widest_45 : decode cX7_widest 45 = .ok (.goto 4, 3) := by decide +kernel
theorem dX7_widest_48 : decode cX7_widest 48 = .ok (.iload_n 1, 1) := by decide +kernel
theorem dX7_widest_49 : decode cX7_widest 49 = .ok (.istore_n 1, 1) := by decide +kernel
theorem dX7_widest_50 : decode cX7_widest 50 = .ok (.iinc 2 1, 3) := by decide +kernel
theorem dX7_widest_53 : decode cX7_widest 53 = .ok (.goto (-49), 3) := by decide +kernel
theorem dX7_widest_56 : decode cX7_widest 56 = .ok (.iload_n 1, 1) := by decide +kernel
theorem dX7_widest_57 : decode cX7_widest 57 = .ok (.ireturn, 1) := by decide +kernel
theorem dX7_behind_0 : decode cX7_behind 0 = .ok (.iconst 0, 1) := by decide +kernel
theorem dX7_behind_1 : decode cX7_behind 1 = .ok (.istore_n 3, 1) := by decide +kernel
theorem dX7_behind_2 : decode cX7_behind 2 = .ok (.iload_n 3, 1) := by decide +kernel
theorem dX7_behind_3 : decode cX7_behind 3 = .ok (.sipush 226, 3) := by decide +kernel
theorem dX7_behind_6 : decode cX7_behind 6 = .ok (.if_icmp .ge 21, 3) := by decide +kernel
theorem dX7_behind_9 : decode cX7_behind 9 = .ok (.aload_n 0, 1) := by decide +kernel
theorem dX7_behind_10 : decode cX7_behind 10 = .ok (.getfield 23, 3) := by decide +kernel
theorem dX7_behind_13 : decode cX7_behind 13 = .ok (.iload_n 3, 1) := by decide +kernel
theorem dX7_behind_14 : decode cX7_behind 14 = .ok (.aload_n 0, 1) := by decide +kernel
theorem dX7_behind_15 : decode cX7_behind 15 = .ok (.getfield 7, 3) := by decide +kernel
theorem dX7_behind_18 : decode cX7_behind 18 = .ok (.iload_n 3, 1) := by decide +kernel
theorem dX7_behind_19 : decode cX7_behind 19 = .ok (.iaload, 1) := by decide +kernel
theorem dX7_behind_20 : decode cX7_behind 20 = .ok (.iastore, 1) := by decide +kernel
theorem dX7_behind_21 : decode cX7_behind 21 = .ok (.iinc 3 1, 3) := by decide +kernel
theorem dX7_behind_24 : decode cX7_behind 24 = .ok (.goto (-22), 3) := by decide +kernel
theorem dX7_behind_27 : decode cX7_behind 27 = .ok (.iconst 0, 1) := by decide +kernel
theorem dX7_behind_28 : decode cX7_behind 28 = .ok (.istore_n 3, 1) := by decide +kernel
theorem dX7_behind_29 : decode cX7_behind 29 = .ok (.iload_n 3, 1) := by decide +kernel
theorem dX7_behind_30 : decode cX7_behind 30 = .ok (.iload_n 1, 1) := by decide +kernel
theorem dX7_behind_31 : decode cX7_behind 31 = .ok (.if_icmp .ge 21, 3) := by decide +kernel
theorem dX7_behind_34 : decode cX7_behind 34 = .ok (.aload_n 0, 1) := by decide +kernel
theorem dX7_behind_35 : decode cX7_behind 35 = .ok (.aload_n 0, 1) := by decide +kernel
theorem dX7_behind_36 : decode cX7_behind 36 = .ok (.getfield 7, 3) := by decide +kernel
theorem dX7_behind_39 : decode cX7_behind 39 = .ok (.iconst 1, 1) := by decide +kernel
theorem dX7_behind_40 : decode cX7_behind 40 = .ok (.iaload, 1) := by decide +kernel
theorem dX7_behind_41 : decode cX7_behind 41 = .ok (.invokevirtual 135, 3) := by decide +kernel
theorem dX7_behind_44 : decode cX7_behind 44 = .ok (.istore 4, 2) := by decide +kernel
theorem dX7_behind_46 : decode cX7_behind 46 = .ok (.iinc 3 1, 3) := by decide +kernel
theorem dX7_behind_49 : decode cX7_behind 49 = .ok (.goto (-20), 3) := by decide +kernel
theorem dX7_behind_52 : decode cX7_behind 52 = .ok (.iload_n 2, 1) := by decide +kernel
theorem dX7_behind_53 : decode cX7_behind 53 = .ok (.ifCond .ne 10, 3) := by decide +kernel
theorem dX7_behind_56 : decode cX7_behind 56 = .ok (.aload_n 0, 1) := by decide +kernel
theorem dX7_behind_57 : decode cX7_behind 57 = .ok (.invokevirtual 87, 3) := by decide +kernel
theorem dX7_behind_60 : decode cX7_behind 60 = .ok (.goto 42, 3) := by decide +kernel
theorem dX7_behind_63 : decode cX7_behind 63 = .ok (.iload_n 2, 1) := by decide +kernel
theorem dX7_behind_64 : decode cX7_behind 64 = .ok (.iconst 1, 1) := by decide +kernel
theorem dX7_behind_65 : decode cX7_behind 65 = .ok (.if_icmp .ne 10, 3) := by decide +kernel
theorem dX7_behind_68 : decode cX7_behind 68 = .ok (.aload_n 0, 1) := by decide +kernel
theorem dX7_behind_69 : decode cX7_behind 69 = .ok (.invokevirtual 198, 3) := by decide +kernel
theorem dX7_behind_72 : decode cX7_behind 72 = .ok (.goto 30, 3) := by decide +kernel
theorem dX7_behind_75 : decode cX7_behind 75 = .ok (.iload_n 2, 1) := by decide +kernel
theorem dX7_behind_76 : decode cX7_behind 76 = .ok (.iconst 2, 1) := by decide +kernel
theorem dX7_behind_77 : decode cX7_behind 77 = .ok (.if_icmp .ne 21, 3) := by decide +kernel
theorem dX7_behind_80 : decode cX7_behind 80 = .ok (.aload_n 0, 1) := by decide +kernel
theorem dX7_behind_81 : decode cX7_behind 81 = .ok (.getfield 7, 3) := by decide +kernel
theorem dX7_behind_84 : decode cX7_behind 84 = .ok (.bipush 13, 2) := by decide +kernel
theorem dX7_behind_86 : decode cX7_behind 86 = .ok (.iaload, 1) := by decide +kernel
theorem dX7_behind_87 : decode cX7_behind 87 = .ok (.aload_n 0, 1) := by decide +kernel
theorem dX7_behind_88 : decode cX7_behind 88 = .ok (.getfield 23, 3) := by decide +kernel
theorem dX7_behind_91 : decode cX7_behind 91 = .ok (.bipush 13, 2) := by decide +kernel
theorem dX7_behind_93 : decode cX7_behind 93 = .ok (.iaload, 1) := by decide +kernel
theorem dX7_behind_94 : decode cX7_behind 94 = .ok (.isub, 1) := by decide +kernel
theorem dX7_behind_95 : decode cX7_behind 95 = .ok (.goto 7, 3) := by decide +kernel
theorem dX7_behind_98 : decode cX7_behind 98 = .ok (.aload_n 0, 1) := by decide +kernel
theorem dX7_behind_99 : decode cX7_behind 99 = .ok (.invokevirtual 219, 3) := by decide +kernel
theorem dX7_behind_102 : decode cX7_behind 102 = .ok (.istore_n 3, 1) := by decide +kernel
theorem dX7_behind_103 : decode cX7_behind 103 = .ok (.iconst 0, 1) := by decide +kernel
theorem dX7_behind_104 : decode cX7_behind 104 = .ok (.istore 4, 2) := by decide +kernel
theorem dX7_behind_106 : decode cX7_behind 106 = .ok (.iload 4, 2) := by decide +kernel
theorem dX7_behind_108 : decode cX7_behind 108 = .ok (.sipush 226, 3) := by decide +kernel
theorem dX7_behind_111 : decode cX7_behind 111 = .ok (.if_icmp .ge 23, 3) := by decide +kernel
theorem dX7_behind_114 : decode cX7_behind 114 = .ok (.aload_n 0, 1) := by decide +kernel
theorem dX7_behind_115 : decode cX7_behind 115 = .ok (.getfield 7, 3) := by decide +kernel
theorem dX7_behind_118 : decode cX7_behind 118 = .ok (.iload 4, 2) := by decide +kernel
theorem dX7_behind_120 : decode cX7_behind 120 = .ok (.aload_n 0, 1) := by decide +kernel
theorem dX7_behind_121 : decode cX7_behind 121 = .ok (.getfield 23, 3) := by decide +kernel
theorem dX7_behind_124 : decode cX7_behind 124 = .ok (.iload 4, 2) := by decide +kernel
theorem dX7_behind_126 : decode cX7_behind 126 = .ok (.iaload, 1) := by decide +kernel
theorem dX7_behind_127 : decode cX7_behind 127 = .ok (.iastore, 1) := by decide +kernel
theorem dX7_behind_128 : decode cX7_behind 128 = .ok (.iinc 4 1, 3) := by decide +kernel
theorem dX7_behind_131 : decode cX7_behind 131 = .ok (.goto (-25), 3) := by decide +kernel
theorem dX7_behind_134 : decode cX7_behind 134 = .ok (.iload_n 3, 1) := by decide +kernel
theorem dX7_behind_135 : decode cX7_behind 135 = .ok (.ireturn, 1) := by decide +kernel
theorem dX7_ifStill_0 : decode cX7_ifStill 0 = .ok (.aload_n 0, 1) := by decide +kernel
theorem dX7_ifStill_1 : decode cX7_ifStill 1 = .ok (.iconst 0, 1) := by decide +kernel
theorem dX7_ifStill_2 : decode cX7_ifStill 2 = .ok (.putfield 48, 3) := by decide +kernel
theorem dX7_ifStill_5 : decode cX7_ifStill 5 = .ok (.iload_n 1, 1) := by decide +kernel
theorem dX7_ifStill_6 : decode cX7_ifStill 6 = .ok (.iconst 1, 1) := by decide +kernel
theorem dX7_ifStill_7 : decode cX7_ifStill 7 = .ok (.bipush 48, 2) := by decide +kernel
theorem dX7_ifStill_9 : decode cX7_ifStill 9 = .ok (.invokestatic 52, 3) := by decide +kernel
theorem dX7_ifStill_12 : decode cX7_ifStill 12 = .ok (.ifCond .eq 21, 3) := by decide +kernel
theorem dX7_ifStill_15 : decode cX7_ifStill 15 = .ok (.iload_n 2, 1) := by decide +kernel
theorem dX7_ifStill_16 : decode cX7_ifStill 16 = .ok (.iconst 0, 1) := by decide +kernel
theorem dX7_ifStill_17 : decode cX7_ifStill 17 = .ok (.iconst 3, 1) := by decide +kernel
theorem dX7_ifStill_18 : decode cX7_ifStill 18 = .ok (.invokestatic 52, 3) := by decide +kernel
theorem dX7_ifStill_21 : decode cX7_ifStill 21 = .ok (.ifCond .eq 12, 3) := by decide +kernel
theorem dX7_ifStill_24 : decode cX7_ifStill 24 = .ok (.aload_n 0, 1) := by decide +kernel
theorem dX7_ifStill_25 : decode cX7_ifStill 25 = .ok (.iload_n 1, 1) := by decide +kernel
theorem dX7_ifStill_26 : decode cX7_ifStill 26 = .ok (.iload_n 2, 1) := by decide +kernel
theorem dX7_ifStill_27 : decode cX7_ifStill 27 = .ok (.invokevirtual 222, 3) := by decide +kernel
theorem dX7_ifStill_30 : decode cX7_ifStill 30 = .ok (.goto 8, 3) := by decide +kernel
theorem dX7_ifStill_33 : decode cX7_ifStill 33 = .ok (.aload_n 0, 1) := by decide +kernel
theorem dX7_ifStill_34 : decode cX7_ifStill 34 = .ok (.iconst 1, 1) := by decide +kernel
theorem dX7_ifStill_35 : decode cX7_ifStill 35 = .ok (.invokevirtual 59, 3) := by decide +kernel
theorem dX7_ifStill_38 : decode cX7_ifStill 38 = .ok (.ireturn, 1) := by decide +kernel
theorem dX7_stillIn_0 : decode cX7_stillIn 0 = .ok (.aload_n 0, 1) := by decide +kernel
theorem dX7_stillIn_1 : decode cX7_stillIn 1 = .ok (.iconst 0, 1) := by decide +kernel
theorem dX7_stillIn_2 : decode cX7_stillIn 2 = .ok (.putfield 48, 3) := by decide +kernel
theorem dX7_stillIn_5 : decode cX7_stillIn 5 = .ok (.aload_n 0, 1) := by decide +kernel
theorem dX7_stillIn_6 : decode cX7_stillIn 6 = .ok (.iload_n 1, 1) := by decide +kernel
theorem dX7_stillIn_7 : decode cX7_stillIn 7 = .ok (.invokevirtual 141, 3) := by decide +kernel
theorem dX7_stillIn_10 : decode cX7_stillIn 10 = .ok (.ifCond .ne 9, 3) := by decide +kernel
theorem dX7_stillIn_13 : decode cX7_stillIn 13 = .ok (.aload_n 0, 1) := by decide +kernel
theorem dX7_stillIn_14 : decode cX7_stillIn 14 = .ok (.iconst 1, 1) := by decide +kernel
theorem dX7_stillIn_15 : decode cX7_stillIn 15 = .ok (.invokevirtual 59, 3) := by decide +kernel
theorem dX7_stillIn_18 : decode cX7_stillIn 18 = .ok (.ireturn, 1) := by decide +kernel
theorem dX7_stillIn_19 : decode cX7_stillIn 19 = .ok (.aload_n 0, 1) := by decide +kernel
theorem dX7_stillIn_20 : decode cX7_stillIn 20 = .ok (.iload_n 1, 1) := by decide +kernel
theorem dX7_stillIn_21 : decode cX7_stillIn 21 = .ok (.iconst 4, 1) := by decide +kernel
theorem dX7_stillIn_22 : decode cX7_stillIn 22 = .ok (.invokevirtual 66, 3) := by decide +kernel
theorem dX7_stillIn_25 : decode cX7_stillIn 25 = .ok (.istore_n 2, 1) := by decide +kernel
theorem dX7_stillIn_26 : decode cX7_stillIn 26 = .ok (.iconst 0, 1) := by decide +kernel
theorem dX7_stillIn_27 : decode cX7_stillIn 27 = .ok (.istore_n 3, 1) := by decide +kernel
theorem dX7_stillIn_28 : decode cX7_stillIn 28 = .ok (.aload_n 0, 1) := by decide +kernel
theorem dX7_stillIn_29 : decode cX7_stillIn 29 = .ok (.iload_n 1, 1) := by decide +kernel
theorem dX7_stillIn_30 : decode cX7_stillIn 30 = .ok (.invokevirtual 91, 3) := by decide +kernel
theorem dX7_stillIn_33 : decode cX7_stillIn 33 = .ok (.ifCond .eq 14, 3) := by decide +kernel
theorem dX7_stillIn_36 : decode cX7_stillIn 36 = .ok (.aload_n 0, 1) := by decide +kernel
theorem dX7_stillIn_37 : decode cX7_stillIn 37 = .ok (.iload_n 1, 1) := by decide +kernel
theorem dX7_stillIn_38 : decode cX7_stillIn 38 = .ok (.invokevirtual 113, 3) := by decide +kernel
theorem dX7_stillIn_41 : decode cX7_stillIn 41 = .ok (.iinc 3 1, 3) := by decide +kernel
theorem dX7_stillIn_44 : decode cX7_stillIn 44 = .ok (.goto (-16), 3) := by decide +kernel
theorem dX7_stillIn_47 : decode cX7_stillIn 47 = .ok (.aload_n 0, 1) := by decide +kernel
theorem dX7_stillIn_48 : decode cX7_stillIn 48 = .ok (.iload_n 1, 1) := by decide +kernel
theorem dX7_stillIn_49 : decode cX7_stillIn 49 = .ok (.iconst 4, 1) := by decide +kernel
theorem dX7_stillIn_50 : decode cX7_stillIn 50 = .ok (.iload_n 2, 1) := by decide +kernel
theorem dX7_stillIn_51 : decode cX7_stillIn 51 = .ok (.invokevirtual 94, 3) := by decide +kernel
theorem dX7_stillIn_54 : decode cX7_stillIn 54 = .ok (.iload_n 3, 1) := by decide +kernel
theorem dX7_stillIn_55 : decode cX7_stillIn 55 = .ok (.ireturn, 1) := by decide +kernel
theorem dX7_meanError_0 : decode cX7_meanError 0 = .ok (.aload_n 0, 1) := by decide +kernel
theorem dX7_meanError_1 : decode cX7_meanError 1 = .ok (.iconst 0, 1) := by decide +kernel
theorem dX7_meanError_2 : decode cX7_meanError 2 = .ok (.putfield 48, 3) := by decide +kernel
theorem dX7_meanError_5 : decode cX7_meanError 5 = .ok (.iconst 0, 1) := by decide +kernel
theorem dX7_meanError_6 : decode cX7_meanError 6 = .ok (.istore_n 1, 1) := by decide +kernel
theorem dX7_meanError_7 : decode cX7_meanError 7 = .ok (.iconst 0, 1) := by decide +kernel
theorem dX7_meanError_8 : decode cX7_meanError 8 = .ok (.istore_n 2, 1) := by decide +kernel
theorem dX7_meanError_9 : decode cX7_meanError 9 = .ok (.iconst 0, 1) := by decide +kernel
theorem dX7_meanError_10 : decode cX7_meanError 10 = .ok (.istore_n 3, 1) := by decide +kernel
theorem dX7_meanError_11 : decode cX7_meanError 11 = .ok (.iload_n 3, 1) := by decide +kernel
theorem dX7_meanError_12 : decode cX7_meanError 12 = .ok (.aload_n 0, 1) := by decide +kernel
theorem dX7_meanError_13 : decode cX7_meanError 13 = .ok (.getfield 7, 3) := by decide +kernel
theorem dX7_meanError_16 : decode cX7_meanError 16 = .ok (.bipush 15, 2) := by decide +kernel
theorem dX7_meanError_18 : decode cX7_meanError 18 = .ok (.iaload, 1) := by decide +kernel
theorem dX7_meanError_19 : decode cX7_meanError 19 = .ok (.if_icmp .ge 49, 3) := by decide +kernel
theorem dX7_meanError_22 : decode cX7_meanError 22 = .ok (.iload_n 1, 1) := by decide +kernel
theorem dX7_meanError_23 : decode cX7_meanError 23 = .ok (.aload_n 0, 1) := by decide +kernel
theorem dX7_meanError_24 : decode cX7_meanError 24 = .ok (.iload_n 3, 1) := by decide +kernel
theorem dX7_meanError_25 : decode cX7_meanError 25 = .ok (.bipush 7, 2) := by decide +kernel
theorem dX7_meanError_27 : decode cX7_meanError 27 = .ok (.invokevirtual 66, 3) := by decide +kernel
theorem dX7_meanError_30 : decode cX7_meanError 30 = .ok (.ifCond .le 11, 3) := by decide +kernel
theorem dX7_meanError_33 : decode cX7_meanError 33 = .ok (.aload_n 0, 1) := by decide +kernel
theorem dX7_meanError_34 : decode cX7_meanError 34 = .ok (.iload_n 3, 1) := by decide +kernel
theorem dX7_meanError_35 : decode cX7_meanError 35 = .ok (.invokevirtual 207, 3) := by decide +kernel
theorem dX7_meanError_38 : decode cX7_meanError 38 = .ok (.goto 4, 3) := by decide +kernel
theorem dX7_meanError_41 : decode cX7_meanError 41 = .ok (.iconst 0, 1) := by decide +kernel
theorem dX7_meanError_42 : decode cX7_meanError 42 = .ok (.iadd, 1) := by decide +kernel
theorem dX7_meanError_43 : decode cX7_meanError 43 = .ok (.istore_n 1, 1) := by decide +kernel
theorem dX7_meanError_44 : decode cX7_meanError 44 = .ok (.iload_n 2, 1) := by decide +kernel
theorem dX7_meanError_45 : decode cX7_meanError 45 = .ok (.aload_n 0, 1) := by decide +kernel
theorem dX7_meanError_46 : decode cX7_meanError 46 = .ok (.iload_n 3, 1) := by decide +kernel
theorem dX7_meanError_47 : decode cX7_meanError 47 = .ok (.bipush 7, 2) := by decide +kernel
theorem dX7_meanError_49 : decode cX7_meanError 49 = .ok (.invokevirtual 66, 3) := by decide +kernel
theorem dX7_meanError_52 : decode cX7_meanError 52 = .ok (.ifCond .le 7, 3) := by decide +kernel
theorem dX7_meanError_55 : decode cX7_meanError 55 = .ok (.iconst 1, 1) := by decide +kernel
theorem dX7_meanError_56 : decode cX7_meanError 56 = .ok (.goto 4, 3) := by decide +kernel
theorem dX7_meanError_59 : decode cX7_meanError 59 = .ok (.iconst 0, 1) := by decide +kernel
theorem dX7_meanError_60 : decode cX7_meanError 60 = .ok (.iadd, 1) := by decide +kernel
theorem dX7_meanError_61 : decode cX7_meanError 61 = .ok (.istore_n 2, 1) := by decide +kernel
theorem dX7_meanError_62 : decode cX7_meanError 62 = .ok (.iinc 3 1, 3) := by decide +kernel
theorem dX7_meanError_65 : decode cX7_meanError 65 = .ok (.goto (-54), 3) := by decide +kernel
theorem dX7_meanError_68 : decode cX7_meanError 68 = .ok (.iload_n 2, 1) := by decide +kernel
theorem dX7_meanError_69 : decode cX7_meanError 69 = .ok (.ifCond .ne 7, 3) := by decide +kernel
theorem dX7_meanError_72 : decode cX7_meanError 72 = .ok (.dconst 0, 1) := by decide +kernel
theorem dX7_meanError_73 : decode cX7_meanError 73 = .ok (.goto 8, 3) := by decide +kernel
theorem dX7_meanError_76 : decode cX7_meanError 76 = .ok (.iload_n 1, 1) := by decide +kernel
theorem dX7_meanError_77 : decode cX7_meanError 77 = .ok (.i2d, 1) := by decide +kernel
theorem dX7_meanError_78 : decode cX7_meanError 78 = .ok (.iload_n 2, 1) := by decide +kernel
theorem dX7_meanError_79 : decode cX7_meanError 79 = .ok (.i2d, 1) := by decide +kernel
theorem dX7_meanError_80 : decode cX7_meanError 80 = .ok (.ddiv, 1) := by decide +kernel
theorem dX7_meanError_81 : decode cX7_meanError 81 = .ok (.dreturn, 1) := by decide +kernel
