theorem dX8_assign_51 : decode cX8_assign 51 = .ok (.iload_n 3, 1) := by decide +kernel
theorem dX8_assign_52 : decode cX8_assign 52 = .ok (.aload 5, 2) := by decide +kernel
theorem dX8_assign_54 : decode cX8_assign 54 = .ok (.getfield 76, 3) := by decide +kernel
theorem dX8_assign_57 : decode cX8_assign 57 = .ok (.iadd, 1) := by decide +kernel
theorem dX8_assign_58 : decode cX8_assign 58 = .ok (.iload 4, 2) := by decide +kernel
theorem dX8_assign_60 : decode cX8_assign 60 = .ok (.aload 5, 2) := by decide +kernel
theorem dX8_assign_62 : decode cX8_assign 62 = .ok (.getfield 77, 3) := by decide +kernel
theorem dX8_assign_65 : decode cX8_assign 65 = .ok (.iadd, 1) := by decide +kernel
theorem dX8_assign_66 : decode cX8_assign 66 = .ok (.invokevirtual 63, 3) := by decide +kernel
theorem dX8_assign_69 : decode cX8_assign 69 = .ok (.return_, 1) := by decide +kernel
theorem dX8_assign_70 : decode cX8_assign 70 = .ok (.iconst 0, 1) := by decide +kernel
theorem dX8_assign_71 : decode cX8_assign 71 = .ok (.istore 6, 2) := by decide +kernel
theorem dX8_assign_73 : decode cX8_assign 73 = .ok (.iload 6, 2) := by decide +kernel
theorem dX8_assign_75 : decode cX8_assign 75 = .ok (.aload_n 1, 1) := by decide +kernel
theorem dX8_assign_76 : decode cX8_assign 76 = .ok (.getfield 37, 3) := by decide +kernel
theorem dX8_assign_79 : decode cX8_assign 79 = .ok (.if_icmp .ge 96, 3) := by decide +kernel
theorem dX8_assign_82 : decode cX8_assign 82 = .ok (.iload_n 2, 1) := by decide +kernel
theorem dX8_assign_83 : decode cX8_assign 83 = .ok (.iconst 3, 1) := by decide +kernel
theorem dX8_assign_84 : decode cX8_assign 84 = .ok (.imul, 1) := by decide +kernel
theorem dX8_assign_85 : decode cX8_assign 85 = .ok (.iload 6, 2) := by decide +kernel
theorem dX8_assign_87 : decode cX8_assign 87 = .ok (.iadd, 1) := by decide +kernel
theorem dX8_assign_88 : decode cX8_assign 88 = .ok (.istore 7, 2) := by decide +kernel
theorem dX8_assign_90 : decode cX8_assign 90 = .ok (.aload_n 0, 1) := by decide +kernel
theorem dX8_assign_91 : decode cX8_assign 91 = .ok (.getfield 18, 3) := by decide +kernel
theorem dX8_assign_94 : decode cX8_assign 94 = .ok (.iload 6, 2) := by decide +kernel
theorem dX8_assign_96 : decode cX8_assign 96 = .ok (.iaload, 1) := by decide +kernel
theorem dX8_assign_97 : decode cX8_assign 97 = .ok (.iconst 2, 1) := by decide +kernel
theorem dX8_assign_98 : decode cX8_assign 98 = .ok (.if_icmp .ge 71, 3) := by decide +kernel
theorem dX8_assign_101 : decode cX8_assign 101 = .ok (.aload_n 0, 1) := by decide +kernel
theorem dX8_assign_102 : decode cX8_assign 102 = .ok (.getfield 9, 3) := by decide +kernel
theorem dX8_assign_105 : decode cX8_assign 105 = .ok (.iload 7, 2) := by decide +kernel
theorem dX8_assign_107 : decode cX8_assign 107 = .ok (.iaload, 1) := by decide +kernel
theorem dX8_assign_108 : decode cX8_assign 108 = .ok (.iconst (-1), 1) := by decide +kernel
theorem dX8_assign_109 : decode cX8_assign 109 = .ok (.if_icmp .eq 60, 3) := by decide +kernel
theorem dX8_assign_112 : decode cX8_assign 112 = .ok (.aload_n 0, 1) := by decide +kernel
theorem dX8_assign_113 : decode cX8_assign 113 = .ok (.getfield 21, 3) := by decide +kernel
theorem dX8_assign_116 : decode cX8_assign 116 = .ok (.iload_n 2, 1) := by decide +kernel
theorem dX8_assign_117 : decode cX8_assign 117 = .ok (.iload 6, 2) := by decide +kernel
theorem dX8_assign_119 : decode cX8_assign 119 = .ok (.iastore, 1) := by decide +kernel
theorem dX8_assign_120 : decode cX8_assign 120 = .ok (.aload_n 0, 1) := by decide +kernel
theorem dX8_assign_121 : decode cX8_assign 121 = .ok (.getfield 18, 3) := by decide +kernel
theorem dX8_assign_124 : decode cX8_assign 124 = .ok (.iload 6, 2) := by decide +kernel
theorem dX8_assign_126 : decode cX8_assign 126 = .ok (.dup2, 1) := by decide +kernel
theorem dX8_assign_127 : decode cX8_assign 127 = .ok (.iaload, 1) := by decide +kernel
theorem dX8_assign_128 : decode cX8_assign 128 = .ok (.iconst 1, 1) := by decide +kernel
theorem dX8_assign_129 : decode cX8_assign 129 = .ok (.iadd, 1) := by decide +kernel
theorem dX8_assign_130 : decode cX8_assign 130 = .ok (.iastore, 1) := by decide +kernel
theorem dX8_assign_131 : decode cX8_assign 131 = .ok (.aload_n 0, 1) := by decide +kernel
theorem dX8_assign_132 : decode cX8_assign 132 = .ok (.aload_n 1, 1) := by decide +kernel
theorem dX8_assign_133 : decode cX8_assign 133 = .ok (.iload_n 2, 1) := by decide +kernel
theorem dX8_assign_134 : decode cX8_assign 134 = .ok (.iconst 1, 1) := by decide +kernel
theorem dX8_assign_135 : decode cX8_assign 135 = .ok (.iadd, 1) := by decide +kernel
theorem dX8_assign_136 : decode cX8_assign 136 = .ok (.iload_n 3, 1) := by decide +kernel
theorem dX8_assign_137 : decode cX8_assign 137 = .ok (.aload_n 0, 1) := by decide +kernel
theorem dX8_assign_138 : decode cX8_assign 138 = .ok (.getfield 9, 3) := by decide +kernel
theorem dX8_assign_141 : decode cX8_assign 141 = .ok (.iload 7, 2) := by decide +kernel
theorem dX8_assign_143 : decode cX8_assign 143 = .ok (.iaload, 1) := by decide +kernel
theorem dX8_assign_144 : decode cX8_assign 144 = .ok (.iadd, 1) := by decide +kernel
theorem dX8_assign_145 : decode cX8_assign 145 = .ok (.iload 4, 2) := by decide +kernel
theorem dX8_assign_147 : decode cX8_assign 147 = .ok (.aload_n 0, 1) := by decide +kernel
theorem dX8_assign_148 : decode cX8_assign 148 = .ok (.getfield 15, 3) := by decide +kernel
theorem dX8_assign_151 : decode cX8_assign 151 = .ok (.iload 7, 2) := by decide +kernel
theorem dX8_assign_153 : decode cX8_assign 153 = .ok (.iaload, 1) := by decide +kernel
theorem dX8_assign_154 : decode cX8_assign 154 = .ok (.iadd, 1) := by decide +kernel
theorem dX8_assign_155 : decode cX8_assign 155 = .ok (.invokevirtual 63, 3) := by decide +kernel
theorem dX8_assign_158 : decode cX8_assign 158 = .ok (.aload_n 0, 1) := by decide +kernel
theorem dX8_assign_159 : decode cX8_assign 159 = .ok (.getfield 18, 3) := by decide +kernel
theorem dX8_assign_162 : decode cX8_assign 162 = .ok (.iload 6, 2) := by decide +kernel
theorem dX8_assign_164 : decode cX8_assign 164 = .ok (.dup2, 1) := by decide +kernel
theorem dX8_assign_165 : decode cX8_assign 165 = .ok (.iaload, 1) := by decide +kernel
theorem dX8_assign_166 : decode cX8_assign 166 = .ok (.iconst 1, 1) := by decide +kernel
theorem dX8_assign_167 : decode cX8_assign 167 = .ok (.isub, 1) := by decide +kernel
theorem dX8_assign_168 : decode cX8_assign 168 = .ok (.iastore, 1) := by decide +kernel
theorem dX8_assign_169 : decode cX8_assign 169 = .ok (.iinc 6 1, 3) := by decide +kernel
theorem dX8_assign_172 : decode cX8_assign 172 = .ok (.goto (-99), 3) := by decide +kernel
theorem dX8_assign_175 : decode cX8_assign 175 = .ok (.return_, 1) := by decide +kernel
theorem dX8_settle_0 : decode cX8_settle 0 = .ok (.aload_n 0, 1) := by decide +kernel
theorem dX8_settle_1 : decode cX8_settle 1 = .ok (.getfield 27, 3) := by decide +kernel
theorem dX8_settle_4 : decode cX8_settle 4 = .ok (.ifCond .eq 27, 3) := by decide +kernel
theorem dX8_settle_7 : decode cX8_settle 7 = .ok (.iload_n 1, 1) := by decide +kernel
theorem dX8_settle_8 : decode cX8_settle 8 = .ok (.aload_n 0, 1) := by decide +kernel
theorem dX8_settle_9 : decode cX8_settle 9 = .ok (.getfield 78, 3) := by decide +kernel
theorem dX8_settle_12 : decode cX8_settle 12 = .ok (.if_icmp .gt 19, 3) := by decide +kernel
theorem dX8_settle_15 : decode cX8_settle 15 = .ok (.iload_n 1, 1) := by decide +kernel
theorem dX8_settle_16 : decode cX8_settle 16 = .ok (.aload_n 0, 1) := by decide +kernel
theorem dX8_settle_17 : decode cX8_settle 17 = .ok (.getfield 78, 3) := by decide +kernel
theorem dX8_settle_20 : decode cX8_settle 20 = .ok (.if_icmp .ne 15, 3) := by decide +kernel
theorem dX8_settle_23 : decode cX8_settle 23 = .ok (.iload_n 2, 1) := by decide +kernel
theorem dX8_settle_24 : decode cX8_settle 24 = .ok (.aload_n 0, 1) := by decide +kernel
theorem dX8_settle_25 : decode cX8_settle 25 = .ok (.getfield 79, 3) := by decide +kernel
theorem dX8_settle_28 : decode cX8_settle 28 = .ok (.if_icmp .ge 7, 3) := by decide +kernel
theorem dX8_settle_31 : decode cX8_settle 31 = .ok (.iconst 1, 1) := by decide +kernel
theorem dX8_settle_32 : decode cX8_settle 32 = .ok (.goto 4, 3) := by decide +kernel
theorem dX8_settle_35 : decode cX8_settle 35 = .ok (.iconst 0, 1) := by decide +kernel
theorem dX8_settle_36 : decode cX8_settle 36 = .ok (.istore_n 3, 1) := by decide +kernel
theorem dX8_settle_37 : decode cX8_settle 37 = .ok (.iload_n 3, 1) := by decide +kernel
theorem dX8_settle_38 : decode cX8_settle 38 = .ok (.ifCond .ne 4, 3) := by decide +kernel
theorem dX8_settle_41 : decode cX8_settle 41 = .ok (.return_, 1) := by decide +kernel
theorem dX8_settle_42 : decode cX8_settle 42 = .ok (.aload_n 0, 1) := by decide +kernel
theorem dX8_settle_43 : decode cX8_settle 43 = .ok (.iconst 1, 1) := by decide +kernel
theorem dX8_settle_44 : decode cX8_settle 44 = .ok (.putfield 27, 3) := by decide +kernel
theorem dX8_settle_47 : decode cX8_settle 47 = .ok (.aload_n 0, 1) := by decide +kernel
theorem dX8_settle_48 : decode cX8_settle 48 = .ok (.iload_n 1, 1) := by decide +kernel
theorem dX8_settle_49 : decode cX8_settle 49 = .ok (.putfield 78, 3) := by decide +kernel
theorem dX8_settle_52 : decode cX8_settle 52 = .ok (.aload_n 0, 1) := by decide +kernel
theorem dX8_settle_53 : decode cX8_settle 53 = .ok (.iload_n 2, 1) := by decide +kernel
theorem dX8_settle_54 : decode cX8_settle 54 = .ok (.putfield 79, 3) := by decide +kernel
theorem dX8_settle_57 : decode cX8_settle 57 = .ok (.aload_n 0, 1) := by decide +kernel
theorem dX8_settle_58 : decode cX8_settle 58 = .ok (.getfield 21, 3) := by decide +kernel
theorem dX8_settle_61 : decode cX8_settle 61 = .ok (.iconst 0, 1) := by decide +kernel
theorem dX8_settle_62 : decode cX8_settle 62 = .ok (.aload_n 0, 1) := by decide +kernel
theorem dX8_settle_63 : decode cX8_settle 63 = .ok (.getfield 24, 3) := by decide +kernel
theorem dX8_settle_66 : decode cX8_settle 66 = .ok (.iconst 0, 1) := by decide +kernel
theorem dX8_settle_67 : decode cX8_settle 67 = .ok (.iconst 4, 1) := by decide +kernel
theorem dX8_settle_68 : decode cX8_settle 68 = .ok (.invokestatic 80, 3) := by decide +kernel
theorem dX8_settle_71 : decode cX8_settle 71 = .ok (.return_, 1) := by decide +kernel
theorem dX9_init_0 : decode cX9_init 0 = .ok (.aload_n 0, 1) := by decide +kernel
theorem dX9_init_1 : decode cX9_init 1 = .ok (.invokespecial 1, 3) := by decide +kernel
theorem dX9_init_4 : decode cX9_init 4 = .ok (.aload_n 0, 1) := by decide +kernel
theorem dX9_init_5 : decode cX9_init 5 = .ok (.iload_n 1, 1) := by decide +kernel
theorem dX9_init_6 : decode cX9_init 6 = .ok (.putfield 7, 3) := by decide +kernel
theorem dX9_init_9 : decode cX9_init 9 = .ok (.aload_n 0, 1) := by decide +kernel
theorem dX9_init_10 : decode cX9_init 10 = .ok (.iload_n 2, 1) := by decide +kernel
theorem dX9_init_11 : decode cX9_init 11 = .ok (.putfield 13, 3) := by decide +kernel
theorem dX9_init_14 : decode cX9_init 14 = .ok (.aload_n 0, 1) := by decide +kernel
theorem dX9_init_15 : decode cX9_init 15 = .ok (.iload_n 1, 1) := by decide +kernel
theorem dX9_init_16 : decode cX9_init 16 = .ok (.iload_n 2, 1) := by decide +kernel
theorem dX9_init_17 : decode cX9_init 17 = .ok (.imul, 1) := by decide +kernel
theorem dX9_init_18 : decode cX9_init 18 = .ok (.newarray .int, 2) := by decide +kernel
theorem dX9_init_20 : decode cX9_init 20 = .ok (.putfield 16, 3) := by decide +kernel
theorem dX9_init_23 : decode cX9_init 23 = .ok (.return_, 1) := by decide +kernel
theorem dX9_isFull_0 : decode cX9_isFull 0 = .ok (.aload_n 0, 1) := by decide +kernel
theorem dX9_isFull_1 : decode cX9_isFull 1 = .ok (.getfield 20, 3) := by decide +kernel
theorem dX9_isFull_4 : decode cX9_isFull 4 = .ok (.aload_n 0, 1) := by decide +kernel
theorem dX9_isFull_5 : decode cX9_isFull 5 = .ok (.getfield 13, 3) := by decide +kernel
theorem dX9_isFull_8 : decode cX9_isFull 8 = .ok (.if_icmp .lt 7, 3) := by decide +kernel
theorem dX9_isFull_11 : decode cX9_isFull 11 = .ok (.iconst 1, 1) := by decide +kernel
theorem dX9_isFull_12 : decode cX9_isFull 12 = .ok (.goto 4, 3) := by decide +kernel
theorem dX9_isFull_15 : decode cX9_isFull 15 = .ok (.iconst 0, 1) := by decide +kernel
theorem dX9_isFull_16 : decode cX9_isFull 16 = .ok (.ireturn, 1) := by decide +kernel
theorem dX9_cell_0 : decode cX9_cell 0 = .ok (.aload_n 0, 1) := by decide +kernel
theorem dX9_cell_1 : decode cX9_cell 1 = .ok (.getfield 16, 3) := by decide +kernel
theorem dX9_cell_4 : decode cX9_cell 4 = .ok (.iload_n 1, 1) := by decide +kernel
theorem dX9_cell_5 : decode cX9_cell 5 = .ok (.aload_n 0, 1) := by decide +kernel
theorem dX9_cell_6 : decode cX9_cell 6 = .ok (.getfield 7, 3) := by decide +kernel
theorem dX9_cell_9 : decode cX9_cell 9 = .ok (.imul, 1) := by decide +kernel
theorem dX9_cell_10 : decode cX9_cell 10 = .ok (.iload_n 2, 1) := by decide +kernel
theorem dX9_cell_11 : decode cX9_cell 11 = .ok (.iadd, 1) := by decide +kernel
theorem dX9_cell_12 : decode cX9_cell 12 = .ok (.iaload, 1) := by decide +kernel
theorem dX9_cell_13 : decode cX9_cell 13 = .ok (.ireturn, 1) := by decide +kernel
theorem dX9_put_0 : decode cX9_put 0 = .ok (.aload_n 0, 1) := by decide +kernel
theorem dX9_put_1 : decode cX9_put 1 = .ok (.getfield 20, 3) := by decide +kernel
theorem dX9_put_4 : decode cX9_put 4 = .ok (.aload_n 0, 1) := by decide +kernel
theorem dX9_put_5 : decode cX9_put 5 = .ok (.getfield 13, 3) := by decide +kernel
theorem dX9_put_8 : decode cX9_put 8 = .ok (.if_icmp .ge 28, 3) := by decide +kernel
theorem dX9_put_11 : decode cX9_put 11 = .ok (.iload_n 1, 1) := by decide +kernel
theorem dX9_put_12 : decode cX9_put 12 = .ok (.aload_n 0, 1) := by decide +kernel
theorem dX9_put_13 : decode cX9_put 13 = .ok (.getfield 7, 3) := by decide +kernel
theorem dX9_put_16 : decode cX9_put 16 = .ok (.if_icmp .ge 20, 3) := by decide +kernel
theorem dX9_put_19 : decode cX9_put 19 = .ok (.aload_n 0, 1) := by decide +kernel
theorem dX9_put_20 : decode cX9_put 20 = .ok (.getfield 16, 3) := by decide +kernel
theorem dX9_put_23 : decode cX9_put 23 = .ok (.aload_n 0, 1) := by decide +kernel
theorem dX9_put_24 : decode cX9_put 24 = .ok (.getfield 20, 3) := by decide +kernel
theorem dX9_put_27 : decode cX9_put 27 = .ok (.aload_n 0, 1) := by decide +kernel
theorem dX9_put_28 : decode cX9_put 28 = .ok (.getfield 7, 3) := by decide +kernel
theorem dX9_put_31 : decode cX9_put 31 = .ok (.imul, 1) := by decide +kernel
theorem dX9_put_32 : decode cX9_put 32 = .ok (.iload_n 1, 1) := by decide +kernel
theorem dX9_put_33 : decode cX9_put 33 = .ok (.iadd, 1) := by decide +kernel
theorem dX9_put_34 : decode cX9_put 34 = .ok (.iload_n 2, 1) := by decide +kernel
theorem dX9_put_35 : decode cX9_put 35 = .ok (.iastore, 1) := by decide +kernel
theorem dX9_put_36 : decode cX9_put 36 = .ok (.return_, 1) := by decide +kernel
theorem dX9_keep_0 : decode cX9_keep 0 = .ok (.aload_n 0, 1) := by decide +kernel
theorem dX9_keep_1 : decode cX9_keep 1 = .ok (.dup, 1) := by decide +kernel
theorem dX9_keep_2 : decode cX9_keep 2 = .ok (.getfield 20, 3) := by decide +kernel
theorem dX9_keep_5 : decode cX9_keep 5 = .ok (.iconst 1, 1) := by decide +kernel
theorem dX9_keep_6 : decode cX9_keep 6 = .ok (.iadd, 1) := by decide +kernel
theorem dX9_keep_7 : decode cX9_keep 7 = .ok (.putfield 20, 3) := by decide +kernel
theorem dX9_keep_10 : decode cX9_keep 10 = .ok (.aload_n 0, 1) := by decide +kernel
theorem dX9_keep_11 : decode cX9_keep 11 = .ok (.getfield 20, 3) := by decide +kernel
theorem dX9_keep_14 : decode cX9_keep 14 = .ok (.ireturn, 1) := by decide +kernel
theorem dX9_take_0 : decode cX9_take 0 = .ok (.aload_n 1, 1) := by decide +kernel
theorem dX9_take_1 : decode cX9_take 1 = .ok (.getfield 16, 3) := by decide +kernel
theorem dX9_take_4 : decode cX9_take 4 = .ok (.iconst 0, 1) := by decide +kernel
theorem dX9_take_5 : decode cX9_take 5 = .ok (.aload_n 0, 1) := by decide +kernel
theorem dX9_take_6 : decode cX9_take 6 = .ok (.getfield 16, 3) := by decide +kernel
theorem dX9_take_9 : decode cX9_take 9 = .ok (.iconst 0, 1) := by decide +kernel
theorem dX9_take_10 : decode cX9_take 10 = .ok (.aload_n 0, 1) := by decide +kernel
theorem dX9_take_11 : decode cX9_take 11 = .ok (.getfield 16, 3) := by decide +kernel
theorem dX9_take_14 : decode cX9_take 14 = .ok (.arraylength, 1) := by decide +kernel
theorem dX9_take_15 : decode cX9_take 15 = .ok (.invokestatic 23, 3) := by decide +kernel
theorem dX9_take_18 : decode cX9_take 18 = .ok (.aload_n 0, 1) := by decide +kernel
theorem dX9_take_19 : decode cX9_take 19 = .ok (.aload_n 1, 1) := by decide +kernel
theorem dX9_take_20 : decode cX9_take 20 = .ok (.getfield 20, 3) := by decide +kernel
theorem dX9_take_23 : decode cX9_take 23 = .ok (.putfield 20, 3) := by decide +kernel
theorem dX9_take_26 : decode cX9_take 26 = .ok (.return_, 1) := by decide +kernel
theorem dX9_fold_0 : decode cX9_fold 0 = .ok (.lload_n 1, 1) := by decide +kernel
theorem dX9_fold_1 : decode cX9_fold 1 = .ok (.lstore_n 3, 1) := by decide +kernel
theorem dX9_fold_2 : decode cX9_fold 2 = .ok (.iconst 0, 1) := by decide +kernel
theorem dX9_fold_3 : decode cX9_fold 3 = .ok (.istore 5, 2) := by decide +kernel
theorem dX9_fold_5 : decode cX9_fold 5 = .ok (.iload 5, 2) := by decide +kernel
theorem dX9_fold_7 : decode cX9_fold 7 = .ok (.aload_n 0, 1) := by decide +kernel
theorem dX9_fold_8 : decode cX9_fold 8 = .ok (.getfield 20, 3) := by decide +kernel
theorem dX9_fold_11 : decode cX9_fold 11 = .ok (.aload_n 0, 1) := by decide +kernel
theorem dX9_fold_12 : decode cX9_fold 12 = .ok (.getfield 7, 3) := by decide +kernel
theorem dX9_fold_15 : decode cX9_fold 15 = .ok (.imul, 1) := by decide +kernel
theorem dX9_fold_16 : decode cX9_fold 16 = .ok (.if_icmp .ge 24, 3) := by decide +kernel
theorem dX9_fold_19 : decode cX9_fold 19 = .ok (.ldc2_w 29, 3) := by decide +kernel
theorem dX9_fold_22 : decode cX9_fold 22 = .ok (.lload_n 3, 1) := by decide +kernel
theorem dX9_fold_23 : decode cX9_fold 23 = .ok (.lmul, 1) := by decide +kernel
theorem dX9_fold_24 : decode cX9_fold 24 = .ok (.aload_n 0, 1) := by decide +kernel
theorem dX9_fold_25 : decode cX9_fold 25 = .ok (.getfield 16, 3) := by decide +kernel
theorem dX9_fold_28 : decode cX9_fold 28 = .ok (.iload 5, 2) := by decide +kernel
theorem dX9_fold_30 : decode cX9_fold 30 = .ok (.iaload, 1) := by decide +kernel
theorem dX9_fold_31 : decode cX9_fold 31 = .ok (.i2l, 1) := by decide +kernel
theorem dX9_fold_32 : decode cX9_fold 32 = .ok (.ladd, 1) := by decide +kernel
theorem dX9_fold_33 : decode cX9_fold 33 = .ok (.lstore_n 3, 1) := by decide +kernel
theorem dX9_fold_34 : decode cX9_fold 34 = .ok (.iinc 5 1, 3) := by decide +kernel
theorem dX9_fold_37 : decode cX9_fold 37 = .ok (.goto (-32), 3) := by decide +kernel
theorem dX9_fold_40 : decode cX9_fold 40 = .ok (.lload_n 3, 1) := by decide +kernel
theorem dX9_fold_41 : decode cX9_fold 41 = .ok (.lreturn, 1) := by decide +kernel
theorem dX10_init_0 : decode cX10_init 0 = .ok (.aload_n 0, 1) := by decide +kernel
theorem dX10_init_1 : decode cX10_init 1 = .ok (.invokespecial 3, 3) := by decide +kernel
theorem dX10_init_4 : decode cX10_init 4 = .ok (.aload_n 0, 1) := by decide +kernel
theorem dX10_init_5 : decode cX10_init 5 = .ok (.bipush 8, 2) := by decide +kernel
theorem dX10_init_7 : decode cX10_init 7 = .ok (.anewarray 9, 3) := by decide +kernel
theorem dX10_init_10 : decode cX10_init 10 = .ok (.putfield 11, 3) := by decide +kernel
theorem dX10_init_13 : decode cX10_init 13 = .ok (.aload_n 0, 1) := by decide +kernel
theorem dX10_init_14 : decode cX10_init 14 = .ok (.bipush 8, 2) := by decide +kernel
theorem dX10_init_16 : decode cX10_init 16 = .ok (.newarray .int, 2) := by decide +kernel
theorem dX10_init_18 : decode cX10_init 18 = .ok (.putfield 17, 3) := by decide +kernel
theorem dX10_init_21 : decode cX10_init 21 = .ok (.iconst 0, 1) := by decide +kernel
theorem dX10_init_22 : decode cX10_init 22 = .ok (.istore_n 1, 1) := by decide +kernel
theorem dX10_init_23 : decode cX10_init 23 = .ok (.iload_n 1, 1) := by decide +kernel
theorem dX10_init_24 : decode cX10_init 24 = .ok (.bipush 8, 2) := by decide +kernel
theorem dX10_init_26 : decode cX10_init 26 = .ok (.if_icmp .ge 22, 3) := by decide +kernel
theorem dX10_init_29 : decode cX10_init 29 = .ok (.aload_n 0, 1) := by decide +kernel
theorem dX10_init_30 : decode cX10_init 30 = .ok (.getfield 11, 3) := by decide +kernel
theorem dX10_init_33 : decode cX10_init 33 = .ok (.iload_n 1, 1) := by decide +kernel
theorem dX10_init_34 : decode cX10_init 34 = .ok (.new 9, 3) := by decide +kernel
theorem dX10_init_37 : decode cX10_init 37 = .ok (.dup, 1) := by decide +kernel
theorem dX10_init_38 : decode cX10_init 38 = .ok (.invokespecial 21, 3) := by decide +kernel
theorem dX10_init_41 : decode cX10_init 41 = .ok (.aastore, 1) := by decide +kernel
theorem dX10_init_42 : decode cX10_init 42 = .ok (.iinc 1 1, 3) := by decide +kernel
theorem dX10_init_45 : decode cX10_init 45 = .ok (.goto (-22), 3) := by decide +kernel
theorem dX10_init_48 : decode cX10_init 48 = .ok (.return_, 1) := by decide +kernel
theorem dX10_search_0 : decode cX10_search 0 = .ok (.aload_n 0, 1) := by decide +kernel
theorem dX10_search_1 : decode cX10_search 1 = .ok (.iconst 0, 1) := by decide +kernel
theorem dX10_search_2 : decode cX10_search 2 = .ok (.putfield 22, 3) := by decide +kernel
theorem dX10_search_5 : decode cX10_search 5 = .ok (.aload_n 0, 1) := by decide +kernel
theorem dX10_search_6 : decode cX10_search 6 = .ok (.iconst (-1), 1) := by decide +kernel
theorem dX10_search_7 : decode cX10_search 7 = .ok (.putfield 26, 3) := by decide +kernel
theorem dX10_search_10 : decode cX10_search 10 = .ok (.aload_n 2, 1) := by decide +kernel
theorem dX10_search_11 : decode cX10_search 11 = .ok (.getfield 29, 3) := by decide +kernel
theorem dX10_search_14 : decode cX10_search 14 = .ok (.bipush 7, 2) := by decide +kernel
theorem dX10_search_16 : decode cX10_search 16 = .ok (.if_icmp .ne 4, 3) := by decide +kernel
theorem dX10_search_19 : decode cX10_search 19 = .ok (.return_, 1) := by decide +kernel
theorem dX10_search_20 : decode cX10_search 20 = .ok (.aload_n 0, 1) := by decide +kernel
theorem dX10_search_21 : decode cX10_search 21 = .ok (.getfield 11, 3) := by decide +kernel
theorem dX10_search_24 : decode cX10_search 24 = .ok (.iconst 0, 1) := by decide +kernel
theorem dX10_search_25 : decode cX10_search 25 = .ok (.aaload, 1) := by decide +kernel
theorem dX10_search_26 : decode cX10_search 26 = .ok (.aload_n 2, 1) := by decide +kernel
theorem dX10_search_27 : decode cX10_search 27 = .ok (.invokevirtual 32, 3) := by decide +kernel
theorem dX10_search_30 : decode cX10_search 30 = .ok (.aload_n 0, 1) := by decide +kernel
theorem dX10_search_31 : decode cX10_search 31 = .ok (.aload_n 1, 1) := by decide +kernel
theorem dX10_search_32 : decode cX10_search 32 = .ok (.aload_n 3, 1) := by decide +kernel
theorem dX10_search_33 : decode cX10_search 33 = .ok (.iconst 0, 1) := by decide +kernel
theorem dX10_search_34 : decode cX10_search 34 = .ok (.iconst 1, 1) := by decide +kernel
theorem dX10_search_35 : decode cX10_search 35 = .ok (.aload_n 2, 1) := by decide +kernel
theorem dX10_search_36 : decode cX10_search 36 = .ok (.getfield 29, 3) := by decide +kernel
theorem dX10_search_39 : decode cX10_search 39 = .ok (.ishl, 1) := by decide +kernel
theorem dX10_search_40 : decode cX10_search 40 = .ok (.invokevirtual 36, 3) := by decide +kernel
theorem dX10_search_43 : decode cX10_search 43 = .ok (.return_, 1) := by decide +kernel
theorem dX10_explore_0 : decode cX10_explore 0 = .ok (.aload_n 0, 1) := by decide +kernel
theorem dX10_explore_1 : decode cX10_explore 1 = .ok (.getfield 11, 3) := by decide +kernel
theorem dX10_explore_4 : decode cX10_explore 4 = .ok (.iload_n 3, 1) := by decide +kernel
theorem dX10_explore_5 : decode cX10_explore 5 = .ok (.aaload, 1) := by decide +kernel
theorem dX10_explore_6 : decode cX10_explore 6 = .ok (.astore 5, 2) := by decide +kernel
theorem dX10_explore_8 : decode cX10_explore 8 = .ok (.aload 5, 2) := by decide +kernel
theorem dX10_explore_10 : decode cX10_explore 10 = .ok (.getfield 29, 3) := by decide +kernel
theorem dX10_explore_13 : decode cX10_explore 13 = .ok (.bipush 7, 2) := by decide +kernel
theorem dX10_explore_15 : decode cX10_explore 15 = .ok (.if_icmp .ne 11, 3) := by decide +kernel
theorem dX10_explore_18 : decode cX10_explore 18 = .ok (.aload_n 0, 1) := by decide +kernel
theorem dX10_explore_19 : decode cX10_explore 19 = .ok (.aload 5, 2) := by decide +kernel
theorem dX10_explore_21 : decode cX10_explore 21 = .ok (.iload_n 3, 1) := by decide +kernel
theorem dX10_explore_22 : decode cX10_explore 22 = .ok (.invokevirtual 40, 3) := by decide +kernel
theorem dX10_explore_25 : decode cX10_explore 25 = .ok (.return_, 1) := by decide +kernel
theorem dX10_explore_26 : decode cX10_explore 26 = .ok (.iload_n 3, 1) := by decide +kernel
theorem dX10_explore_27 : decode cX10_explore 27 = .ok (.iconst 1, 1) := by decide +kernel
theorem dX10_explore_28 : decode cX10_explore 28 = .ok (.iadd, 1) := by decide +kernel
theorem dX10_explore_29 : decode cX10_explore 29 = .ok (.bipush 8, 2) := by decide +kernel
theorem dX10_explore_31 : decode cX10_explore 31 = .ok (.if_icmp .lt 4, 3) := by decide +kernel
theorem dX10_explore_34 : decode cX10_explore 34 = .ok (.return_, 1) := by decide +kernel
theorem dX10_explore_35 : decode cX10_explore 35 = .ok (.aload_n 0, 1) := by decide +kernel
theorem dX10_explore_36 : decode cX10_explore 36 = .ok (.getfield 11, 3) := by decide +kernel
theorem dX10_explore_39 : decode cX10_explore 39 = .ok (.iload_n 3, 1) := by decide +kernel
theorem dX10_explore_40 : decode cX10_explore 40 = .ok (.iconst 1, 1) := by decide +kernel
theorem dX10_explore_41 : decode cX10_explore 41 = .ok (.iadd, 1) := by decide +kernel
theorem dX10_explore_42 : decode cX10_explore 42 = .ok (.aaload, 1) := by decide +kernel
theorem dX10_explore_43 : decode cX10_explore 43 = .ok (.astore 6, 2) := by decide +kernel
theorem dX10_explore_45 : decode cX10_explore 45 = .ok (.iconst 0, 1) := by decide +kernel
theorem dX10_explore_46 : decode cX10_explore 46 = .ok (.istore 7, 2) := by decide +kernel
theorem dX10_explore_48 : decode cX10_explore 48 = .ok (.iload 7, 2) := by decide +kernel
theorem dX10_explore_50 : decode cX10_explore 50 = .ok (.bipush 8, 2) := by decide +kernel
theorem dX10_explore_52 : decode cX10_explore 52 = .ok (.if_icmp .ge 62, 3) := by decide +kernel
theorem dX10_explore_55 : decode cX10_explore 55 = .ok (.iload 4, 2) := by decide +kernel
theorem dX10_explore_57 : decode cX10_explore 57 = .ok (.iconst 1, 1) := by decide +kernel
theorem dX10_explore_58 : decode cX10_explore 58 = .ok (.iload 7, 2) := by decide +kernel
theorem dX10_explore_60 : decode cX10_explore 60 = .ok (.ishl, 1) := by decide +kernel
theorem dX10_explore_61 : decode cX10_explore 61 = .ok (.iand, 1) := by decide +kernel
theorem dX10_explore_62 : decode cX10_explore 62 = .ok (.ifCond .ne 46, 3) := by decide +kernel
theorem dX10_explore_65 : decode cX10_explore 65 = .ok (.aload_n 1, 1) := by decide +kernel
theorem dX10_explore_66 : decode cX10_explore 66 = .ok (.aload 5, 2) := by decide +kernel
theorem dX10_explore_68 : decode cX10_explore 68 = .ok (.iload 7, 2) := by decide +kernel
theorem dX10_explore_70 : decode cX10_explore 70 = .ok (.invokevirtual 44, 3) := by decide +kernel
theorem dX10_explore_73 : decode cX10_explore 73 = .ok (.ifCond .eq 35, 3) := by decide +kernel
theorem dX10_explore_76 : decode cX10_explore 76 = .ok (.aload 6, 2) := by decide +kernel
theorem dX10_explore_78 : decode cX10_explore 78 = .ok (.aload 5, 2) := by decide +kernel
theorem dX10_explore_80 : decode cX10_explore 80 = .ok (.invokevirtual 32, 3) := by decide +kernel
theorem dX10_explore_83 : decode cX10_explore 83 = .ok (.aload_n 1, 1) := by decide +kernel
theorem dX10_explore_84 : decode cX10_explore 84 = .ok (.aload 6, 2) := by decide +kernel
theorem dX10_explore_86 : decode cX10_explore 86 = .ok (.aload_n 2, 1) := by decide +kernel
theorem dX10_explore_87 : decode cX10_explore 87 = .ok (.iload 7, 2) := by decide +kernel
theorem dX10_explore_89 : decode cX10_explore 89 = .ok (.invokevirtual 50, 3) := by decide +kernel
theorem dX10_explore_92 : decode cX10_explore 92 = .ok (.aload_n 0, 1) := by decide +kernel
theorem dX10_explore_93 : decode cX10_explore 93 = .ok (.aload_n 1, 1) := by decide +kernel
theorem dX10_explore_94 : decode cX10_explore 94 = .ok (.aload_n 2, 1) := by decide +kernel
theorem dX10_explore_95 : decode cX10_explore 95 = .ok (.iload_n 3, 1) := by decide +kernel
theorem dX10_explore_96 : decode cX10_explore 96 = .ok (.iconst 1, 1) := by decide +kernel
theorem dX10_explore_97 : decode cX10_explore 97 = .ok (.iadd, 1) := by decide +kernel
theorem dX10_explore_98 : decode cX10_explore 98 = .ok (.iload 4, 2) := by decide +kernel
theorem dX10_explore_100 : decode cX10_explore 100 = .ok (.iconst 1, 1) := by decide +kernel
theorem dX10_explore_101 : decode cX10_explore 101 = .ok (.iload 7, 2) := by decide +kernel
theorem dX10_explore_103 : decode cX10_explore 103 = .ok (.ishl, 1) := by decide +kernel
theorem dX10_explore_104 : decode cX10_explore 104 = .ok (.ior, 1) := by decide +kernel
theorem dX10_explore_105 : decode cX10_explore 105 = .ok (.invokevirtual 36, 3) := by decide +kernel
theorem dX10_explore_108 : decode cX10_explore 108 = .ok (.iinc 7 1, 3) := by decide +kernel
theorem dX10_explore_111 : decode cX10_explore 111 = .ok (.goto (-63), 3) := by decide +kernel
theorem dX10_explore_114 : decode cX10_explore 114 = .ok (.return_, 1) := by decide +kernel
theorem dX10_arrive_0 : decode cX10_arrive 0 = .ok (.aload_n 1, 1) := by decide +kernel
theorem dX10_arrive_1 : decode cX10_arrive 1 = .ok (.invokevirtual 54, 3) := by decide +kernel
theorem dX10_arrive_4 : decode cX10_arrive 4 = .ok (.ifCond .eq 30, 3) := by decide +kernel
theorem dX10_arrive_7 : decode cX10_arrive 7 = .ok (.aload_n 0, 1) := by decide +kernel
theorem dX10_arrive_8 : decode cX10_arrive 8 = .ok (.getfield 26, 3) := by decide +kernel
theorem dX10_arrive_11 : decode cX10_arrive 11 = .ok (.iconst (-1), 1) := by decide +kernel
theorem dX10_arrive_12 : decode cX10_arrive 12 = .ok (.if_icmp .eq 14, 3) := by decide +kernel
theorem dX10_arrive_15 : decode cX10_arrive 15 = .ok (.aload_n 1, 1) := by decide +kernel
theorem dX10_arrive_16 : decode cX10_arrive 16 = .ok (.getfield 58, 3) := by decide +kernel
theorem dX10_arrive_19 : decode cX10_arrive 19 = .ok (.aload_n 0, 1) := by decide +kernel
theorem dX10_arrive_20 : decode cX10_arrive 20 = .ok (.getfield 26, 3) := by decide +kernel
theorem dX10_arrive_23 : decode cX10_arrive 23 = .ok (.if_icmp .ge 11, 3) := by decide +kernel
theorem dX10_arrive_26 : decode cX10_arrive 26 = .ok (.aload_n 0, 1) := by decide +kernel
theorem dX10_arrive_27 : decode cX10_arrive 27 = .ok (.aload_n 1, 1) := by decide +kernel
theorem dX10_arrive_28 : decode cX10_arrive 28 = .ok (.getfield 58, 3) := by decide +kernel
theorem dX10_arrive_31 : decode cX10_arrive 31 = .ok (.putfield 26, 3) := by decide +kernel
theorem dX10_arrive_34 : decode cX10_arrive 34 = .ok (.aload_n 0, 1) := by decide +kernel
theorem dX10_arrive_35 : decode cX10_arrive 35 = .ok (.getfield 22, 3) := by decide +kernel
theorem dX10_arrive_38 : decode cX10_arrive 38 = .ok (.ifCond .eq 12, 3) := by decide +kernel
theorem dX10_arrive_41 : decode cX10_arrive 41 = .ok (.aload_n 0, 1) := by decide +kernel
theorem dX10_arrive_42 : decode cX10_arrive 42 = .ok (.aload_n 1, 1) := by decide +kernel
theorem dX10_arrive_43 : decode cX10_arrive 43 = .ok (.invokevirtual 61, 3) := by decide +kernel
theorem dX10_arrive_46 : decode cX10_arrive 46 = .ok (.ifCond .ne 4, 3) := by decide +kernel
theorem dX10_arrive_49 : decode cX10_arrive 49 = .ok (.return_, 1) := by decide +kernel
theorem dX10_arrive_50 : decode cX10_arrive 50 = .ok (.aload_n 0, 1) := by decide +kernel
theorem dX10_arrive_51 : decode cX10_arrive 51 = .ok (.iload_n 2, 1) := by decide +kernel
theorem dX10_arrive_52 : decode cX10_arrive 52 = .ok (.putfield 22, 3) := by decide +kernel
theorem dX10_arrive_55 : decode cX10_arrive 55 = .ok (.aload_n 0, 1) := by decide +kernel
theorem dX10_arrive_56 : decode cX10_arrive 56 = .ok (.aload_n 1, 1) := by decide +kernel
theorem dX10_arrive_57 : decode cX10_arrive 57 = .ok (.getfield 65, 3) := by decide +kernel
theorem dX10_arrive_60 : decode cX10_arrive 60 = .ok (.putfield 68, 3) := by decide +kernel
theorem dX10_arrive_63 : decode cX10_arrive 63 = .ok (.aload_n 0, 1) := by decide +kernel
theorem dX10_arrive_64 : decode cX10_arrive 64 = .ok (.aload_n 1, 1) := by decide +kernel
theorem dX10_arrive_65 : decode cX10_arrive 65 = .ok (.getfield 58, 3) := by decide +kernel
theorem dX10_arrive_68 : decode cX10_arrive 68 = .ok (.putfield 69, 3) := by decide +kernel
theorem dX10_arrive_71 : decode cX10_arrive 71 = .ok (.aload_n 0, 1) := by decide +kernel
theorem dX10_arrive_72 : decode cX10_arrive 72 = .ok (.aload_n 1, 1) := by decide +kernel
theorem dX10_arrive_73 : decode cX10_arrive 73 = .ok (.getfield 70, 3) := by decide +kernel
theorem dX10_arrive_76 : decode cX10_arrive 76 = .ok (.putfield 73, 3) := by decide +kernel
theorem dX10_arrive_79 : decode cX10_arrive 79 = .ok (.iconst 0, 1) := by decide +kernel
theorem dX10_arrive_80 : decode cX10_arrive 80 = .ok (.istore_n 3, 1) := by decide +kernel
theorem dX10_arrive_81 : decode cX10_arrive 81 = .ok (.iload_n 3, 1) := by decide +kernel
theorem dX10_arrive_82 : decode cX10_arrive 82 = .ok (.iload_n 2, 1) := by decide +kernel
theorem dX10_arrive_83 : decode cX10_arrive 83 = .ok (.if_icmp .ge 26, 3) := by decide +kernel
theorem dX10_arrive_86 : decode cX10_arrive 86 = .ok (.aload_n 0, 1) := by decide +kernel
theorem dX10_arrive_87 : decode cX10_arrive 87 = .ok (.getfield 17, 3) := by decide +kernel
theorem dX10_arrive_90 : decode cX10_arrive 90 = .ok (.iload_n 3, 1) := by decide +kernel
theorem dX10_arrive_91 : decode cX10_arrive 91 = .ok (.aload_n 0, 1) := by decide +kernel
theorem dX10_arrive_92 : decode cX10_arrive 92 = .ok (.getfield 11, 3) := by decide +kernel
theorem dX10_arrive_95 : decode cX10_arrive 95 = .ok (.iload_n 3, 1) := by decide +kernel
theorem dX10_arrive_96 : decode cX10_arrive 96 = .ok (.iconst 1, 1) := by decide +kernel
theorem dX10_arrive_97 : decode cX10_arrive 97 = .ok (.iadd, 1) := by decide +kernel
theorem dX10_arrive_98 : decode cX10_arrive 98 = .ok (.aaload, 1) := by decide +kernel
theorem dX10_arrive_99 : decode cX10_arrive 99 = .ok (.getfield 29, 3) := by decide +kernel
theorem dX10_arrive_102 : decode cX10_arrive 102 = .ok (.iastore, 1) := by decide +kernel
theorem dX10_arrive_103 : decode cX10_arrive 103 = .ok (.iinc 3 1, 3) := by decide +kernel
theorem dX10_arrive_106 : decode cX10_arrive 106 = .ok (.goto (-25), 3) := by decide +kernel
theorem dX10_arrive_109 : decode cX10_arrive 109 = .ok (.return_, 1) := by decide +kernel
theorem dX10_isBetter_0 : decode cX10_isBetter 0 = .ok (.aload_n 1, 1) := by decide +kernel
theorem dX10_isBetter_1 : decode cX10_isBetter 1 = .ok (.getfield 65, 3) := by decide +kernel
theorem dX10_isBetter_4 : decode cX10_isBetter 4 = .ok (.aload_n 0, 1) := by decide +kernel
theorem dX10_isBetter_5 : decode cX10_isBetter 5 = .ok (.getfield 68, 3) := by decide +kernel
theorem dX10_isBetter_8 : decode cX10_isBetter 8 = .ok (.if_icmp .eq 20, 3) := by decide +kernel
theorem dX10_isBetter_11 : decode cX10_isBetter 11 = .ok (.aload_n 1, 1) := by decide +kernel
theorem dX10_isBetter_12 : decode cX10_isBetter 12 = .ok (.getfield 65, 3) := by decide +kernel
theorem dX10_isBetter_15 : decode cX10_isBetter 15 = .ok (.aload_n 0, 1) := by decide +kernel
theorem dX10_isBetter_16 : decode cX10_isBetter 16 = .ok (.getfield 68, 3) := by decide +kernel
theorem dX10_isBetter_19 : decode cX10_isBetter 19 = .ok (.if_icmp .le 7, 3) := by decide +kernel
theorem dX10_isBetter_22 : decode cX10_isBetter 22 = .ok (.iconst 1, 1) := by decide +kernel
theorem dX10_isBetter_23 : decode cX10_isBetter 23 = .ok (.goto 4, 3) := by decide +kernel
theorem dX10_isBetter_26 : decode cX10_isBetter 26 = .ok (.iconst 0, 1) := by decide +kernel
theorem dX10_isBetter_27 : decode cX10_isBetter 27 = .ok (.ireturn, 1) := by decide +kernel
theorem dX10_isBetter_28 : decode cX10_isBetter 28 = .ok (.aload_n 1, 1) := by decide +kernel
theorem dX10_isBetter_29 : decode cX10_isBetter 29 = .ok (.getfield 58, 3) := by decide +kernel
theorem dX10_isBetter_32 : decode cX10_isBetter 32 = .ok (.aload_n 0, 1) := by decide +kernel
theorem dX10_isBetter_33 : decode cX10_isBetter 33 = .ok (.getfield 69, 3) := by decide +kernel
theorem dX10_isBetter_36 : decode cX10_isBetter 36 = .ok (.if_icmp .eq 20, 3) := by decide +kernel
theorem dX10_isBetter_39 : decode cX10_isBetter 39 = .ok (.aload_n 1, 1) := by decide +kernel
theorem dX10_isBetter_40 : decode cX10_isBetter 40 = .ok (.getfield 58, 3) := by decide +kernel
theorem dX10_isBetter_43 : decode cX10_isBetter 43 = .ok (.aload_n 0, 1) := by decide +kernel
theorem dX10_isBetter_44 : decode cX10_isBetter 44 = .ok (.getfield 69, 3) := by decide +kernel
theorem dX10_isBetter_47 : decode cX10_isBetter 47 = .ok (.if_icmp .ge 7, 3) := by decide +kernel
theorem dX10_isBetter_50 : decode cX10_isBetter 50 = .ok (.iconst 1, 1) := by decide +kernel
theorem dX10_isBetter_51 : decode cX10_isBetter 51 = .ok (.goto 4, 3) := by decide +kernel
theorem dX10_isBetter_54 : decode cX10_isBetter 54 = .ok (.iconst 0, 1) := by decide +kernel
theorem dX10_isBetter_55 : decode cX10_isBetter 55 = .ok (.ireturn, 1) := by decide +kernel
theorem dX10_isBetter_56 : decode cX10_isBetter 56 = .ok (.aload_n 1, 1) := by decide +kernel
theorem dX10_isBetter_57 : decode cX10_isBetter 57 = .ok (.getfield 70, 3) := by decide +kernel
theorem dX10_isBetter_60 : decode cX10_isBetter 60 = .ok (.aload_n 0, 1) := by decide +kernel
theorem dX10_isBetter_61 : decode cX10_isBetter 61 = .ok (.getfield 73, 3) := by decide +kernel
theorem dX10_isBetter_64 : decode cX10_isBetter 64 = .ok (.if_icmp .ge 7, 3) := by decide +kernel
theorem dX10_isBetter_67 : decode cX10_isBetter 67 = .ok (.iconst 1, 1) := by decide +kernel
theorem dX10_isBetter_68 : decode cX10_isBetter 68 = .ok (.goto 4, 3) := by decide +kernel
theorem dX10_isBetter_71 : decode cX10_isBetter 71 = .ok (.iconst 0, 1) := by decide +kernel
theorem dX10_isBetter_72 : decode cX10_isBetter 72 = .ok (.ireturn, 1) := by decide +kernel
theorem dX11_init_0 : decode cX11_init 0 = .ok (.aload_n 0, 1) := by decide +kernel
theorem dX11_init_1 : decode cX11_init 1 = .ok (.invokespecial 1, 3) := by decide +kernel
theorem dX11_init_4 : decode cX11_init 4 = .ok (.aload_n 0, 1) := by decide +kernel
theorem dX11_init_5 : decode cX11_init 5 = .ok (.new 7, 3) := by decide +kernel
theorem dX11_init_8 : decode cX11_init 8 = .ok (.dup, 1) := by decide +kernel
theorem dX11_init_9 : decode cX11_init 9 = .ok (.invokespecial 9, 3) := by decide +kernel
theorem dX11_init_12 : decode cX11_init 12 = .ok (.putfield 10, 3) := by decide +kernel
theorem dX11_init_15 : decode cX11_init 15 = .ok (.aload_n 0, 1) := by decide +kernel
theorem dX11_init_16 : decode cX11_init 16 = .ok (.new 7, 3) := by decide +kernel
theorem dX11_init_19 : decode cX11_init 19 = .ok (.dup, 1) := by decide +kernel
theorem dX11_init_20 : decode cX11_init 20 = .ok (.invokespecial 9, 3) := by decide +kernel
theorem dX11_init_23 : decode cX11_init 23 = .ok (.putfield 16, 3) := by decide +kernel
theorem dX11_init_26 : decode cX11_init 26 = .ok (.aload_n 0, 1) := by decide +kernel
theorem dX11_init_27 : decode cX11_init 27 = .ok (.iconst 2, 1) := by decide +kernel
theorem dX11_init_28 : decode cX11_init 28 = .ok (.anewarray 7, 3) := by decide +kernel
theorem dX11_init_31 : decode cX11_init 31 = .ok (.putfield 19, 3) := by decide +kernel
theorem dX11_init_34 : decode cX11_init 34 = .ok (.aload_n 0, 1) := by decide +kernel
theorem dX11_init_35 : decode cX11_init 35 = .ok (.iconst 2, 1) := by decide +kernel
theorem dX11_init_36 : decode cX11_init 36 = .ok (.newarray .boolean, 2) := by decide +kernel
theorem dX11_init_38 : decode cX11_init 38 = .ok (.putfield 23, 3) := by decide +kernel
theorem dX11_init_41 : decode cX11_init 41 = .ok (.aload_n 0, 1) := by decide +kernel
theorem dX11_init_42 : decode cX11_init 42 = .ok (.sipush 150, 3) := by decide +kernel
theorem dX11_init_45 : decode cX11_init 45 = .ok (.newarray .byte, 2) := by decide +kernel
theorem dX11_init_47 : decode cX11_init 47 = .ok (.putfield 27, 3) := by decide +kernel
theorem dX11_init_50 : decode cX11_init 50 = .ok (.aload_n 0, 1) := by decide +kernel
theorem dX11_init_51 : decode cX11_init 51 = .ok (.iconst 3, 1) := by decide +kernel
theorem dX11_init_52 : decode cX11_init 52 = .ok (.newarray .int, 2) := by decide +kernel
theorem dX11_init_54 : decode cX11_init 54 = .ok (.putfield 31, 3) := by decide +kernel
theorem dX11_init_57 : decode cX11_init 57 = .ok (.aload_n 0, 1) := by decide +kernel
theorem dX11_init_58 : decode cX11_init 58 = .ok (.bipush 8, 2) := by decide +kernel
theorem dX11_init_60 : decode cX11_init 60 = .ok (.newarray .int, 2) := by decide +kernel
theorem dX11_init_62 : decode cX11_init 62 = .ok (.putfield 35, 3) := by decide +kernel
theorem dX11_init_65 : decode cX11_init 65 = .ok (.aload_n 0, 1) := by decide +kernel
theorem dX11_init_66 : decode cX11_init 66 = .ok (.new 38, 3) := by decide +kernel
theorem dX11_init_69 : decode cX11_init 69 = .ok (.dup, 1) := by decide +kernel
theorem dX11_init_70 : decode cX11_init 70 = .ok (.invokespecial 40, 3) := by decide +kernel
theorem dX11_init_73 : decode cX11_init 73 = .ok (.putfield 41, 3) := by decide +kernel
theorem dX11_init_76 : decode cX11_init 76 = .ok (.aload_n 0, 1) := by decide +kernel
theorem dX11_init_77 : decode cX11_init 77 = .ok (.new 45, 3) := by decide +kernel
theorem dX11_init_80 : decode cX11_init 80 = .ok (.dup, 1) := by decide +kernel
theorem dX11_init_81 : decode cX11_init 81 = .ok (.invokespecial 47, 3) := by decide +kernel
theorem dX11_init_84 : decode cX11_init 84 = .ok (.putfield 48, 3) := by decide +kernel
theorem dX11_init_87 : decode cX11_init 87 = .ok (.aload_n 0, 1) := by decide +kernel
theorem dX11_init_88 : decode cX11_init 88 = .ok (.new 52, 3) := by decide +kernel
theorem dX11_init_91 : decode cX11_init 91 = .ok (.dup, 1) := by decide +kernel
theorem dX11_init_92 : decode cX11_init 92 = .ok (.invokespecial 54, 3) := by decide +kernel
theorem dX11_init_95 : decode cX11_init 95 = .ok (.putfield 55, 3) := by decide +kernel
theorem dX11_init_98 : decode cX11_init 98 = .ok (.aload_n 0, 1) := by decide +kernel
theorem dX11_init_99 : decode cX11_init 99 = .ok (.new 59, 3) := by decide +kernel
theorem dX11_init_102 : decode cX11_init 102 = .ok (.dup, 1) := by decide +kernel
theorem dX11_init_103 : decode cX11_init 103 = .ok (.invokespecial 61, 3) := by decide +kernel
theorem dX11_init_106 : decode cX11_init 106 = .ok (.putfield 62, 3) := by decide +kernel
theorem dX11_init_109 : decode cX11_init 109 = .ok (.aload_n 0, 1) := by decide +kernel
theorem dX11_init_110 : decode cX11_init 110 = .ok (.new 66, 3) := by decide +kernel
theorem dX11_init_113 : decode cX11_init 113 = .ok (.dup, 1) := by decide +kernel
theorem dX11_init_114 : decode cX11_init 114 = .ok (.invokespecial 68, 3) := by decide +kernel
theorem dX11_init_117 : decode cX11_init 117 = .ok (.putfield 69, 3) := by decide +kernel
theorem dX11_init_120 : decode cX11_init 120 = .ok (.aload_n 0, 1) := by decide +kernel
theorem dX11_init_121 : decode cX11_init 121 = .ok (.new 73, 3) := by decide +kernel
theorem dX11_init_124 : decode cX11_init 124 = .ok (.dup, 1) := by decide +kernel
theorem dX11_init_125 : decode cX11_init 125 = .ok (.invokespecial 75, 3) := by decide +kernel
theorem dX11_init_128 : decode cX11_init 128 = .ok (.putfield 76, 3) := by decide +kernel
theorem dX11_init_131 : decode cX11_init 131 = .ok (.aload_n 0, 1) := by decide +kernel
theorem dX11_init_132 : decode cX11_init 132 = .ok (.new 80, 3) := by decide +kernel
theorem dX11_init_135 : decode cX11_init 135 = .ok (.dup, 1) := by decide +kernel
theorem dX11_init_136 : decode cX11_init 136 = .ok (.invokespecial 82, 3) := by decide +kernel
theorem dX11_init_139 : decode cX11_init 139 = .ok (.putfield 83, 3) := by decide +kernel
theorem dX11_init_142 : decode cX11_init 142 = .ok (.iconst 0, 1) := by decide +kernel
theorem dX11_init_143 : decode cX11_init 143 = .ok (.istore_n 1, 1) := by decide +kernel
theorem dX11_init_144 : decode cX11_init 144 = .ok (.iload_n 1, 1) := by decide +kernel
theorem dX11_init_145 : decode cX11_init 145 = .ok (.iconst 2, 1) := by decide +kernel
theorem dX11_init_146 : decode cX11_init 146 = .ok (.if_icmp .ge 22, 3) := by decide +kernel
theorem dX11_init_149 : decode cX11_init 149 = .ok (.aload_n 0, 1) := by decide +kernel
theorem dX11_init_150 : decode cX11_init 150 = .ok (.getfield 19, 3) := by decide +kernel
theorem dX11_init_153 : decode cX11_init 153 = .ok (.iload_n 1, 1) := by decide +kernel
theorem dX11_init_154 : decode cX11_init 154 = .ok (.new 7, 3) := by decide +kernel
theorem dX11_init_157 : decode cX11_init 157 = .ok (.dup, 1) := by decide +kernel
theorem dX11_init_158 : decode cX11_init 158 = .ok (.invokespecial 9, 3) := by decide +kernel
theorem dX11_init_161 : decode cX11_init 161 = .ok (.aastore, 1) := by decide +kernel
theorem dX11_init_162 : decode cX11_init 162 = .ok (.iinc 1 1, 3) := by decide +kernel
theorem dX11_init_165 : decode cX11_init 165 = .ok (.goto (-21), 3) := by decide +kernel
theorem dX11_init_168 : decode cX11_init 168 = .ok (.aload_n 0, 1) := by decide +kernel
theorem dX11_init_169 : decode cX11_init 169 = .ok (.getfield 10, 3) := by decide +kernel
theorem dX11_init_172 : decode cX11_init 172 = .ok (.iconst 3, 1) := by decide +kernel
theorem dX11_init_173 : decode cX11_init 173 = .ok (.invokevirtual 87, 3) := by decide +kernel
theorem dX11_init_176 : decode cX11_init 176 = .ok (.return_, 1) := by decide +kernel
theorem dX11_water_0 : decode cX11_water 0 = .ok (.iload_n 1, 1) := by decide +kernel
theorem dX11_water_1 : decode cX11_water 1 = .ok (.iconst 0, 1) := by decide +kernel
theorem dX11_water_2 : decode cX11_water 2 = .ok (.bipush 9, 2) := by decide +kernel
theorem dX11_water_4 : decode cX11_water 4 = .ok (.invokestatic 91, 3) := by decide +kernel
theorem dX11_water_7 : decode cX11_water 7 = .ok (.ifCond .ne 8, 3) := by decide +kernel
theorem dX11_water_10 : decode cX11_water 10 = .ok (.aload_n 0, 1) := by decide +kernel
theorem dX11_water_11 : decode cX11_water 11 = .ok (.invokevirtual 95, 3) := by decide +kernel
theorem dX11_water_14 : decode cX11_water 14 = .ok (.ireturn, 1) := by decide +kernel
theorem dX11_water_15 : decode cX11_water 15 = .ok (.aload_n 0, 1) := by decide +kernel
theorem dX11_water_16 : decode cX11_water 16 = .ok (.getfield 10, 3) := by decide +kernel
theorem dX11_water_19 : decode cX11_water 19 = .ok (.getfield 99, 3) := by decide +kernel
theorem dX11_water_22 : decode cX11_water 22 = .ok (.istore_n 2, 1) := by decide +kernel
theorem dX11_water_23 : decode cX11_water 23 = .ok (.aload_n 0, 1) := by decide +kernel
theorem dX11_water_24 : decode cX11_water 24 = .ok (.getfield 10, 3) := by decide +kernel
theorem dX11_water_27 : decode cX11_water 27 = .ok (.iload_n 1, 1) := by decide +kernel
theorem dX11_water_28 : decode cX11_water 28 = .ok (.invokevirtual 87, 3) := by decide +kernel
theorem dX11_water_31 : decode cX11_water 31 = .ok (.iload_n 2, 1) := by decide +kernel
theorem dX11_water_32 : decode cX11_water 32 = .ok (.ireturn, 1) := by decide +kernel
theorem dX11_dark_0 : decode cX11_dark 0 = .ok (.iload_n 1, 1) := by decide +kernel
theorem dX11_dark_1 : decode cX11_dark 1 = .ok (.invokestatic 103, 3) := by decide +kernel
theorem dX11_dark_4 : decode cX11_dark 4 = .ok (.ifCond .eq 13, 3) := by decide +kernel
theorem dX11_dark_7 : decode cX11_dark 7 = .ok (.iload_n 2, 1) := by decide +kernel
theorem dX11_dark_8 : decode cX11_dark 8 = .ok (.iconst 0, 1) := by decide +kernel
theorem dX11_dark_9 : decode cX11_dark 9 = .ok (.bipush 9, 2) := by decide +kernel
theorem dX11_dark_11 : decode cX11_dark 11 = .ok (.invokestatic 91, 3) := by decide +kernel
theorem dX11_dark_14 : decode cX11_dark 14 = .ok (.ifCond .ne 8, 3) := by decide +kernel
theorem dX11_dark_17 : decode cX11_dark 17 = .ok (.aload_n 0, 1) := by decide +kernel
theorem dX11_dark_18 : decode cX11_dark 18 = .ok (.invokevirtual 95, 3) := by decide +kernel
theorem dX11_dark_21 : decode cX11_dark 21 = .ok (.ireturn, 1) := by decide +kernel
theorem dX11_dark_22 : decode cX11_dark 22 = .ok (.aload_n 0, 1) := by decide +kernel
theorem dX11_dark_23 : decode cX11_dark 23 = .ok (.getfield 10, 3) := by decide +kernel
theorem dX11_dark_26 : decode cX11_dark 26 = .ok (.getfield 107, 3) := by decide +kernel
theorem dX11_dark_29 : decode cX11_dark 29 = .ok (.iload_n 1, 1) := by decide +kernel
theorem dX11_dark_30 : decode cX11_dark 30 = .ok (.iaload, 1) := by decide +kernel
theorem dX11_dark_31 : decode cX11_dark 31 = .ok (.istore_n 3, 1) := by decide +kernel
theorem dX11_dark_32 : decode cX11_dark 32 = .ok (.aload_n 0, 1) := by decide +kernel
theorem dX11_dark_33 : decode cX11_dark 33 = .ok (.getfield 10, 3) := by decide +kernel
theorem dX11_dark_36 : decode cX11_dark 36 = .ok (.getfield 107, 3) := by decide +kernel
theorem dX11_dark_39 : decode cX11_dark 39 = .ok (.iload_n 1, 1) := by decide +kernel
theorem dX11_dark_40 : decode cX11_dark 40 = .ok (.iload_n 2, 1) := by decide +kernel
theorem dX11_dark_41 : decode cX11_dark 41 = .ok (.iastore, 1) := by decide +kernel
theorem dX11_dark_42 : decode cX11_dark 42 = .ok (.aload_n 0, 1) := by decide +kernel
theorem dX11_dark_43 : decode cX11_dark 43 = .ok (.getfield 10, 3) := by decide +kernel
theorem dX11_dark_46 : decode cX11_dark 46 = .ok (.getfield 110, 3) := by decide +kernel
theorem dX11_dark_49 : decode cX11_dark 49 = .ok (.iconst 0, 1) := by decide +kernel
theorem dX11_dark_50 : decode cX11_dark 50 = .ok (.putfield 114, 3) := by decide +kernel
theorem dX11_dark_53 : decode cX11_dark 53 = .ok (.iload_n 3, 1) := by decide +kernel
theorem dX11_dark_54 : decode cX11_dark 54 = .ok (.ireturn, 1) := by decide +kernel
theorem dX11_canal_0 : decode cX11_canal 0 = .ok (.iload_n 1, 1) := by decide +kernel
theorem dX11_canal_1 : decode cX11_canal 1 = .ok (.invokestatic 103, 3) := by decide +kernel
theorem dX11_canal_4 : decode cX11_canal 4 = .ok (.ifCond .eq 25, 3) := by decide +kernel
theorem dX11_canal_7 : decode cX11_canal 7 = .ok (.iload_n 2, 1) := by decide +kernel
theorem dX11_canal_8 : decode cX11_canal 8 = .ok (.invokestatic 103, 3) := by decide +kernel
theorem dX11_canal_11 : decode cX11_canal 11 = .ok (.ifCond .eq 18, 3) := by decide +kernel
theorem dX11_canal_14 : decode cX11_canal 14 = .ok (.iload_n 1, 1) := by decide +kernel
theorem dX11_canal_15 : decode cX11_canal 15 = .ok (.iload_n 2, 1) := by decide +kernel
theorem dX11_canal_16 : decode cX11_canal 16 = .ok (.if_icmp .eq 13, 3) := by decide +kernel
theorem dX11_canal_19 : decode cX11_canal 19 = .ok (.iload_n 3, 1) := by decide +kernel
theorem dX11_canal_20 : decode cX11_canal 20 = .ok (.iconst 0, 1) := by decide +kernel
theorem dX11_canal_21 : decode cX11_canal 21 = .ok (.bipush 9, 2) := by decide +kernel
theorem dX11_canal_23 : decode cX11_canal 23 = .ok (.invokestatic 91, 3) := by decide +kernel
theorem dX11_canal_26 : decode cX11_canal 26 = .ok (.ifCond .ne 8, 3) := by decide +kernel
theorem dX11_canal_29 : decode cX11_canal 29 = .ok (.aload_n 0, 1) := by decide +kernel
theorem dX11_canal_30 : decode cX11_canal 30 = .ok (.invokevirtual 95, 3) := by decide +kernel
theorem dX11_canal_33 : decode cX11_canal 33 = .ok (.ireturn, 1) := by decide +kernel
theorem dX11_canal_34 : decode cX11_canal 34 = .ok (.aload_n 0, 1) := by decide +kernel
theorem dX11_canal_35 : decode cX11_canal 35 = .ok (.getfield 10, 3) := by decide +kernel
theorem dX11_canal_38 : decode cX11_canal 38 = .ok (.iload_n 1, 1) := by decide +kernel
theorem dX11_canal_39 : decode cX11_canal 39 = .ok (.iload_n 2, 1) := by decide +kernel
theorem dX11_canal_40 : decode cX11_canal 40 = .ok (.invokevirtual 119, 3) := by decide +kernel
theorem dX11_canal_43 : decode cX11_canal 43 = .ok (.istore 4, 2) := by decide +kernel
theorem dX11_canal_45 : decode cX11_canal 45 = .ok (.aload_n 0, 1) := by decide +kernel
theorem dX11_canal_46 : decode cX11_canal 46 = .ok (.getfield 10, 3) := by decide +kernel
theorem dX11_canal_49 : decode cX11_canal 49 = .ok (.iload_n 1, 1) := by decide +kernel
theorem dX11_canal_50 : decode cX11_canal 50 = .ok (.iload_n 2, 1) := by decide +kernel
theorem dX11_canal_51 : decode cX11_canal 51 = .ok (.iload_n 3, 1) := by decide +kernel
theorem dX11_canal_52 : decode cX11_canal 52 = .ok (.invokevirtual 123, 3) := by decide +kernel
theorem dX11_canal_55 : decode cX11_canal 55 = .ok (.aload_n 0, 1) := by decide +kernel
theorem dX11_canal_56 : decode cX11_canal 56 = .ok (.getfield 10, 3) := by decide +kernel
theorem dX11_canal_59 : decode cX11_canal 59 = .ok (.getfield 110, 3) := by decide +kernel
theorem dX11_canal_62 : decode cX11_canal 62 = .ok (.iconst 0, 1) := by decide +kernel
theorem dX11_canal_63 : decode cX11_canal 63 = .ok (.putfield 114, 3) := by decide +kernel
theorem dX11_canal_66 : decode cX11_canal 66 = .ok (.iload 4, 2) := by decide +kernel
theorem dX11_canal_68 : decode cX11_canal 68 = .ok (.ireturn, 1) := by decide +kernel
theorem dX11_rower_0 : decode cX11_rower 0 = .ok (.iload_n 1, 1) := by decide +kernel
theorem dX11_rower_1 : decode cX11_rower 1 = .ok (.iconst 0, 1) := by decide +kernel
theorem dX11_rower_2 : decode cX11_rower 2 = .ok (.iconst 5, 1) := by decide +kernel
theorem dX11_rower_3 : decode cX11_rower 3 = .ok (.invokestatic 91, 3) := by decide +kernel
theorem dX11_rower_6 : decode cX11_rower 6 = .ok (.ifCond .eq 13, 3) := by decide +kernel
theorem dX11_rower_9 : decode cX11_rower 9 = .ok (.iload_n 2, 1) := by decide +kernel
theorem dX11_rower_10 : decode cX11_rower 10 = .ok (.iconst 0, 1) := by decide +kernel
theorem dX11_rower_11 : decode cX11_rower 11 = .ok (.bipush 9, 2) := by decide +kernel
theorem dX11_rower_13 : decode cX11_rower 13 = .ok (.invokestatic 91, 3) := by decide +kernel
theorem dX11_rower_16 : decode cX11_rower 16 = .ok (.ifCond .ne 8, 3) := by decide +kernel
theorem dX11_rower_19 : decode cX11_rower 19 = .ok (.aload_n 0, 1) := by decide +kernel
theorem dX11_rower_20 : decode cX11_rower 20 = .ok (.invokevirtual 95, 3) := by decide +kernel
theorem dX11_rower_23 : decode cX11_rower 23 = .ok (.ireturn, 1) := by decide +kernel
theorem dX11_rower_24 : decode cX11_rower 24 = .ok (.aload_n 0, 1) := by decide +kernel
theorem dX11_rower_25 : decode cX11_rower 25 = .ok (.getfield 10, 3) := by decide +kernel
theorem dX11_rower_28 : decode cX11_rower 28 = .ok (.getfield 127, 3) := by decide +kernel
theorem dX11_rower_31 : decode cX11_rower 31 = .ok (.iconst 3, 1) := by decide +kernel
theorem dX11_rower_32 : decode cX11_rower 32 = .ok (.if_icmp .lt 8, 3) := by decide +kernel
theorem dX11_rower_35 : decode cX11_rower 35 = .ok (.aload_n 0, 1) := by decide +kernel
theorem dX11_rower_36 : decode cX11_rower 36 = .ok (.invokevirtual 130, 3) := by decide +kernel
theorem dX11_rower_39 : decode cX11_rower 39 = .ok (.ireturn, 1) := by decide +kernel
theorem dX11_rower_40 : decode cX11_rower 40 = .ok (.aload_n 0, 1) := by decide +kernel
theorem dX11_rower_41 : decode cX11_rower 41 = .ok (.getfield 10, 3) := by decide +kernel
theorem dX11_rower_44 : decode cX11_rower 44 = .ok (.iload_n 1, 1) := by decide +kernel
theorem dX11_rower_45 : decode cX11_rower 45 = .ok (.iload_n 2, 1) := by decide +kernel
theorem dX11_rower_46 : decode cX11_rower 46 = .ok (.invokevirtual 133, 3) := by decide +kernel
theorem dX11_rower_49 : decode cX11_rower 49 = .ok (.aload_n 0, 1) := by decide +kernel
theorem dX11_rower_50 : decode cX11_rower 50 = .ok (.getfield 10, 3) := by decide +kernel
theorem dX11_rower_53 : decode cX11_rower 53 = .ok (.getfield 110, 3) := by decide +kernel
theorem dX11_rower_56 : decode cX11_rower 56 = .ok (.iconst 0, 1) := by decide +kernel
theorem dX11_rower_57 : decode cX11_rower 57 = .ok (.putfield 114, 3) := by decide +kernel
theorem dX11_rower_60 : decode cX11_rower 60 = .ok (.aload_n 0, 1) := by decide +kernel
theorem dX11_rower_61 : decode cX11_rower 61 = .ok (.getfield 10, 3) := by decide +kernel
theorem dX11_rower_64 : decode cX11_rower 64 = .ok (.getfield 127, 3) := by decide +kernel
theorem dX11_rower_67 : decode cX11_rower 67 = .ok (.iconst 1, 1) := by decide +kernel
theorem dX11_rower_68 : decode cX11_rower 68 = .ok (.isub, 1) := by decide +kernel
theorem dX11_rower_69 : decode cX11_rower 69 = .ok (.ireturn, 1) := by decide +kernel
theorem dX11_guest_0 : decode cX11_guest 0 = .ok (.iload_n 1, 1) := by decide +kernel
theorem dX11_guest_1 : decode cX11_guest 1 = .ok (.iconst 0, 1) := by decide +kernel
theorem dX11_guest_2 : decode cX11_guest 2 = .ok (.iconst 5, 1) := by decide +kernel
theorem dX11_guest_3 : decode cX11_guest 3 = .ok (.invokestatic 91, 3) := by decide +kernel
theorem dX11_guest_6 : decode cX11_guest 6 = .ok (.ifCond .eq 13, 3) := by decide +kernel
theorem dX11_guest_9 : decode cX11_guest 9 = .ok (.iload_n 2, 1) := by decide +kernel
theorem dX11_guest_10 : decode cX11_guest 10 = .ok (.iconst 1, 1) := by decide +kernel
theorem dX11_guest_11 : decode cX11_guest 11 = .ok (.bipush 40, 2) := by decide +kernel
theorem dX11_guest_13 : decode cX11_guest 13 = .ok (.invokestatic 91, 3) := by decide +kernel
theorem dX11_guest_16 : decode cX11_guest 16 = .ok (.ifCond .ne 8, 3) := by decide +kernel
theorem dX11_guest_19 : decode cX11_guest 19 = .ok (.aload_n 0, 1) := by decide +kernel
theorem dX11_guest_20 : decode cX11_guest 20 = .ok (.invokevirtual 95, 3) := by decide +kernel
theorem dX11_guest_23 : decode cX11_guest 23 = .ok (.ireturn, 1) := by decide +kernel
theorem dX11_guest_24 : decode cX11_guest 24 = .ok (.aload_n 0, 1) := by decide +kernel
theorem dX11_guest_25 : decode cX11_guest 25 = .ok (.getfield 10, 3) := by decide +kernel
theorem dX11_guest_28 : decode cX11_guest 28 = .ok (.getfield 99, 3) := by decide +kernel
theorem dX11_guest_31 : decode cX11_guest 31 = .ok (.iconst 4, 1) := by decide +kernel
theorem dX11_guest_32 : decode cX11_guest 32 = .ok (.if_icmp .lt 8, 3) := by decide +kernel
theorem dX11_guest_35 : decode cX11_guest 35 = .ok (.aload_n 0, 1) := by decide +kernel
theorem dX11_guest_36 : decode cX11_guest 36 = .ok (.invokevirtual 130, 3) := by decide +kernel
theorem dX11_guest_39 : decode cX11_guest 39 = .ok (.ireturn, 1) := by decide +kernel
theorem dX11_guest_40 : decode cX11_guest 40 = .ok (.aload_n 0, 1) := by decide +kernel
theorem dX11_guest_41 : decode cX11_guest 41 = .ok (.getfield 10, 3) := by decide +kernel
theorem dX11_guest_44 : decode cX11_guest 44 = .ok (.iload_n 1, 1) := by decide +kernel
theorem dX11_guest_45 : decode cX11_guest 45 = .ok (.iload_n 2, 1) := by decide +kernel
theorem dX11_guest_46 : decode cX11_guest 46 = .ok (.invokevirtual 137, 3) := by decide +kernel
theorem dX11_guest_49 : decode cX11_guest 49 = .ok (.aload_n 0, 1) := by decide +kernel
theorem dX11_guest_50 : decode cX11_guest 50 = .ok (.getfield 10, 3) := by decide +kernel
theorem dX11_guest_53 : decode cX11_guest 53 = .ok (.getfield 110, 3) := by decide +kernel
theorem dX11_guest_56 : decode cX11_guest 56 = .ok (.iconst 0, 1) := by decide +kernel
theorem dX11_guest_57 : decode cX11_guest 57 = .ok (.putfield 114, 3) := by decide +kernel
theorem dX11_guest_60 : decode cX11_guest 60 = .ok (.aload_n 0, 1) := by decide +kernel
theorem dX11_guest_61 : decode cX11_guest 61 = .ok (.getfield 10, 3) := by decide +kernel
theorem dX11_guest_64 : decode cX11_guest 64 = .ok (.getfield 99, 3) := by decide +kernel
theorem dX11_guest_67 : decode cX11_guest 67 = .ok (.iconst 1, 1) := by decide +kernel
theorem dX11_guest_68 : decode cX11_guest 68 = .ok (.isub, 1) := by decide +kernel
theorem dX11_guest_69 : decode cX11_guest 69 = .ok (.ireturn, 1) := by decide +kernel
theorem dX11_type_0 : decode cX11_type 0 = .ok (.iload_n 1, 1) := by decide +kernel
theorem dX11_type_1 : decode cX11_type 1 = .ok (.iconst 0, 1) := by decide +kernel
theorem dX11_type_2 : decode cX11_type 2 = .ok (.bipush 127, 2) := by decide +kernel
theorem dX11_type_4 : decode cX11_type 4 = .ok (.invokestatic 91, 3) := by decide +kernel
theorem dX11_type_7 : decode cX11_type 7 = .ok (.ifCond .ne 8, 3) := by decide +kernel
theorem dX11_type_10 : decode cX11_type 10 = .ok (.aload_n 0, 1) := by decide +kernel
theorem dX11_type_11 : decode cX11_type 11 = .ok (.invokevirtual 95, 3) := by decide +kernel
theorem dX11_type_14 : decode cX11_type 14 = .ok (.ireturn, 1) := by decide +kernel
theorem dX11_type_15 : decode cX11_type 15 = .ok (.aload_n 0, 1) := by decide +kernel
theorem dX11_type_16 : decode cX11_type 16 = .ok (.getfield 140, 3) := by decide +kernel
theorem dX11_type_19 : decode cX11_type 19 = .ok (.sipush 150, 3) := by decide +kernel
theorem dX11_type_22 : decode cX11_type 22 = .ok (.if_icmp .lt 8, 3) := by decide +kernel
theorem dX11_type_25 : decode cX11_type 25 = .ok (.aload_n 0, 1) := by decide +kernel
theorem dX11_type_26 : decode cX11_type 26 = .ok (.invokevirtual 130, 3) := by decide +kernel
theorem dX11_type_29 : decode cX11_type 29 = .ok (.ireturn, 1) := by decide +kernel
theorem dX11_type_30 : decode cX11_type 30 = .ok (.aload_n 0, 1) := by decide +kernel
theorem dX11_type_31 : decode cX11_type 31 = .ok (.getfield 27, 3) := by decide +kernel
theorem dX11_type_34 : decode cX11_type 34 = .ok (.aload_n 0, 1) := by decide +kernel
theorem dX11_type_35 : decode cX11_type 35 = .ok (.getfield 140, 3) := by decide +kernel
theorem dX11_type_38 : decode cX11_type 38 = .ok (.iload_n 1, 1) := by decide +kernel
theorem dX11_type_39 : decode cX11_type 39 = .ok (.i2b, 1) := by decide +kernel
theorem dX11_type_40 : decode cX11_type 40 = .ok (.bastore, 1) := by decide +kernel
theorem dX11_type_41 : decode cX11_type 41 = .ok (.aload_n 0, 1) := by decide +kernel
theorem dX11_type_42 : decode cX11_type 42 = .ok (.dup, 1) := by decide +kernel
theorem dX11_type_43 : decode cX11_type 43 = .ok (.getfield 140, 3) := by decide +kernel
theorem dX11_type_46 : decode cX11_type 46 = .ok (.iconst 1, 1) := by decide +kernel
theorem dX11_type_47 : decode cX11_type 47 = .ok (.iadd, 1) := by decide +kernel
theorem dX11_type_48 : decode cX11_type 48 = .ok (.putfield 140, 3) := by decide +kernel
theorem dX11_type_51 : decode cX11_type 51 = .ok (.aload_n 0, 1) := by decide +kernel
theorem dX11_type_52 : decode cX11_type 52 = .ok (.getfield 140, 3) := by decide +kernel
theorem dX11_type_55 : decode cX11_type 55 = .ok (.ireturn, 1) := by decide +kernel
theorem dX11_clear_0 : decode cX11_clear 0 = .ok (.aload_n 0, 1) := by decide +kernel
theorem dX11_clear_1 : decode cX11_clear 1 = .ok (.getfield 140, 3) := by decide +kernel
theorem dX11_clear_4 : decode cX11_clear 4 = .ok (.istore_n 1, 1) := by decide +kernel
theorem dX11_clear_5 : decode cX11_clear 5 = .ok (.aload_n 0, 1) := by decide +kernel
theorem dX11_clear_6 : decode cX11_clear 6 = .ok (.iconst 0, 1) := by decide +kernel
theorem dX11_clear_7 : decode cX11_clear 7 = .ok (.putfield 140, 3) := by decide +kernel
theorem dX11_clear_10 : decode cX11_clear 10 = .ok (.iload_n 1, 1) := by decide +kernel
theorem dX11_clear_11 : decode cX11_clear 11 = .ok (.ireturn, 1) := by decide +kernel
theorem dX11_read_0 : decode cX11_read 0 = .ok (.aload_n 0, 1) := by decide +kernel
theorem dX11_read_1 : decode cX11_read 1 = .ok (.getfield 83, 3) := by decide +kernel
theorem dX11_read_4 : decode cX11_read 4 = .ok (.aload_n 0, 1) := by decide +kernel
theorem dX11_read_5 : decode cX11_read 5 = .ok (.getfield 16, 3) := by decide +kernel
theorem dX11_read_8 : decode cX11_read 8 = .ok (.aload_n 0, 1) := by decide +kernel
theorem dX11_read_9 : decode cX11_read 9 = .ok (.getfield 27, 3) := by decide +kernel
theorem dX11_read_12 : decode cX11_read 12 = .ok (.aload_n 0, 1) := by decide +kernel
theorem dX11_read_13 : decode cX11_read 13 = .ok (.getfield 140, 3) := by decide +kernel
theorem dX11_read_16 : decode cX11_read 16 = .ok (.invokevirtual 143, 3) := by decide +kernel
theorem dX11_read_19 : decode cX11_read 19 = .ok (.istore_n 1, 1) := by decide +kernel
theorem dX11_read_20 : decode cX11_read 20 = .ok (.iload_n 1, 1) := by decide +kernel
theorem dX11_read_21 : decode cX11_read 21 = .ok (.ifCond .ge 14, 3) := by decide +kernel
theorem dX11_read_24 : decode cX11_read 24 = .ok (.bipush (-10), 2) := by decide +kernel
theorem dX11_read_26 : decode cX11_read 26 = .ok (.aload_n 0, 1) := by decide +kernel
theorem dX11_read_27 : decode cX11_read 27 = .ok (.getfield 83, 3) := by decide +kernel
theorem dX11_read_30 : decode cX11_read 30 = .ok (.getfield 147, 3) := by decide +kernel
theorem dX11_read_33 : decode cX11_read 33 = .ok (.isub, 1) := by decide +kernel
theorem dX11_read_34 : decode cX11_read 34 = .ok (.ireturn, 1) := by decide +kernel
theorem dX11_read_35 : decode cX11_read 35 = .ok (.aload_n 0, 1) := by decide +kernel
theorem dX11_read_36 : decode cX11_read 36 = .ok (.getfield 10, 3) := by decide +kernel
theorem dX11_read_39 : decode cX11_read 39 = .ok (.aload_n 0, 1) := by decide +kernel
theorem dX11_read_40 : decode cX11_read 40 = .ok (.getfield 16, 3) := by decide +kernel
theorem dX11_read_43 : decode cX11_read 43 = .ok (.invokevirtual 150, 3) := by decide +kernel
theorem dX11_read_46 : decode cX11_read 46 = .ok (.iload_n 1, 1) := by decide +kernel
theorem dX11_read_47 : decode cX11_read 47 = .ok (.ireturn, 1) := by decide +kernel
theorem dX11_rows_0 : decode cX11_rows 0 = .ok (.aload_n 0, 1) := by decide +kernel
theorem dX11_rows_1 : decode cX11_rows 1 = .ok (.iload_n 1, 1) := by decide +kernel
theorem dX11_rows_2 : decode cX11_rows 2 = .ok (.invokevirtual 154, 3) := by decide +kernel
theorem dX11_rows_5 : decode cX11_rows 5 = .ok (.ifCond .eq 18, 3) := by decide +kernel
theorem dX11_rows_8 : decode cX11_rows 8 = .ok (.aload_n 0, 1) := by decide +kernel
theorem dX11_rows_9 : decode cX11_rows 9 = .ok (.iload_n 2, 1) := by decide +kernel
theorem dX11_rows_10 : decode cX11_rows 10 = .ok (.invokevirtual 157, 3) := by decide +kernel
theorem dX11_rows_13 : decode cX11_rows 13 = .ok (.ifCond .eq 10, 3) := by decide +kernel
theorem dX11_rows_16 : decode cX11_rows 16 = .ok (.iload_n 3, 1) := by decide +kernel
theorem dX11_rows_17 : decode cX11_rows 17 = .ok (.invokestatic 103, 3) := by decide +kernel
theorem dX11_rows_20 : decode cX11_rows 20 = .ok (.ifCond .ne 8, 3) := by decide +kernel
theorem dX11_rows_23 : decode cX11_rows 23 = .ok (.aload_n 0, 1) := by decide +kernel
theorem dX11_rows_24 : decode cX11_rows 24 = .ok (.invokevirtual 95, 3) := by decide +kernel
theorem dX11_rows_27 : decode cX11_rows 27 = .ok (.ireturn, 1) := by decide +kernel
theorem dX11_rows_28 : decode cX11_rows 28 = .ok (.aload_n 0, 1) := by decide +kernel
theorem dX11_rows_29 : decode cX11_rows 29 = .ok (.getfield 10, 3) := by decide +kernel
theorem dX11_rows_32 : decode cX11_rows 32 = .ok (.getfield 160, 3) := by decide +kernel
theorem dX11_rows_35 : decode cX11_rows 35 = .ok (.iload_n 1, 1) := by decide +kernel
theorem dX11_rows_36 : decode cX11_rows 36 = .ok (.aaload, 1) := by decide +kernel
theorem dX11_rows_37 : decode cX11_rows 37 = .ok (.astore 4, 2) := by decide +kernel
theorem dX11_rows_39 : decode cX11_rows 39 = .ok (.aload_n 0, 1) := by decide +kernel
theorem dX11_rows_40 : decode cX11_rows 40 = .ok (.getfield 10, 3) := by decide +kernel
theorem dX11_rows_43 : decode cX11_rows 43 = .ok (.aload 4, 2) := by decide +kernel
theorem dX11_rows_45 : decode cX11_rows 45 = .ok (.iload_n 3, 1) := by decide +kernel
theorem dX11_rows_46 : decode cX11_rows 46 = .ok (.invokevirtual 164, 3) := by decide +kernel
theorem dX11_rows_49 : decode cX11_rows 49 = .ok (.ifCond .ne 8, 3) := by decide +kernel
theorem dX11_rows_52 : decode cX11_rows 52 = .ok (.aload_n 0, 1) := by decide +kernel
theorem dX11_rows_53 : decode cX11_rows 53 = .ok (.invokevirtual 168, 3) := by decide +kernel
theorem dX11_rows_56 : decode cX11_rows 56 = .ok (.ireturn, 1) := by decide +kernel
theorem dX11_rows_57 : decode cX11_rows 57 = .ok (.aload_n 0, 1) := by decide +kernel
theorem dX11_rows_58 : decode cX11_rows 58 = .ok (.getfield 10, 3) := by decide +kernel
theorem dX11_rows_61 : decode cX11_rows 61 = .ok (.getfield 110, 3) := by decide +kernel
theorem dX11_rows_64 : decode cX11_rows 64 = .ok (.aload_n 0, 1) := by decide +kernel
theorem dX11_rows_65 : decode cX11_rows 65 = .ok (.getfield 10, 3) := by decide +kernel
theorem dX11_rows_68 : decode cX11_rows 68 = .ok (.invokevirtual 171, 3) := by decide +kernel
theorem dX11_rows_71 : decode cX11_rows 71 = .ok (.aload_n 0, 1) := by decide +kernel
theorem dX11_rows_72 : decode cX11_rows 72 = .ok (.getfield 10, 3) := by decide +kernel
theorem dX11_rows_75 : decode cX11_rows 75 = .ok (.aload 4, 2) := by decide +kernel
theorem dX11_rows_77 : decode cX11_rows 77 = .ok (.aload_n 0, 1) := by decide +kernel
theorem dX11_rows_78 : decode cX11_rows 78 = .ok (.getfield 10, 3) := by decide +kernel
theorem dX11_rows_81 : decode cX11_rows 81 = .ok (.getfield 174, 3) := by decide +kernel
theorem dX11_rows_84 : decode cX11_rows 84 = .ok (.iload_n 2, 1) := by decide +kernel
theorem dX11_rows_85 : decode cX11_rows 85 = .ok (.aaload, 1) := by decide +kernel
theorem dX11_rows_86 : decode cX11_rows 86 = .ok (.iload_n 3, 1) := by decide +kernel
theorem dX11_rows_87 : decode cX11_rows 87 = .ok (.invokevirtual 178, 3) := by decide +kernel
theorem dX11_rows_90 : decode cX11_rows 90 = .ok (.aload 4, 2) := by decide +kernel
theorem dX11_rows_92 : decode cX11_rows 92 = .ok (.getfield 182, 3) := by decide +kernel
theorem dX11_rows_95 : decode cX11_rows 95 = .ok (.ireturn, 1) := by decide +kernel
theorem dX11_enters_0 : decode cX11_enters 0 = .ok (.aload_n 0, 1) := by decide +kernel
theorem dX11_enters_1 : decode cX11_enters 1 = .ok (.iload_n 1, 1) := by decide +kernel
theorem dX11_enters_2 : decode cX11_enters 2 = .ok (.invokevirtual 154, 3) := by decide +kernel
theorem dX11_enters_5 : decode cX11_enters 5 = .ok (.ifCond .ne 8, 3) := by decide +kernel
theorem dX11_enters_8 : decode cX11_enters 8 = .ok (.aload_n 0, 1) := by decide +kernel
theorem dX11_enters_9 : decode cX11_enters 9 = .ok (.invokevirtual 95, 3) := by decide +kernel
theorem dX11_enters_12 : decode cX11_enters 12 = .ok (.ireturn, 1) := by decide +kernel
theorem dX11_enters_13 : decode cX11_enters 13 = .ok (.aload_n 0, 1) := by decide +kernel
theorem dX11_enters_14 : decode cX11_enters 14 = .ok (.getfield 10, 3) := by decide +kernel
theorem dX11_enters_17 : decode cX11_enters 17 = .ok (.getfield 160, 3) := by decide +kernel
theorem dX11_enters_20 : decode cX11_enters 20 = .ok (.iload_n 1, 1) := by decide +kernel
theorem dX11_enters_21 : decode cX11_enters 21 = .ok (.aaload, 1) := by decide +kernel
theorem dX11_enters_22 : decode cX11_enters 22 = .ok (.astore_n 2, 1) := by decide +kernel
theorem dX11_enters_23 : decode cX11_enters 23 = .ok (.aload_n 2, 1) := by decide +kernel
theorem dX11_enters_24 : decode cX11_enters 24 = .ok (.getfield 185, 3) := by decide +kernel
theorem dX11_enters_27 : decode cX11_enters 27 = .ok (.ifCond .ne 8, 3) := by decide +kernel
theorem dX11_enters_30 : decode cX11_enters 30 = .ok (.aload_n 0, 1) := by decide +kernel
theorem dX11_enters_31 : decode cX11_enters 31 = .ok (.invokevirtual 168, 3) := by decide +kernel
theorem dX11_enters_34 : decode cX11_enters 34 = .ok (.ireturn, 1) := by decide +kernel
theorem dX11_enters_35 : decode cX11_enters 35 = .ok (.aload_n 2, 1) := by decide +kernel
theorem dX11_enters_36 : decode cX11_enters 36 = .ok (.getfield 185, 3) := by decide +kernel
theorem dX11_enters_39 : decode cX11_enters 39 = .ok (.istore_n 3, 1) := by decide +kernel
theorem dX11_enters_40 : decode cX11_enters 40 = .ok (.aload_n 0, 1) := by decide +kernel
theorem dX11_enters_41 : decode cX11_enters 41 = .ok (.getfield 10, 3) := by decide +kernel
theorem dX11_enters_44 : decode cX11_enters 44 = .ok (.getfield 110, 3) := by decide +kernel
theorem dX11_enters_47 : decode cX11_enters 47 = .ok (.aload_n 0, 1) := by decide +kernel
theorem dX11_enters_48 : decode cX11_enters 48 = .ok (.getfield 10, 3) := by decide +kernel
theorem dX11_enters_51 : decode cX11_enters 51 = .ok (.invokevirtual 171, 3) := by decide +kernel
theorem dX11_enters_54 : decode cX11_enters 54 = .ok (.aload_n 2, 1) := by decide +kernel
theorem dX11_enters_55 : decode cX11_enters 55 = .ok (.invokevirtual 188, 3) := by decide +kernel
theorem dX11_enters_58 : decode cX11_enters 58 = .ok (.iload_n 3, 1) := by decide +kernel
theorem dX11_enters_59 : decode cX11_enters 59 = .ok (.ireturn, 1) := by decide +kernel
theorem dX11_undo_0 : decode cX11_undo 0 = .ok (.aload_n 0, 1) := by decide +kernel
theorem dX11_undo_1 : decode cX11_undo 1 = .ok (.getfield 10, 3) := by decide +kernel
theorem dX11_undo_4 : decode cX11_undo 4 = .ok (.getfield 110, 3) := by decide +kernel
theorem dX11_undo_7 : decode cX11_undo 7 = .ok (.getfield 114, 3) := by decide +kernel
theorem dX11_undo_10 : decode cX11_undo 10 = .ok (.ifCond .gt 8, 3) := by decide +kernel
theorem dX11_undo_13 : decode cX11_undo 13 = .ok (.aload_n 0, 1) := by decide +kernel
theorem dX11_undo_14 : decode cX11_undo 14 = .ok (.invokevirtual 168, 3) := by decide +kernel
theorem dX11_undo_17 : decode cX11_undo 17 = .ok (.ireturn, 1) := by decide +kernel
theorem dX11_undo_18 : decode cX11_undo 18 = .ok (.aload_n 0, 1) := by decide +kernel
theorem dX11_undo_19 : decode cX11_undo 19 = .ok (.getfield 10, 3) := by decide +kernel
theorem dX11_undo_22 : decode cX11_undo 22 = .ok (.getfield 110, 3) := by decide +kernel
theorem dX11_undo_25 : decode cX11_undo 25 = .ok (.aload_n 0, 1) := by decide +kernel
theorem dX11_undo_26 : decode cX11_undo 26 = .ok (.getfield 10, 3) := by decide +kernel
theorem dX11_undo_29 : decode cX11_undo 29 = .ok (.invokevirtual 191, 3) := by decide +kernel
theorem dX11_undo_32 : decode cX11_undo 32 = .ok (.aload_n 0, 1) := by decide +kernel
theorem dX11_undo_33 : decode cX11_undo 33 = .ok (.getfield 10, 3) := by decide +kernel
theorem dX11_undo_36 : decode cX11_undo 36 = .ok (.getfield 110, 3) := by decide +kernel
theorem dX11_undo_39 : decode cX11_undo 39 = .ok (.getfield 114, 3) := by decide +kernel
theorem dX11_undo_42 : decode cX11_undo 42 = .ok (.ireturn, 1) := by decide +kernel
theorem dX11_of_0 : decode cX11_of 0 = .ok (.aload_n 0, 1) := by decide +kernel
theorem dX11_of_1 : decode cX11_of 1 = .ok (.iload_n 1, 1) := by decide +kernel
theorem dX11_of_2 : decode cX11_of 2 = .ok (.invokevirtual 154, 3) := by decide +kernel
theorem dX11_of_5 : decode cX11_of 5 = .ok (.ifCond .eq 12, 3) := by decide +kernel
theorem dX11_of_8 : decode cX11_of 8 = .ok (.iload_n 2, 1) := by decide +kernel
theorem dX11_of_9 : decode cX11_of 9 = .ok (.iconst 0, 1) := by decide +kernel
theorem dX11_of_10 : decode cX11_of 10 = .ok (.iconst 5, 1) := by decide +kernel
theorem dX11_of_11 : decode cX11_of 11 = .ok (.invokestatic 91, 3) := by decide +kernel
theorem dX11_of_14 : decode cX11_of 14 = .ok (.ifCond .ne 8, 3) := by decide +kernel
theorem dX11_of_17 : decode cX11_of 17 = .ok (.aload_n 0, 1) := by decide +kernel
theorem dX11_of_18 : decode cX11_of 18 = .ok (.invokevirtual 95, 3) := by decide +kernel
theorem dX11_of_21 : decode cX11_of 21 = .ok (.ireturn, 1) := by decide +kernel
theorem dX11_of_22 : decode cX11_of 22 = .ok (.aload_n 0, 1) := by decide +kernel
theorem dX11_of_23 : decode cX11_of 23 = .ok (.getfield 10, 3) := by decide +kernel
theorem dX11_of_26 : decode cX11_of 26 = .ok (.getfield 160, 3) := by decide +kernel
theorem dX11_of_29 : decode cX11_of 29 = .ok (.iload_n 1, 1) := by decide +kernel
theorem dX11_of_30 : decode cX11_of 30 = .ok (.aaload, 1) := by decide +kernel
theorem dX11_of_31 : decode cX11_of 31 = .ok (.iload_n 2, 1) := by decide +kernel
theorem dX11_of_32 : decode cX11_of 32 = .ok (.invokevirtual 194, 3) := by decide +kernel
theorem dX11_of_35 : decode cX11_of 35 = .ok (.ireturn, 1) := by decide +kernel
theorem dX11_who_0 : decode cX11_who 0 = .ok (.aload_n 0, 1) := by decide +kernel
theorem dX11_who_1 : decode cX11_who 1 = .ok (.iload_n 1, 1) := by decide +kernel
theorem dX11_who_2 : decode cX11_who 2 = .ok (.invokevirtual 157, 3) := by decide +kernel
theorem dX11_who_5 : decode cX11_who 5 = .ok (.ifCond .eq 12, 3) := by decide +kernel
theorem dX11_who_8 : decode cX11_who 8 = .ok (.iload_n 2, 1) := by decide +kernel
theorem dX11_who_9 : decode cX11_who 9 = .ok (.iconst 0, 1) := by decide +kernel
theorem dX11_who_10 : decode cX11_who 10 = .ok (.iconst 1, 1) := by decide +kernel
theorem dX11_who_11 : decode cX11_who 11 = .ok (.invokestatic 91, 3) := by decide +kernel
theorem dX11_who_14 : decode cX11_who 14 = .ok (.ifCond .ne 8, 3) := by decide +kernel
theorem dX11_who_17 : decode cX11_who 17 = .ok (.aload_n 0, 1) := by decide +kernel
theorem dX11_who_18 : decode cX11_who 18 = .ok (.invokevirtual 95, 3) := by decide +kernel
theorem dX11_who_21 : decode cX11_who 21 = .ok (.ireturn, 1) := by decide +kernel
theorem dX11_who_22 : decode cX11_who 22 = .ok (.aload_n 0, 1) := by decide +kernel
theorem dX11_who_23 : decode cX11_who 23 = .ok (.getfield 10, 3) := by decide +kernel
theorem dX11_who_26 : decode cX11_who 26 = .ok (.getfield 174, 3) := by decide +kernel
theorem dX11_who_29 : decode cX11_who 29 = .ok (.iload_n 1, 1) := by decide +kernel
theorem dX11_who_30 : decode cX11_who 30 = .ok (.aaload, 1) := by decide +kernel
theorem dX11_who_31 : decode cX11_who 31 = .ok (.astore_n 3, 1) := by decide +kernel
theorem dX11_who_32 : decode cX11_who 32 = .ok (.iload_n 2, 1) := by decide +kernel
theorem dX11_who_33 : decode cX11_who 33 = .ok (.ifCond .ne 10, 3) := by decide +kernel
theorem dX11_who_36 : decode cX11_who 36 = .ok (.aload_n 3, 1) := by decide +kernel
theorem dX11_who_37 : decode cX11_who 37 = .ok (.getfield 198, 3) := by decide +kernel
theorem dX11_who_40 : decode cX11_who 40 = .ok (.goto 7, 3) := by decide +kernel
theorem dX11_who_43 : decode cX11_who 43 = .ok (.aload_n 3, 1) := by decide +kernel
theorem dX11_who_44 : decode cX11_who 44 = .ok (.getfield 203, 3) := by decide +kernel
theorem dX11_who_47 : decode cX11_who 47 = .ok (.ireturn, 1) := by decide +kernel
theorem dX11_about_0 : decode cX11_about 0 = .ok (.iload_n 1, 1) := by decide +kernel
theorem dX11_about_1 : decode cX11_about 1 = .ok (.invokestatic 103, 3) := by decide +kernel
theorem dX11_about_4 : decode cX11_about 4 = .ok (.ifCond .eq 12, 3) := by decide +kernel
theorem dX11_about_7 : decode cX11_about 7 = .ok (.iload_n 2, 1) := by decide +kernel
theorem dX11_about_8 : decode cX11_about 8 = .ok (.iconst 0, 1) := by decide +kernel
theorem dX11_about_9 : decode cX11_about 9 = .ok (.iconst 2, 1) := by decide +kernel
theorem dX11_about_10 : decode cX11_about 10 = .ok (.invokestatic 91, 3) := by decide +kernel
theorem dX11_about_13 : decode cX11_about 13 = .ok (.ifCond .ne 8, 3) := by decide +kernel
theorem dX11_about_16 : decode cX11_about 16 = .ok (.aload_n 0, 1) := by decide +kernel
theorem dX11_about_17 : decode cX11_about 17 = .ok (.invokevirtual 95, 3) := by decide +kernel
theorem dX11_about_20 : decode cX11_about 20 = .ok (.ireturn, 1) := by decide +kernel
theorem dX11_about_21 : decode cX11_about 21 = .ok (.iload_n 2, 1) := by decide +kernel
theorem dX11_about_22 : decode cX11_about 22 = .ok (.lookupswitch 45 #[(0, 26), (1, 36)], 26) := by decide +kernel
theorem dX11_about_48 : decode cX11_about 48 = .ok (.aload_n 0, 1) := by decide +kernel
theorem dX11_about_49 : decode cX11_about 49 = .ok (.getfield 10, 3) := by decide +kernel
theorem dX11_about_52 : decode cX11_about 52 = .ok (.getfield 107, 3) := by decide +kernel
theorem dX11_about_55 : decode cX11_about 55 = .ok (.iload_n 1, 1) := by decide +kernel
theorem dX11_about_56 : decode cX11_about 56 = .ok (.iaload, 1) := by decide +kernel
theorem dX11_about_57 : decode cX11_about 57 = .ok (.ireturn, 1) := by decide +kernel
theorem dX11_about_58 : decode cX11_about 58 = .ok (.aload_n 0, 1) := by decide +kernel
theorem dX11_about_59 : decode cX11_about 59 = .ok (.getfield 10, 3) := by decide +kernel
theorem dX11_about_62 : decode cX11_about 62 = .ok (.iload_n 1, 1) := by decide +kernel
theorem dX11_about_63 : decode cX11_about 63 = .ok (.invokevirtual 206, 3) := by decide +kernel
theorem dX11_about_66 : decode cX11_about 66 = .ok (.ireturn, 1) := by decide +kernel
theorem dX11_about_67 : decode cX11_about 67 = .ok (.aload_n 0, 1) := by decide +kernel
theorem dX11_about_68 : decode cX11_about 68 = .ok (.getfield 10, 3) := by decide +kernel
theorem dX11_about_71 : decode cX11_about 71 = .ok (.iload_n 1, 1) := by decide +kernel
theorem dX11_about_72 : decode cX11_about 72 = .ok (.invokevirtual 209, 3) := by decide +kernel
theorem dX11_about_75 : decode cX11_about 75 = .ok (.ireturn, 1) := by decide +kernel
theorem dX11_strokes_0 : decode cX11_strokes 0 = .ok (.iload_n 1, 1) := by decide +kernel
theorem dX11_strokes_1 : decode cX11_strokes 1 = .ok (.invokestatic 103, 3) := by decide +kernel
theorem dX11_strokes_4 : decode cX11_strokes 4 = .ok (.ifCond .eq 10, 3) := by decide +kernel
theorem dX11_strokes_7 : decode cX11_strokes 7 = .ok (.iload_n 2, 1) := by decide +kernel
theorem dX11_strokes_8 : decode cX11_strokes 8 = .ok (.invokestatic 103, 3) := by decide +kernel
theorem dX11_strokes_11 : decode cX11_strokes 11 = .ok (.ifCond .ne 8, 3) := by decide +kernel
theorem dX11_strokes_14 : decode cX11_strokes 14 = .ok (.aload_n 0, 1) := by decide +kernel
theorem dX11_strokes_15 : decode cX11_strokes 15 = .ok (.invokevirtual 95, 3) := by decide +kernel
theorem dX11_strokes_18 : decode cX11_strokes 18 = .ok (.ireturn, 1) := by decide +kernel
theorem dX11_strokes_19 : decode cX11_strokes 19 = .ok (.aload_n 0, 1) := by decide +kernel
theorem dX11_strokes_20 : decode cX11_strokes 20 = .ok (.getfield 10, 3) := by decide +kernel
theorem dX11_strokes_23 : decode cX11_strokes 23 = .ok (.iload_n 1, 1) := by decide +kernel
theorem dX11_strokes_24 : decode cX11_strokes 24 = .ok (.iload_n 2, 1) := by decide +kernel
theorem dX11_strokes_25 : decode cX11_strokes 25 = .ok (.invokevirtual 119, 3) := by decide +kernel
theorem dX11_strokes_28 : decode cX11_strokes 28 = .ok (.ireturn, 1) := by decide +kernel
theorem dX11_far_0 : decode cX11_far 0 = .ok (.iload_n 1, 1) := by decide +kernel
theorem dX11_far_1 : decode cX11_far 1 = .ok (.invokestatic 103, 3) := by decide +kernel
theorem dX11_far_4 : decode cX11_far 4 = .ok (.ifCond .eq 10, 3) := by decide +kernel
theorem dX11_far_7 : decode cX11_far 7 = .ok (.iload_n 2, 1) := by decide +kernel
theorem dX11_far_8 : decode cX11_far 8 = .ok (.invokestatic 103, 3) := by decide +kernel
theorem dX11_far_11 : decode cX11_far 11 = .ok (.ifCond .ne 8, 3) := by decide +kernel
theorem dX11_far_14 : decode cX11_far 14 = .ok (.aload_n 0, 1) := by decide +kernel
theorem dX11_far_15 : decode cX11_far 15 = .ok (.invokevirtual 95, 3) := by decide +kernel
theorem dX11_far_18 : decode cX11_far 18 = .ok (.ireturn, 1) := by decide +kernel
theorem dX11_far_19 : decode cX11_far 19 = .ok (.aload_n 0, 1) := by decide +kernel
theorem dX11_far_20 : decode cX11_far 20 = .ok (.getfield 10, 3) := by decide +kernel
theorem dX11_far_23 : decode cX11_far 23 = .ok (.iload_n 1, 1) := by decide +kernel
theorem dX11_far_24 : decode cX11_far 24 = .ok (.aload_n 0, 1) := by decide +kernel
theorem dX11_far_25 : decode cX11_far 25 = .ok (.getfield 35, 3) := by decide +kernel
theorem dX11_far_28 : decode cX11_far 28 = .ok (.invokevirtual 212, 3) := by decide +kernel
theorem dX11_far_31 : decode cX11_far 31 = .ok (.aload_n 0, 1) := by decide +kernel
theorem dX11_far_32 : decode cX11_far 32 = .ok (.getfield 35, 3) := by decide +kernel
theorem dX11_far_35 : decode cX11_far 35 = .ok (.iload_n 2, 1) := by decide +kernel
theorem dX11_far_36 : decode cX11_far 36 = .ok (.iaload, 1) := by decide +kernel
theorem dX11_far_37 : decode cX11_far 37 = .ok (.ireturn, 1) := by decide +kernel
theorem dX11_would_0 : decode cX11_would 0 = .ok (.aload_n 0, 1) := by decide +kernel
theorem dX11_would_1 : decode cX11_would 1 = .ok (.iload_n 1, 1) := by decide +kernel
theorem dX11_would_2 : decode cX11_would 2 = .ok (.invokevirtual 154, 3) := by decide +kernel
theorem dX11_would_5 : decode cX11_would 5 = .ok (.ifCond .eq 28, 3) := by decide +kernel
theorem dX11_would_8 : decode cX11_would 8 = .ok (.aload_n 0, 1) := by decide +kernel
theorem dX11_would_9 : decode cX11_would 9 = .ok (.iload_n 2, 1) := by decide +kernel
theorem dX11_would_10 : decode cX11_would 10 = .ok (.invokevirtual 157, 3) := by decide +kernel
theorem dX11_would_13 : decode cX11_would 13 = .ok (.ifCond .eq 20, 3) := by decide +kernel
theorem dX11_would_16 : decode cX11_would 16 = .ok (.iload_n 3, 1) := by decide +kernel
theorem dX11_would_17 : decode cX11_would 17 = .ok (.invokestatic 103, 3) := by decide +kernel
theorem dX11_would_20 : decode cX11_would 20 = .ok (.ifCond .eq 13, 3) := by decide +kernel
theorem dX11_would_23 : decode cX11_would 23 = .ok (.iload 4, 2) := by decide +kernel
theorem dX11_would_25 : decode cX11_would 25 = .ok (.iconst 0, 1) := by decide +kernel
theorem dX11_would_26 : decode cX11_would 26 = .ok (.iconst 1, 1) := by decide +kernel
theorem dX11_would_27 : decode cX11_would 27 = .ok (.invokestatic 91, 3) := by decide +kernel
theorem dX11_would_30 : decode cX11_would 30 = .ok (.ifCond .ne 8, 3) := by decide +kernel
theorem dX11_would_33 : decode cX11_would 33 = .ok (.aload_n 0, 1) := by decide +kernel
theorem dX11_would_34 : decode cX11_would 34 = .ok (.invokevirtual 95, 3) := by decide +kernel
theorem dX11_would_37 : decode cX11_would 37 = .ok (.ireturn, 1) := by decide +kernel
theorem dX11_would_38 : decode cX11_would 38 = .ok (.aload_n 0, 1) := by decide +kernel
theorem dX11_would_39 : decode cX11_would 39 = .ok (.getfield 10, 3) := by decide +kernel
theorem dX11_would_42 : decode cX11_would 42 = .ok (.aload_n 0, 1) := by decide +kernel
theorem dX11_would_43 : decode cX11_would 43 = .ok (.getfield 10, 3) := by decide +kernel
theorem dX11_would_46 : decode cX11_would 46 = .ok (.getfield 160, 3) := by decide +kernel
theorem dX11_would_49 : decode cX11_would 49 = .ok (.iload_n 1, 1) := by decide +kernel
theorem dX11_would_50 : decode cX11_would 50 = .ok (.aaload, 1) := by decide +kernel
theorem dX11_would_51 : decode cX11_would 51 = .ok (.iload_n 3, 1) := by decide +kernel
theorem dX11_would_52 : decode cX11_would 52 = .ok (.invokevirtual 164, 3) := by decide +kernel
theorem dX11_would_55 : decode cX11_would 55 = .ok (.ifCond .ne 5, 3) := by decide +kernel
theorem dX11_would_58 : decode cX11_would 58 = .ok (.iconst (-1), 1) := by decide +kernel
theorem dX11_would_59 : decode cX11_would 59 = .ok (.ireturn, 1) := by decide +kernel
theorem dX11_would_60 : decode cX11_would 60 = .ok (.aload_n 0, 1) := by decide +kernel
theorem dX11_would_61 : decode cX11_would 61 = .ok (.getfield 41, 3) := by decide +kernel
theorem dX11_would_64 : decode cX11_would 64 = .ok (.aload_n 0, 1) := by decide +kernel
theorem dX11_would_65 : decode cX11_would 65 = .ok (.getfield 10, 3) := by decide +kernel
theorem dX11_would_68 : decode cX11_would 68 = .ok (.getfield 160, 3) := by decide +kernel
theorem dX11_would_71 : decode cX11_would 71 = .ok (.iload_n 1, 1) := by decide +kernel
theorem dX11_would_72 : decode cX11_would 72 = .ok (.aaload, 1) := by decide +kernel
theorem dX11_would_73 : decode cX11_would 73 = .ok (.invokevirtual 216, 3) := by decide +kernel
theorem dX11_would_76 : decode cX11_would 76 = .ok (.aload_n 0, 1) := by decide +kernel
theorem dX11_would_77 : decode cX11_would 77 = .ok (.getfield 10, 3) := by decide +kernel
theorem dX11_would_80 : decode cX11_would 80 = .ok (.aload_n 0, 1) := by decide +kernel
theorem dX11_would_81 : decode cX11_would 81 = .ok (.getfield 41, 3) := by decide +kernel
theorem dX11_would_84 : decode cX11_would 84 = .ok (.aload_n 0, 1) := by decide +kernel
theorem dX11_would_85 : decode cX11_would 85 = .ok (.getfield 10, 3) := by decide +kernel
theorem dX11_would_88 : decode cX11_would 88 = .ok (.getfield 174, 3) := by decide +kernel
theorem dX11_would_91 : decode cX11_would 91 = .ok (.iload_n 2, 1) := by decide +kernel
theorem dX11_would_92 : decode cX11_would 92 = .ok (.aaload, 1) := by decide +kernel
theorem dX11_would_93 : decode cX11_would 93 = .ok (.iload_n 3, 1) := by decide +kernel
theorem dX11_would_94 : decode cX11_would 94 = .ok (.invokevirtual 178, 3) := by decide +kernel
theorem dX11_would_97 : decode cX11_would 97 = .ok (.iload 4, 2) := by decide +kernel
theorem dX11_would_99 : decode cX11_would 99 = .ok (.ifCond .ne 13, 3) := by decide +kernel
theorem dX11_would_102 : decode cX11_would 102 = .ok (.aload_n 0, 1) := by decide +kernel
theorem dX11_would_103 : decode cX11_would 103 = .ok (.getfield 41, 3) := by decide +kernel
theorem dX11_would_106 : decode cX11_would 106 = .ok (.getfield 182, 3) := by decide +kernel
theorem dX11_would_109 : decode cX11_would 109 = .ok (.goto 10, 3) := by decide +kernel
theorem dX11_would_112 : decode cX11_would 112 = .ok (.aload_n 0, 1) := by decide +kernel
theorem dX11_would_113 : decode cX11_would 113 = .ok (.getfield 41, 3) := by decide +kernel
theorem dX11_would_116 : decode cX11_would 116 = .ok (.getfield 219, 3) := by decide +kernel
theorem dX11_would_119 : decode cX11_would 119 = .ok (.ireturn, 1) := by decide +kernel
theorem dX11_way_0 : decode cX11_way 0 = .ok (.aload_n 0, 1) := by decide +kernel
theorem dX11_way_1 : decode cX11_way 1 = .ok (.iload_n 1, 1) := by decide +kernel
theorem dX11_way_2 : decode cX11_way 2 = .ok (.invokevirtual 154, 3) := by decide +kernel
theorem dX11_way_5 : decode cX11_way 5 = .ok (.ifCond .eq 17, 3) := by decide +kernel
theorem dX11_way_8 : decode cX11_way 8 = .ok (.aload_n 0, 1) := by decide +kernel
theorem dX11_way_9 : decode cX11_way 9 = .ok (.iload_n 2, 1) := by decide +kernel
theorem dX11_way_10 : decode cX11_way 10 = .ok (.invokevirtual 157, 3) := by decide +kernel
theorem dX11_way_13 : decode cX11_way 13 = .ok (.ifCond .eq 9, 3) := by decide +kernel
theorem dX11_way_16 : decode cX11_way 16 = .ok (.iload_n 3, 1) := by decide +kernel
theorem dX11_way_17 : decode cX11_way 17 = .ok (.bipush (-4), 2) := by decide +kernel
theorem dX11_way_19 : decode cX11_way 19 = .ok (.if_icmp .ge 8, 3) := by decide +kernel
theorem dX11_way_22 : decode cX11_way 22 = .ok (.aload_n 0, 1) := by decide +kernel
theorem dX11_way_23 : decode cX11_way 23 = .ok (.invokevirtual 222, 3) := by decide +kernel
theorem dX11_way_26 : decode cX11_way 26 = .ok (.ireturn, 1) := by decide +kernel
theorem dX11_way_27 : decode cX11_way 27 = .ok (.aload_n 0, 1) := by decide +kernel
theorem dX11_way_28 : decode cX11_way 28 = .ok (.getfield 48, 3) := by decide +kernel
theorem dX11_way_31 : decode cX11_way 31 = .ok (.aload_n 0, 1) := by decide +kernel
theorem dX11_way_32 : decode cX11_way 32 = .ok (.getfield 10, 3) := by decide +kernel
theorem dX11_way_35 : decode cX11_way 35 = .ok (.aload_n 0, 1) := by decide +kernel
theorem dX11_way_36 : decode cX11_way 36 = .ok (.getfield 10, 3) := by decide +kernel
theorem dX11_way_39 : decode cX11_way 39 = .ok (.getfield 160, 3) := by decide +kernel
theorem dX11_way_42 : decode cX11_way 42 = .ok (.iload_n 1, 1) := by decide +kernel
theorem dX11_way_43 : decode cX11_way 43 = .ok (.aaload, 1) := by decide +kernel
theorem dX11_way_44 : decode cX11_way 44 = .ok (.aload_n 0, 1) := by decide +kernel
theorem dX11_way_45 : decode cX11_way 45 = .ok (.getfield 10, 3) := by decide +kernel
theorem dX11_way_48 : decode cX11_way 48 = .ok (.getfield 174, 3) := by decide +kernel
theorem dX11_way_51 : decode cX11_way 51 = .ok (.iload_n 2, 1) := by decide +kernel
theorem dX11_way_52 : decode cX11_way 52 = .ok (.aaload, 1) := by decide +kernel
theorem dX11_way_53 : decode cX11_way 53 = .ok (.invokevirtual 225, 3) := by decide +kernel
theorem dX11_way_56 : decode cX11_way 56 = .ok (.aload_n 0, 1) := by decide +kernel
theorem dX11_way_57 : decode cX11_way 57 = .ok (.getfield 48, 3) := by decide +kernel
theorem dX11_way_60 : decode cX11_way 60 = .ok (.getfield 229, 3) := by decide +kernel
theorem dX11_way_63 : decode cX11_way 63 = .ok (.ifCond .ne 5, 3) := by decide +kernel
theorem dX11_way_66 : decode cX11_way 66 = .ok (.iconst (-1), 1) := by decide +kernel
theorem dX11_way_67 : decode cX11_way 67 = .ok (.ireturn, 1) := by decide +kernel
theorem dX11_way_68 : decode cX11_way 68 = .ok (.iload_n 3, 1) := by decide +kernel
theorem dX11_way_69 : decode cX11_way 69 = .ok (.tableswitch 63 (-4) (-1) #[31, 39, 47, 55], 31) := by decide +kernel
theorem dX11_way_100 : decode cX11_way 100 = .ok (.aload_n 0, 1) := by decide +kernel
theorem dX11_way_101 : decode cX11_way 101 = .ok (.getfield 48, 3) := by decide +kernel
theorem dX11_way_104 : decode cX11_way 104 = .ok (.getfield 232, 3) := by decide +kernel
theorem dX11_way_107 : decode cX11_way 107 = .ok (.ireturn, 1) := by decide +kernel
theorem dX11_way_108 : decode cX11_way 108 = .ok (.aload_n 0, 1) := by decide +kernel
theorem dX11_way_109 : decode cX11_way 109 = .ok (.getfield 48, 3) := by decide +kernel
theorem dX11_way_112 : decode cX11_way 112 = .ok (.getfield 233, 3) := by decide +kernel
theorem dX11_way_115 : decode cX11_way 115 = .ok (.ireturn, 1) := by decide +kernel
theorem dX11_way_116 : decode cX11_way 116 = .ok (.aload_n 0, 1) := by decide +kernel
theorem dX11_way_117 : decode cX11_way 117 = .ok (.getfield 48, 3) := by decide +kernel
theorem dX11_way_120 : decode cX11_way 120 = .ok (.getfield 234, 3) := by decide +kernel
theorem dX11_way_123 : decode cX11_way 123 = .ok (.ireturn, 1) := by decide +kernel
theorem dX11_way_124 : decode cX11_way 124 = .ok (.aload_n 0, 1) := by decide +kernel
theorem dX11_way_125 : decode cX11_way 125 = .ok (.getfield 48, 3) := by decide +kernel
theorem dX11_way_128 : decode cX11_way 128 = .ok (.getfield 229, 3) := by decide +kernel
theorem dX11_way_131 : decode cX11_way 131 = .ok (.ireturn, 1) := by decide +kernel
theorem dX11_way_132 : decode cX11_way 132 = .ok (.iload_n 3, 1) := by decide +kernel
theorem dX11_way_133 : decode cX11_way 133 = .ok (.aload_n 0, 1) := by decide +kernel
theorem dX11_way_134 : decode cX11_way 134 = .ok (.getfield 48, 3) := by decide +kernel
theorem dX11_way_137 : decode cX11_way 137 = .ok (.getfield 229, 3) := by decide +kernel
theorem dX11_way_140 : decode cX11_way 140 = .ok (.if_icmp .ge 15, 3) := by decide +kernel
theorem dX11_way_143 : decode cX11_way 143 = .ok (.aload_n 0, 1) := by decide +kernel
theorem dX11_way_144 : decode cX11_way 144 = .ok (.getfield 48, 3) := by decide +kernel
theorem dX11_way_147 : decode cX11_way 147 = .ok (.getfield 237, 3) := by decide +kernel
theorem dX11_way_150 : decode cX11_way 150 = .ok (.iload_n 3, 1) := by decide +kernel
theorem dX11_way_151 : decode cX11_way 151 = .ok (.iaload, 1) := by decide +kernel
theorem dX11_way_152 : decode cX11_way 152 = .ok (.goto 5, 3) := by decide +kernel
theorem dX11_way_155 : decode cX11_way 155 = .ok (.bipush (-5), 2) := by decide +kernel
theorem dX11_way_157 : decode cX11_way 157 = .ok (.ireturn, 1) := by decide +kernel
theorem dX11_gentle_0 : decode cX11_gentle 0 = .ok (.aload_n 0, 1) := by decide +kernel
theorem dX11_gentle_1 : decode cX11_gentle 1 = .ok (.iload_n 1, 1) := by decide +kernel
theorem dX11_gentle_2 : decode cX11_gentle 2 = .ok (.invokevirtual 154, 3) := by decide +kernel
theorem dX11_gentle_5 : decode cX11_gentle 5 = .ok (.ifCond .eq 11, 3) := by decide +kernel
theorem dX11_gentle_8 : decode cX11_gentle 8 = .ok (.aload_n 0, 1) := by decide +kernel
theorem dX11_gentle_9 : decode cX11_gentle 9 = .ok (.iload_n 2, 1) := by decide +kernel
theorem dX11_gentle_10 : decode cX11_gentle 10 = .ok (.invokevirtual 157, 3) := by decide +kernel
theorem dX11_gentle_13 : decode cX11_gentle 13 = .ok (.ifCond .ne 8, 3) := by decide +kernel
theorem dX11_gentle_16 : decode cX11_gentle 16 = .ok (.aload_n 0, 1) := by decide +kernel
theorem dX11_gentle_17 : decode cX11_gentle 17 = .ok (.invokevirtual 95, 3) := by decide +kernel
theorem dX11_gentle_20 : decode cX11_gentle 20 = .ok (.ireturn, 1) := by decide +kernel
theorem dX11_gentle_21 : decode cX11_gentle 21 = .ok (.aload_n 0, 1) := by decide +kernel
theorem dX11_gentle_22 : decode cX11_gentle 22 = .ok (.getfield 48, 3) := by decide +kernel
theorem dX11_gentle_25 : decode cX11_gentle 25 = .ok (.aload_n 0, 1) := by decide +kernel
theorem dX11_gentle_26 : decode cX11_gentle 26 = .ok (.getfield 10, 3) := by decide +kernel
theorem dX11_gentle_29 : decode cX11_gentle 29 = .ok (.aload_n 0, 1) := by decide +kernel
theorem dX11_gentle_30 : decode cX11_gentle 30 = .ok (.getfield 10, 3) := by decide +kernel
theorem dX11_gentle_33 : decode cX11_gentle 33 = .ok (.getfield 160, 3) := by decide +kernel
theorem dX11_gentle_36 : decode cX11_gentle 36 = .ok (.iload_n 1, 1) := by decide +kernel
theorem dX11_gentle_37 : decode cX11_gentle 37 = .ok (.aaload, 1) := by decide +kernel
theorem dX11_gentle_38 : decode cX11_gentle 38 = .ok (.aload_n 0, 1) := by decide +kernel
theorem dX11_gentle_39 : decode cX11_gentle 39 = .ok (.getfield 10, 3) := by decide +kernel
theorem dX11_gentle_42 : decode cX11_gentle 42 = .ok (.getfield 174, 3) := by decide +kernel
theorem dX11_gentle_45 : decode cX11_gentle 45 = .ok (.iload_n 2, 1) := by decide +kernel
theorem dX11_gentle_46 : decode cX11_gentle 46 = .ok (.aaload, 1) := by decide +kernel
theorem dX11_gentle_47 : decode cX11_gentle 47 = .ok (.invokevirtual 225, 3) := by decide +kernel
theorem dX11_gentle_50 : decode cX11_gentle 50 = .ok (.aload_n 0, 1) := by decide +kernel
theorem dX11_gentle_51 : decode cX11_gentle 51 = .ok (.getfield 48, 3) := by decide +kernel
theorem dX11_gentle_54 : decode cX11_gentle 54 = .ok (.getfield 240, 3) := by decide +kernel
theorem dX11_gentle_57 : decode cX11_gentle 57 = .ok (.ireturn, 1) := by decide +kernel
theorem dX11_where_0 : decode cX11_where 0 = .ok (.aload_n 0, 1) := by decide +kernel
theorem dX11_where_1 : decode cX11_where 1 = .ok (.iload_n 1, 1) := by decide +kernel
theorem dX11_where_2 : decode cX11_where 2 = .ok (.invokevirtual 154, 3) := by decide +kernel
theorem dX11_where_5 : decode cX11_where 5 = .ok (.ifCond .eq 11, 3) := by decide +kernel
theorem dX11_where_8 : decode cX11_where 8 = .ok (.aload_n 0, 1) := by decide +kernel
theorem dX11_where_9 : decode cX11_where 9 = .ok (.iload_n 2, 1) := by decide +kernel
theorem dX11_where_10 : decode cX11_where 10 = .ok (.invokevirtual 157, 3) := by decide +kernel
theorem dX11_where_13 : decode cX11_where 13 = .ok (.ifCond .ne 8, 3) := by decide +kernel
theorem dX11_where_16 : decode cX11_where 16 = .ok (.aload_n 0, 1) := by decide +kernel
theorem dX11_where_17 : decode cX11_where 17 = .ok (.invokevirtual 222, 3) := by decide +kernel
theorem dX11_where_20 : decode cX11_where 20 = .ok (.ireturn, 1) := by decide +kernel
theorem dX11_where_21 : decode cX11_where 21 = .ok (.aload_n 0, 1) := by decide +kernel
theorem dX11_where_22 : decode cX11_where 22 = .ok (.getfield 10, 3) := by decide +kernel
theorem dX11_where_25 : decode cX11_where 25 = .ok (.getfield 160, 3) := by decide +kernel
theorem dX11_where_28 : decode cX11_where 28 = .ok (.iload_n 1, 1) := by decide +kernel
theorem dX11_where_29 : decode cX11_where 29 = .ok (.aaload, 1) := by decide +kernel
theorem dX11_where_30 : decode cX11_where 30 = .ok (.astore_n 3, 1) := by decide +kernel
theorem dX11_where_31 : decode cX11_where 31 = .ok (.aload_n 3, 1) := by decide +kernel
theorem dX11_where_32 : decode cX11_where 32 = .ok (.invokevirtual 243, 3) := by decide +kernel
theorem dX11_where_35 : decode cX11_where 35 = .ok (.ifCond .eq 6, 3) := by decide +kernel
theorem dX11_where_38 : decode cX11_where 38 = .ok (.bipush (-3), 2) := by decide +kernel
theorem dX11_where_40 : decode cX11_where 40 = .ok (.ireturn, 1) := by decide +kernel
theorem dX11_where_41 : decode cX11_where 41 = .ok (.aload_n 0, 1) := by decide +kernel
theorem dX11_where_42 : decode cX11_where 42 = .ok (.getfield 48, 3) := by decide +kernel
theorem dX11_where_45 : decode cX11_where 45 = .ok (.aload_n 0, 1) := by decide +kernel
theorem dX11_where_46 : decode cX11_where 46 = .ok (.getfield 10, 3) := by decide +kernel
theorem dX11_where_49 : decode cX11_where 49 = .ok (.aload_n 3, 1) := by decide +kernel
theorem dX11_where_50 : decode cX11_where 50 = .ok (.aload_n 0, 1) := by decide +kernel
theorem dX11_where_51 : decode cX11_where 51 = .ok (.getfield 10, 3) := by decide +kernel
theorem dX11_where_54 : decode cX11_where 54 = .ok (.getfield 174, 3) := by decide +kernel
theorem dX11_where_57 : decode cX11_where 57 = .ok (.iload_n 2, 1) := by decide +kernel
theorem dX11_where_58 : decode cX11_where 58 = .ok (.aaload, 1) := by decide +kernel
theorem dX11_where_59 : decode cX11_where 59 = .ok (.invokevirtual 225, 3) := by decide +kernel
theorem dX11_where_62 : decode cX11_where 62 = .ok (.aload_n 0, 1) := by decide +kernel
theorem dX11_where_63 : decode cX11_where 63 = .ok (.getfield 48, 3) := by decide +kernel
theorem dX11_where_66 : decode cX11_where 66 = .ok (.getfield 229, 3) := by decide +kernel
theorem dX11_where_69 : decode cX11_where 69 = .ok (.ifCond .ne 6, 3) := by decide +kernel
theorem dX11_where_72 : decode cX11_where 72 = .ok (.bipush (-4), 2) := by decide +kernel
theorem dX11_where_74 : decode cX11_where 74 = .ok (.ireturn, 1) := by decide +kernel
theorem dX11_where_75 : decode cX11_where 75 = .ok (.aload_n 0, 1) := by decide +kernel
theorem dX11_where_76 : decode cX11_where 76 = .ok (.getfield 41, 3) := by decide +kernel
theorem dX11_where_79 : decode cX11_where 79 = .ok (.aload_n 3, 1) := by decide +kernel
theorem dX11_where_80 : decode cX11_where 80 = .ok (.invokevirtual 216, 3) := by decide +kernel
theorem dX11_where_83 : decode cX11_where 83 = .ok (.iconst 0, 1) := by decide +kernel
theorem dX11_where_84 : decode cX11_where 84 = .ok (.istore 4, 2) := by decide +kernel
theorem dX11_where_86 : decode cX11_where 86 = .ok (.iload 4, 2) := by decide +kernel
theorem dX11_where_88 : decode cX11_where 88 = .ok (.aload_n 0, 1) := by decide +kernel
theorem dX11_where_89 : decode cX11_where 89 = .ok (.getfield 48, 3) := by decide +kernel
theorem dX11_where_92 : decode cX11_where 92 = .ok (.getfield 229, 3) := by decide +kernel
theorem dX11_where_95 : decode cX11_where 95 = .ok (.if_icmp .ge 52, 3) := by decide +kernel
theorem dX11_where_98 : decode cX11_where 98 = .ok (.aload_n 0, 1) := by decide +kernel
theorem dX11_where_99 : decode cX11_where 99 = .ok (.getfield 10, 3) := by decide +kernel
theorem dX11_where_102 : decode cX11_where 102 = .ok (.aload_n 0, 1) := by decide +kernel
theorem dX11_where_103 : decode cX11_where 103 = .ok (.getfield 41, 3) := by decide +kernel
theorem dX11_where_106 : decode cX11_where 106 = .ok (.aload_n 0, 1) := by decide +kernel
theorem dX11_where_107 : decode cX11_where 107 = .ok (.getfield 10, 3) := by decide +kernel
theorem dX11_where_110 : decode cX11_where 110 = .ok (.getfield 174, 3) := by decide +kernel
theorem dX11_where_113 : decode cX11_where 113 = .ok (.iload_n 2, 1) := by decide +kernel
theorem dX11_where_114 : decode cX11_where 114 = .ok (.aaload, 1) := by decide +kernel
theorem dX11_where_115 : decode cX11_where 115 = .ok (.aload_n 0, 1) := by decide +kernel
theorem dX11_where_116 : decode cX11_where 116 = .ok (.getfield 48, 3) := by decide +kernel
theorem dX11_where_119 : decode cX11_where 119 = .ok (.getfield 237, 3) := by decide +kernel
theorem dX11_where_122 : decode cX11_where 122 = .ok (.iload 4, 2) := by decide +kernel
theorem dX11_where_124 : decode cX11_where 124 = .ok (.iaload, 1) := by decide +kernel
theorem dX11_where_125 : decode cX11_where 125 = .ok (.invokevirtual 178, 3) := by decide +kernel
theorem dX11_where_128 : decode cX11_where 128 = .ok (.aload_n 0, 1) := by decide +kernel
theorem dX11_where_129 : decode cX11_where 129 = .ok (.getfield 41, 3) := by decide +kernel
theorem dX11_where_132 : decode cX11_where 132 = .ok (.invokevirtual 243, 3) := by decide +kernel
theorem dX11_where_135 : decode cX11_where 135 = .ok (.ifCond .eq 6, 3) := by decide +kernel
theorem dX11_where_138 : decode cX11_where 138 = .ok (.iload 4, 2) := by decide +kernel
theorem dX11_where_140 : decode cX11_where 140 = .ok (.ireturn, 1) := by decide +kernel
theorem dX11_where_141 : decode cX11_where 141 = .ok (.iinc 4 1, 3) := by decide +kernel
theorem dX11_where_144 : decode cX11_where 144 = .ok (.goto (-58), 3) := by decide +kernel
theorem dX11_where_147 : decode cX11_where 147 = .ok (.iconst (-1), 1) := by decide +kernel
theorem dX11_where_148 : decode cX11_where 148 = .ok (.ireturn, 1) := by decide +kernel
theorem dX11_share_0 : decode cX11_share 0 = .ok (.iload_n 1, 1) := by decide +kernel
theorem dX11_share_1 : decode cX11_share 1 = .ok (.bipush (-3), 2) := by decide +kernel
theorem dX11_share_3 : decode cX11_share 3 = .ok (.if_icmp .eq 22, 3) := by decide +kernel
theorem dX11_share_6 : decode cX11_share 6 = .ok (.iload_n 1, 1) := by decide +kernel
theorem dX11_share_7 : decode cX11_share 7 = .ok (.bipush (-2), 2) := by decide +kernel
theorem dX11_share_9 : decode cX11_share 9 = .ok (.if_icmp .eq 16, 3) := by decide +kernel
theorem dX11_share_12 : decode cX11_share 12 = .ok (.aload_n 0, 1) := by decide +kernel
theorem dX11_share_13 : decode cX11_share 13 = .ok (.iload_n 1, 1) := by decide +kernel
theorem dX11_share_14 : decode cX11_share 14 = .ok (.invokevirtual 154, 3) := by decide +kernel
theorem dX11_share_17 : decode cX11_share 17 = .ok (.ifCond .ne 8, 3) := by decide +kernel
theorem dX11_share_20 : decode cX11_share 20 = .ok (.aload_n 0, 1) := by decide +kernel
theorem dX11_share_21 : decode cX11_share 21 = .ok (.invokevirtual 222, 3) := by decide +kernel
theorem dX11_share_24 : decode cX11_share 24 = .ok (.ireturn, 1) := by decide +kernel
theorem dX11_share_25 : decode cX11_share 25 = .ok (.aload_n 0, 1) := by decide +kernel
theorem dX11_share_26 : decode cX11_share 26 = .ok (.getfield 55, 3) := by decide +kernel
theorem dX11_share_29 : decode cX11_share 29 = .ok (.aload_n 0, 1) := by decide +kernel
theorem dX11_share_30 : decode cX11_share 30 = .ok (.getfield 10, 3) := by decide +kernel
theorem dX11_share_33 : decode cX11_share 33 = .ok (.aload_n 0, 1) := by decide +kernel
theorem dX11_share_34 : decode cX11_share 34 = .ok (.getfield 48, 3) := by decide +kernel
theorem dX11_share_37 : decode cX11_share 37 = .ok (.invokevirtual 247, 3) := by decide +kernel
theorem dX11_share_40 : decode cX11_share 40 = .ok (.aload_n 0, 1) := by decide +kernel
theorem dX11_share_41 : decode cX11_share 41 = .ok (.getfield 55, 3) := by decide +kernel
theorem dX11_share_44 : decode cX11_share 44 = .ok (.getfield 250, 3) := by decide +kernel
theorem dX11_share_47 : decode cX11_share 47 = .ok (.ifCond .ne 6, 3) := by decide +kernel
theorem dX11_share_50 : decode cX11_share 50 = .ok (.bipush (-5), 2) := by decide +kernel
theorem dX11_share_52 : decode cX11_share 52 = .ok (.ireturn, 1) := by decide +kernel
theorem dX11_share_53 : decode cX11_share 53 = .ok (.iload_n 1, 1) := by decide +kernel
theorem dX11_share_54 : decode cX11_share 54 = .ok (.lookupswitch 42 #[(-3, 26), (-2, 34)], 26) := by decide +kernel
theorem dX11_share_80 : decode cX11_share 80 = .ok (.aload_n 0, 1) := by decide +kernel
theorem dX11_share_81 : decode cX11_share 81 = .ok (.getfield 55, 3) := by decide +kernel
theorem dX11_share_84 : decode cX11_share 84 = .ok (.getfield 254, 3) := by decide +kernel
theorem dX11_share_87 : decode cX11_share 87 = .ok (.ireturn, 1) := by decide +kernel
theorem dX11_share_88 : decode cX11_share 88 = .ok (.aload_n 0, 1) := by decide +kernel
theorem dX11_share_89 : decode cX11_share 89 = .ok (.getfield 55, 3) := by decide +kernel
theorem dX11_share_92 : decode cX11_share 92 = .ok (.getfield 255, 3) := by decide +kernel
theorem dX11_share_95 : decode cX11_share 95 = .ok (.ireturn, 1) := by decide +kernel
theorem dX11_share_96 : decode cX11_share 96 = .ok (.aload_n 0, 1) := by decide +kernel
theorem dX11_share_97 : decode cX11_share 97 = .ok (.getfield 55, 3) := by decide +kernel
theorem dX11_share_100 : decode cX11_share 100 = .ok (.getfield 256, 3) := by decide +kernel
theorem dX11_share_103 : decode cX11_share 103 = .ok (.iload_n 1, 1) := by decide +kernel
theorem dX11_share_104 : decode cX11_share 104 = .ok (.iaload, 1) := by decide +kernel
theorem dX11_share_105 : decode cX11_share 105 = .ok (.ireturn, 1) := by decide +kernel
theorem dX11_seen_0 : decode cX11_seen 0 = .ok (.aload_n 0, 1) := by decide +kernel
theorem dX11_seen_1 : decode cX11_seen 1 = .ok (.iload_n 1, 1) := by decide +kernel
theorem dX11_seen_2 : decode cX11_seen 2 = .ok (.invokevirtual 157, 3) := by decide +kernel
theorem dX11_seen_5 : decode cX11_seen 5 = .ok (.ifCond .eq 34, 3) := by decide +kernel
theorem dX11_seen_8 : decode cX11_seen 8 = .ok (.iload_n 2, 1) := by decide +kernel
theorem dX11_seen_9 : decode cX11_seen 9 = .ok (.iconst 0, 1) := by decide +kernel
theorem dX11_seen_10 : decode cX11_seen 10 = .ok (.bipush 9, 2) := by decide +kernel
theorem dX11_seen_12 : decode cX11_seen 12 = .ok (.invokestatic 91, 3) := by decide +kernel
theorem dX11_seen_15 : decode cX11_seen 15 = .ok (.ifCond .eq 24, 3) := by decide +kernel
theorem dX11_seen_18 : decode cX11_seen 18 = .ok (.iload_n 3, 1) := by decide +kernel
theorem dX11_seen_19 : decode cX11_seen 19 = .ok (.iconst 0, 1) := by decide +kernel
theorem dX11_seen_20 : decode cX11_seen 20 = .ok (.bipush 99, 2) := by decide +kernel
theorem dX11_seen_22 : decode cX11_seen 22 = .ok (.invokestatic 91, 3) := by decide +kernel
theorem dX11_seen_25 : decode cX11_seen 25 = .ok (.ifCond .eq 14, 3) := by decide +kernel
theorem dX11_seen_28 : decode cX11_seen 28 = .ok (.iload 4, 2) := by decide +kernel
theorem dX11_seen_30 : decode cX11_seen 30 = .ok (.iconst 0, 1) := by decide +kernel
theorem dX11_seen_31 : decode cX11_seen 31 = .ok (.bipush 99, 2) := by decide +kernel
theorem dX11_seen_33 : decode cX11_seen 33 = .ok (.invokestatic 91, 3) := by decide +kernel
theorem dX11_seen_36 : decode cX11_seen 36 = .ok (.ifCond .ne 8, 3) := by decide +kernel
theorem dX11_seen_39 : decode cX11_seen 39 = .ok (.aload_n 0, 1) := by decide +kernel
theorem dX11_seen_40 : decode cX11_seen 40 = .ok (.invokevirtual 95, 3) := by decide +kernel
theorem dX11_seen_43 : decode cX11_seen 43 = .ok (.ireturn, 1) := by decide +kernel
theorem dX11_seen_44 : decode cX11_seen 44 = .ok (.aload_n 0, 1) := by decide +kernel
theorem dX11_seen_45 : decode cX11_seen 45 = .ok (.getfield 10, 3) := by decide +kernel
theorem dX11_seen_48 : decode cX11_seen 48 = .ok (.getfield 259, 3) := by decide +kernel
theorem dX11_seen_51 : decode cX11_seen 51 = .ok (.astore 5, 2) := by decide +kernel
theorem dX11_seen_53 : decode cX11_seen 53 = .ok (.aload 5, 2) := by decide +kernel
theorem dX11_seen_55 : decode cX11_seen 55 = .ok (.invokevirtual 263, 3) := by decide +kernel
theorem dX11_seen_58 : decode cX11_seen 58 = .ok (.ifCond .eq 8, 3) := by decide +kernel
theorem dX11_seen_61 : decode cX11_seen 61 = .ok (.aload_n 0, 1) := by decide +kernel
theorem dX11_seen_62 : decode cX11_seen 62 = .ok (.invokevirtual 130, 3) := by decide +kernel
theorem dX11_seen_65 : decode cX11_seen 65 = .ok (.ireturn, 1) := by decide +kernel
theorem dX11_seen_66 : decode cX11_seen 66 = .ok (.aload 5, 2) := by decide +kernel
theorem dX11_seen_68 : decode cX11_seen 68 = .ok (.iconst 0, 1) := by decide +kernel
theorem dX11_seen_69 : decode cX11_seen 69 = .ok (.iload_n 1, 1) := by decide +kernel
theorem dX11_seen_70 : decode cX11_seen 70 = .ok (.invokevirtual 268, 3) := by decide +kernel
theorem dX11_seen_73 : decode cX11_seen 73 = .ok (.aload 5, 2) := by decide +kernel
theorem dX11_seen_75 : decode cX11_seen 75 = .ok (.iconst 1, 1) := by decide +kernel
theorem dX11_seen_76 : decode cX11_seen 76 = .ok (.iload_n 2, 1) := by decide +kernel
theorem dX11_seen_77 : decode cX11_seen 77 = .ok (.invokevirtual 268, 3) := by decide +kernel
theorem dX11_seen_80 : decode cX11_seen 80 = .ok (.aload 5, 2) := by decide +kernel
theorem dX11_seen_82 : decode cX11_seen 82 = .ok (.iconst 2, 1) := by decide +kernel
theorem dX11_seen_83 : decode cX11_seen 83 = .ok (.iload_n 3, 1) := by decide +kernel
theorem dX11_seen_84 : decode cX11_seen 84 = .ok (.invokevirtual 268, 3) := by decide +kernel
theorem dX11_seen_87 : decode cX11_seen 87 = .ok (.aload 5, 2) := by decide +kernel
theorem dX11_seen_89 : decode cX11_seen 89 = .ok (.iconst 3, 1) := by decide +kernel
theorem dX11_seen_90 : decode cX11_seen 90 = .ok (.iload 4, 2) := by decide +kernel
theorem dX11_seen_92 : decode cX11_seen 92 = .ok (.invokevirtual 268, 3) := by decide +kernel
theorem dX11_seen_95 : decode cX11_seen 95 = .ok (.aload 5, 2) := by decide +kernel
theorem dX11_seen_97 : decode cX11_seen 97 = .ok (.invokevirtual 271, 3) := by decide +kernel
theorem dX11_seen_100 : decode cX11_seen 100 = .ok (.ireturn, 1) := by decide +kernel
theorem dX11_tongues_0 : decode cX11_tongues 0 = .ok (.aload_n 0, 1) := by decide +kernel
theorem dX11_tongues_1 : decode cX11_tongues 1 = .ok (.iload_n 1, 1) := by decide +kernel
theorem dX11_tongues_2 : decode cX11_tongues 2 = .ok (.invokevirtual 157, 3) := by decide +kernel
theorem dX11_tongues_5 : decode cX11_tongues 5 = .ok (.ifCond .eq 18, 3) := by decide +kernel
theorem dX11_tongues_8 : decode cX11_tongues 8 = .ok (.aload_n 0, 1) := by decide +kernel
theorem dX11_tongues_9 : decode cX11_tongues 9 = .ok (.getfield 62, 3) := by decide +kernel
theorem dX11_tongues_12 : decode cX11_tongues 12 = .ok (.aload_n 0, 1) := by decide +kernel
theorem dX11_tongues_13 : decode cX11_tongues 13 = .ok (.getfield 10, 3) := by decide +kernel
theorem dX11_tongues_16 : decode cX11_tongues 16 = .ok (.iload_n 1, 1) := by decide +kernel
theorem dX11_tongues_17 : decode cX11_tongues 17 = .ok (.invokevirtual 273, 3) := by decide +kernel
theorem dX11_tongues_20 : decode cX11_tongues 20 = .ok (.goto 7, 3) := by decide +kernel
theorem dX11_tongues_23 : decode cX11_tongues 23 = .ok (.aload_n 0, 1) := by decide +kernel
theorem dX11_tongues_24 : decode cX11_tongues 24 = .ok (.invokevirtual 95, 3) := by decide +kernel
theorem dX11_tongues_27 : decode cX11_tongues 27 = .ok (.ireturn, 1) := by decide +kernel
theorem dX11_tell_0 : decode cX11_tell 0 = .ok (.aload_n 0, 1) := by decide +kernel
theorem dX11_tell_1 : decode cX11_tell 1 = .ok (.iload_n 1, 1) := by decide +kernel
theorem dX11_tell_2 : decode cX11_tell 2 = .ok (.invokevirtual 157, 3) := by decide +kernel
theorem dX11_tell_5 : decode cX11_tell 5 = .ok (.ifCond .eq 18, 3) := by decide +kernel
theorem dX11_tell_8 : decode cX11_tell 8 = .ok (.aload_n 0, 1) := by decide +kernel
theorem dX11_tell_9 : decode cX11_tell 9 = .ok (.getfield 62, 3) := by decide +kernel
theorem dX11_tell_12 : decode cX11_tell 12 = .ok (.aload_n 0, 1) := by decide +kernel
theorem dX11_tell_13 : decode cX11_tell 13 = .ok (.getfield 10, 3) := by decide +kernel
theorem dX11_tell_16 : decode cX11_tell 16 = .ok (.iload_n 1, 1) := by decide +kernel
theorem dX11_tell_17 : decode cX11_tell 17 = .ok (.invokevirtual 277, 3) := by decide +kernel
theorem dX11_tell_20 : decode cX11_tell 20 = .ok (.goto 7, 3) := by decide +kernel
theorem dX11_tell_23 : decode cX11_tell 23 = .ok (.aload_n 0, 1) := by decide +kernel
theorem dX11_tell_24 : decode cX11_tell 24 = .ok (.invokevirtual 95, 3) := by decide +kernel
theorem dX11_tell_27 : decode cX11_tell 27 = .ok (.ireturn, 1) := by decide +kernel
theorem dX11_note_0 : decode cX11_note 0 = .ok (.aload_n 0, 1) := by decide +kernel
theorem dX11_note_1 : decode cX11_note 1 = .ok (.iload_n 1, 1) := by decide +kernel
theorem dX11_note_2 : decode cX11_note 2 = .ok (.invokevirtual 154, 3) := by decide +kernel
theorem dX11_note_5 : decode cX11_note 5 = .ok (.ifCond .eq 33, 3) := by decide +kernel
theorem dX11_note_8 : decode cX11_note 8 = .ok (.iload_n 2, 1) := by decide +kernel
theorem dX11_note_9 : decode cX11_note 9 = .ok (.iconst 1, 1) := by decide +kernel
theorem dX11_note_10 : decode cX11_note 10 = .ok (.bipush 40, 2) := by decide +kernel
theorem dX11_note_12 : decode cX11_note 12 = .ok (.invokestatic 91, 3) := by decide +kernel
theorem dX11_note_15 : decode cX11_note 15 = .ok (.ifCond .eq 23, 3) := by decide +kernel
theorem dX11_note_18 : decode cX11_note 18 = .ok (.iload_n 3, 1) := by decide +kernel
theorem dX11_note_19 : decode cX11_note 19 = .ok (.iconst 0, 1) := by decide +kernel
theorem dX11_note_20 : decode cX11_note 20 = .ok (.iload_n 2, 1) := by decide +kernel
theorem dX11_note_21 : decode cX11_note 21 = .ok (.invokestatic 91, 3) := by decide +kernel
theorem dX11_note_24 : decode cX11_note 24 = .ok (.ifCond .eq 14, 3) := by decide +kernel
theorem dX11_note_27 : decode cX11_note 27 = .ok (.iload 4, 2) := by decide +kernel
theorem dX11_note_29 : decode cX11_note 29 = .ok (.iconst 0, 1) := by decide +kernel
theorem dX11_note_30 : decode cX11_note 30 = .ok (.bipush 20, 2) := by decide +kernel
theorem dX11_note_32 : decode cX11_note 32 = .ok (.invokestatic 91, 3) := by decide +kernel
theorem dX11_note_35 : decode cX11_note 35 = .ok (.ifCond .ne 8, 3) := by decide +kernel
theorem dX11_note_38 : decode cX11_note 38 = .ok (.aload_n 0, 1) := by decide +kernel
theorem dX11_note_39 : decode cX11_note 39 = .ok (.invokevirtual 95, 3) := by decide +kernel
theorem dX11_note_42 : decode cX11_note 42 = .ok (.ireturn, 1) := by decide +kernel
theorem dX11_note_43 : decode cX11_note 43 = .ok (.iload 5, 2) := by decide +kernel
theorem dX11_note_45 : decode cX11_note 45 = .ok (.iconst 0, 1) := by decide +kernel
theorem dX11_note_46 : decode cX11_note 46 = .ok (.bipush 9, 2) := by decide +kernel
theorem dX11_note_48 : decode cX11_note 48 = .ok (.invokestatic 91, 3) := by decide +kernel
theorem dX11_note_51 : decode cX11_note 51 = .ok (.ifCond .eq 14, 3) := by decide +kernel
theorem dX11_note_54 : decode cX11_note 54 = .ok (.iload 6, 2) := by decide +kernel
theorem dX11_note_56 : decode cX11_note 56 = .ok (.iconst 0, 1) := by decide +kernel
theorem dX11_note_57 : decode cX11_note 57 = .ok (.bipush 60, 2) := by decide +kernel
theorem dX11_note_59 : decode cX11_note 59 = .ok (.invokestatic 91, 3) := by decide +kernel
theorem dX11_note_62 : decode cX11_note 62 = .ok (.ifCond .ne 8, 3) := by decide +kernel
theorem dX11_note_65 : decode cX11_note 65 = .ok (.aload_n 0, 1) := by decide +kernel
theorem dX11_note_66 : decode cX11_note 66 = .ok (.invokevirtual 95, 3) := by decide +kernel
theorem dX11_note_69 : decode cX11_note 69 = .ok (.ireturn, 1) := by decide +kernel
theorem dX11_note_70 : decode cX11_note 70 = .ok (.aload_n 0, 1) := by decide +kernel
theorem dX11_note_71 : decode cX11_note 71 = .ok (.getfield 10, 3) := by decide +kernel
theorem dX11_note_74 : decode cX11_note 74 = .ok (.getfield 280, 3) := by decide +kernel
theorem dX11_note_77 : decode cX11_note 77 = .ok (.astore 7, 2) := by decide +kernel
theorem dX11_note_79 : decode cX11_note 79 = .ok (.aload 7, 2) := by decide +kernel
theorem dX11_note_81 : decode cX11_note 81 = .ok (.invokevirtual 263, 3) := by decide +kernel
theorem dX11_note_84 : decode cX11_note 84 = .ok (.ifCond .eq 8, 3) := by decide +kernel
theorem dX11_note_87 : decode cX11_note 87 = .ok (.aload_n 0, 1) := by decide +kernel
theorem dX11_note_88 : decode cX11_note 88 = .ok (.invokevirtual 130, 3) := by decide +kernel
theorem dX11_note_91 : decode cX11_note 91 = .ok (.ireturn, 1) := by decide +kernel
theorem dX11_note_92 : decode cX11_note 92 = .ok (.aload 7, 2) := by decide +kernel
theorem dX11_note_94 : decode cX11_note 94 = .ok (.iconst 0, 1) := by decide +kernel
theorem dX11_note_95 : decode cX11_note 95 = .ok (.iload_n 1, 1) := by decide +kernel
theorem dX11_note_96 : decode cX11_note 96 = .ok (.invokevirtual 268, 3) := by decide +kernel
theorem dX11_note_99 : decode cX11_note 99 = .ok (.aload 7, 2) := by decide +kernel
theorem dX11_note_101 : decode cX11_note 101 = .ok (.iconst 1, 1) := by decide +kernel
theorem dX11_note_102 : decode cX11_note 102 = .ok (.iload_n 2, 1) := by decide +kernel
theorem dX11_note_103 : decode cX11_note 103 = .ok (.invokevirtual 268, 3) := by decide +kernel
theorem dX11_note_106 : decode cX11_note 106 = .ok (.aload 7, 2) := by decide +kernel
theorem dX11_note_108 : decode cX11_note 108 = .ok (.iconst 2, 1) := by decide +kernel
theorem dX11_note_109 : decode cX11_note 109 = .ok (.iload_n 3, 1) := by decide +kernel
theorem dX11_note_110 : decode cX11_note 110 = .ok (.invokevirtual 268, 3) := by decide +kernel
theorem dX11_note_113 : decode cX11_note 113 = .ok (.aload 7, 2) := by decide +kernel
theorem dX11_note_115 : decode cX11_note 115 = .ok (.iconst 3, 1) := by decide +kernel
theorem dX11_note_116 : decode cX11_note 116 = .ok (.iload 4, 2) := by decide +kernel
theorem dX11_note_118 : decode cX11_note 118 = .ok (.invokevirtual 268, 3) := by decide +kernel
theorem dX11_note_121 : decode cX11_note 121 = .ok (.aload 7, 2) := by decide +kernel
theorem dX11_note_123 : decode cX11_note 123 = .ok (.iconst 4, 1) := by decide +kernel
theorem dX11_note_124 : decode cX11_note 124 = .ok (.iload 5, 2) := by decide +kernel
theorem dX11_note_126 : decode cX11_note 126 = .ok (.invokevirtual 268, 3) := by decide +kernel
theorem dX11_note_129 : decode cX11_note 129 = .ok (.aload 7, 2) := by decide +kernel
theorem dX11_note_131 : decode cX11_note 131 = .ok (.iconst 5, 1) := by decide +kernel
theorem dX11_note_132 : decode cX11_note 132 = .ok (.iload 6, 2) := by decide +kernel
theorem dX11_note_134 : decode cX11_note 134 = .ok (.invokevirtual 268, 3) := by decide +kernel
theorem dX11_note_137 : decode cX11_note 137 = .ok (.aload 7, 2) := by decide +kernel
theorem dX11_note_139 : decode cX11_note 139 = .ok (.invokevirtual 271, 3) := by decide +kernel
theorem dX11_note_142 : decode cX11_note 142 = .ok (.ireturn, 1) := by decide +kernel
theorem dX11_mark_0 : decode cX11_mark 0 = .ok (.aload_n 0, 1) := by decide +kernel
theorem dX11_mark_1 : decode cX11_mark 1 = .ok (.iload_n 1, 1) := by decide +kernel
theorem dX11_mark_2 : decode cX11_mark 2 = .ok (.invokevirtual 157, 3) := by decide +kernel
theorem dX11_mark_5 : decode cX11_mark 5 = .ok (.ifCond .eq 23, 3) := by decide +kernel
theorem dX11_mark_8 : decode cX11_mark 8 = .ok (.iload_n 2, 1) := by decide +kernel
theorem dX11_mark_9 : decode cX11_mark 9 = .ok (.iconst 0, 1) := by decide +kernel
theorem dX11_mark_10 : decode cX11_mark 10 = .ok (.bipush 9, 2) := by decide +kernel
theorem dX11_mark_12 : decode cX11_mark 12 = .ok (.invokestatic 91, 3) := by decide +kernel
theorem dX11_mark_15 : decode cX11_mark 15 = .ok (.ifCond .eq 13, 3) := by decide +kernel
theorem dX11_mark_18 : decode cX11_mark 18 = .ok (.iload_n 3, 1) := by decide +kernel
theorem dX11_mark_19 : decode cX11_mark 19 = .ok (.iconst 0, 1) := by decide +kernel
theorem dX11_mark_20 : decode cX11_mark 20 = .ok (.bipush 9, 2) := by decide +kernel
theorem dX11_mark_22 : decode cX11_mark 22 = .ok (.invokestatic 91, 3) := by decide +kernel
theorem dX11_mark_25 : decode cX11_mark 25 = .ok (.ifCond .ne 8, 3) := by decide +kernel
theorem dX11_mark_28 : decode cX11_mark 28 = .ok (.aload_n 0, 1) := by decide +kernel
theorem dX11_mark_29 : decode cX11_mark 29 = .ok (.invokevirtual 95, 3) := by decide +kernel
theorem dX11_mark_32 : decode cX11_mark 32 = .ok (.ireturn, 1) := by decide +kernel
theorem dX11_mark_33 : decode cX11_mark 33 = .ok (.iload 4, 2) := by decide +kernel
theorem dX11_mark_35 : decode cX11_mark 35 = .ok (.iconst 0, 1) := by decide +kernel
theorem dX11_mark_36 : decode cX11_mark 36 = .ok (.bipush 99, 2) := by decide +kernel
theorem dX11_mark_38 : decode cX11_mark 38 = .ok (.invokestatic 91, 3) := by decide +kernel
theorem dX11_mark_41 : decode cX11_mark 41 = .ok (.ifCond .eq 14, 3) := by decide +kernel
theorem dX11_mark_44 : decode cX11_mark 44 = .ok (.iload 5, 2) := by decide +kernel
theorem dX11_mark_46 : decode cX11_mark 46 = .ok (.iconst 0, 1) := by decide +kernel
theorem dX11_mark_47 : decode cX11_mark 47 = .ok (.bipush 99, 2) := by decide +kernel
theorem dX11_mark_49 : decode cX11_mark 49 = .ok (.invokestatic 91, 3) := by decide +kernel
theorem dX11_mark_52 : decode cX11_mark 52 = .ok (.ifCond .ne 8, 3) := by decide +kernel
theorem dX11_mark_55 : decode cX11_mark 55 = .ok (.aload_n 0, 1) := by decide +kernel
theorem dX11_mark_56 : decode cX11_mark 56 = .ok (.invokevirtual 95, 3) := by decide +kernel
theorem dX11_mark_59 : decode cX11_mark 59 = .ok (.ireturn, 1) := by decide +kernel
theorem dX11_mark_60 : decode cX11_mark 60 = .ok (.aload_n 0, 1) := by decide +kernel
theorem dX11_mark_61 : decode cX11_mark 61 = .ok (.getfield 10, 3) := by decide +kernel
theorem dX11_mark_64 : decode cX11_mark 64 = .ok (.getfield 283, 3) := by decide +kernel
theorem dX11_mark_67 : decode cX11_mark 67 = .ok (.astore 6, 2) := by decide +kernel
theorem dX11_mark_69 : decode cX11_mark 69 = .ok (.aload 6, 2) := by decide +kernel
theorem dX11_mark_71 : decode cX11_mark 71 = .ok (.invokevirtual 263, 3) := by decide +kernel
theorem dX11_mark_74 : decode cX11_mark 74 = .ok (.ifCond .eq 8, 3) := by decide +kernel
theorem dX11_mark_77 : decode cX11_mark 77 = .ok (.aload_n 0, 1) := by decide +kernel
theorem dX11_mark_78 : decode cX11_mark 78 = .ok (.invokevirtual 130, 3) := by decide +kernel
theorem dX11_mark_81 : decode cX11_mark 81 = .ok (.ireturn, 1) := by decide +kernel
theorem dX11_mark_82 : decode cX11_mark 82 = .ok (.aload 6, 2) := by decide +kernel
theorem dX11_mark_84 : decode cX11_mark 84 = .ok (.iconst 0, 1) := by decide +kernel
theorem dX11_mark_85 : decode cX11_mark 85 = .ok (.iload_n 1, 1) := by decide +kernel
theorem dX11_mark_86 : decode cX11_mark 86 = .ok (.invokevirtual 268, 3) := by decide +kernel
theorem dX11_mark_89 : decode cX11_mark 89 = .ok (.aload 6, 2) := by decide +kernel
theorem dX11_mark_91 : decode cX11_mark 91 = .ok (.iconst 1, 1) := by decide +kernel
theorem dX11_mark_92 : decode cX11_mark 92 = .ok (.iload_n 2, 1) := by decide +kernel
theorem dX11_mark_93 : decode cX11_mark 93 = .ok (.invokevirtual 268, 3) := by decide +kernel
theorem dX11_mark_96 : decode cX11_mark 96 = .ok (.aload 6, 2) := by decide +kernel
theorem dX11_mark_98 : decode cX11_mark 98 = .ok (.iconst 2, 1) := by decide +kernel
theorem dX11_mark_99 : decode cX11_mark 99 = .ok (.iload_n 3, 1) := by decide +kernel
theorem dX11_mark_100 : decode cX11_mark 100 = .ok (.invokevirtual 268, 3) := by decide +kernel
theorem dX11_mark_103 : decode cX11_mark 103 = .ok (.aload 6, 2) := by decide +kernel
theorem dX11_mark_105 : decode cX11_mark 105 = .ok (.iconst 3, 1) := by decide +kernel
theorem dX11_mark_106 : decode cX11_mark 106 = .ok (.iload 4, 2) := by decide +kernel
theorem dX11_mark_108 : decode cX11_mark 108 = .ok (.invokevirtual 268, 3) := by decide +kernel
theorem dX11_mark_111 : decode cX11_mark 111 = .ok (.aload 6, 2) := by decide +kernel
theorem dX11_mark_113 : decode cX11_mark 113 = .ok (.iconst 4, 1) := by decide +kernel
theorem dX11_mark_114 : decode cX11_mark 114 = .ok (.iload 5, 2) := by decide +kernel
theorem dX11_mark_116 : decode cX11_mark 116 = .ok (.invokevirtual 268, 3) := by decide +kernel
theorem dX11_mark_119 : decode cX11_mark 119 = .ok (.aload 6, 2) := by decide +kernel
theorem dX11_mark_121 : decode cX11_mark 121 = .ok (.invokevirtual 271, 3) := by decide +kernel
theorem dX11_mark_124 : decode cX11_mark 124 = .ok (.ireturn, 1) := by decide +kernel
theorem dX11_forget_0 : decode cX11_forget 0 = .ok (.iload_n 1, 1) := by decide +kernel
theorem dX11_forget_1 : decode cX11_forget 1 = .ok (.iconst 0, 1) := by decide +kernel
theorem dX11_forget_2 : decode cX11_forget 2 = .ok (.iconst 2, 1) := by decide +kernel
theorem dX11_forget_3 : decode cX11_forget 3 = .ok (.invokestatic 91, 3) := by decide +kernel
theorem dX11_forget_6 : decode cX11_forget 6 = .ok (.ifCond .ne 8, 3) := by decide +kernel
theorem dX11_forget_9 : decode cX11_forget 9 = .ok (.aload_n 0, 1) := by decide +kernel
theorem dX11_forget_10 : decode cX11_forget 10 = .ok (.invokevirtual 95, 3) := by decide +kernel
theorem dX11_forget_13 : decode cX11_forget 13 = .ok (.ireturn, 1) := by decide +kernel
theorem dX11_forget_14 : decode cX11_forget 14 = .ok (.iload_n 1, 1) := by decide +kernel
theorem dX11_forget_15 : decode cX11_forget 15 = .ok (.ifCond .ne 13, 3) := by decide +kernel
theorem dX11_forget_18 : decode cX11_forget 18 = .ok (.aload_n 0, 1) := by decide +kernel
theorem dX11_forget_19 : decode cX11_forget 19 = .ok (.getfield 10, 3) := by decide +kernel
theorem dX11_forget_22 : decode cX11_forget 22 = .ok (.getfield 259, 3) := by decide +kernel
theorem dX11_forget_25 : decode cX11_forget 25 = .ok (.goto 25, 3) := by decide +kernel
theorem dX11_forget_28 : decode cX11_forget 28 = .ok (.iload_n 1, 1) := by decide +kernel
theorem dX11_forget_29 : decode cX11_forget 29 = .ok (.iconst 1, 1) := by decide +kernel
theorem dX11_forget_30 : decode cX11_forget 30 = .ok (.if_icmp .ne 13, 3) := by decide +kernel
theorem dX11_forget_33 : decode cX11_forget 33 = .ok (.aload_n 0, 1) := by decide +kernel
theorem dX11_forget_34 : decode cX11_forget 34 = .ok (.getfield 10, 3) := by decide +kernel
theorem dX11_forget_37 : decode cX11_forget 37 = .ok (.getfield 280, 3) := by decide +kernel
theorem dX11_forget_40 : decode cX11_forget 40 = .ok (.goto 10, 3) := by decide +kernel
theorem dX11_forget_43 : decode cX11_forget 43 = .ok (.aload_n 0, 1) := by decide +kernel
theorem dX11_forget_44 : decode cX11_forget 44 = .ok (.getfield 10, 3) := by decide +kernel
theorem dX11_forget_47 : decode cX11_forget 47 = .ok (.getfield 283, 3) := by decide +kernel
theorem dX11_forget_50 : decode cX11_forget 50 = .ok (.astore_n 2, 1) := by decide +kernel
theorem dX11_forget_51 : decode cX11_forget 51 = .ok (.aload_n 2, 1) := by decide +kernel
theorem dX11_forget_52 : decode cX11_forget 52 = .ok (.getfield 286, 3) := by decide +kernel
theorem dX11_forget_55 : decode cX11_forget 55 = .ok (.istore_n 3, 1) := by decide +kernel
theorem dX11_forget_56 : decode cX11_forget 56 = .ok (.aload_n 2, 1) := by decide +kernel
theorem dX11_forget_57 : decode cX11_forget 57 = .ok (.iconst 0, 1) := by decide +kernel
theorem dX11_forget_58 : decode cX11_forget 58 = .ok (.putfield 286, 3) := by decide +kernel
theorem dX11_forget_61 : decode cX11_forget 61 = .ok (.iload_n 3, 1) := by decide +kernel
theorem dX11_forget_62 : decode cX11_forget 62 = .ok (.ireturn, 1) := by decide +kernel
theorem dX11_is_0 : decode cX11_is 0 = .ok (.aload_n 0, 1) := by decide +kernel
theorem dX11_is_1 : decode cX11_is 1 = .ok (.iload_n 1, 1) := by decide +kernel
theorem dX11_is_2 : decode cX11_is 2 = .ok (.invokevirtual 154, 3) := by decide +kernel
theorem dX11_is_5 : decode cX11_is 5 = .ok (.ifCond .eq 18, 3) := by decide +kernel
theorem dX11_is_8 : decode cX11_is 8 = .ok (.aload_n 0, 1) := by decide +kernel
theorem dX11_is_9 : decode cX11_is 9 = .ok (.getfield 62, 3) := by decide +kernel
theorem dX11_is_12 : decode cX11_is 12 = .ok (.aload_n 0, 1) := by decide +kernel
theorem dX11_is_13 : decode cX11_is 13 = .ok (.getfield 10, 3) := by decide +kernel
theorem dX11_is_16 : decode cX11_is 16 = .ok (.iload_n 1, 1) := by decide +kernel
theorem dX11_is_17 : decode cX11_is 17 = .ok (.invokevirtual 287, 3) := by decide +kernel
theorem dX11_is_20 : decode cX11_is 20 = .ok (.goto 7, 3) := by decide +kernel
theorem dX11_is_23 : decode cX11_is 23 = .ok (.aload_n 0, 1) := by decide +kernel
theorem dX11_is_24 : decode cX11_is 24 = .ok (.invokevirtual 95, 3) := by decide +kernel
theorem dX11_is_27 : decode cX11_is 27 = .ok (.ireturn, 1) := by decide +kernel
theorem dX11_look_0 : decode cX11_look 0 = .ok (.aload_n 0, 1) := by decide +kernel
theorem dX11_look_1 : decode cX11_look 1 = .ok (.iload_n 1, 1) := by decide +kernel
theorem dX11_look_2 : decode cX11_look 2 = .ok (.invokevirtual 154, 3) := by decide +kernel
theorem dX11_look_5 : decode cX11_look 5 = .ok (.ifCond .eq 18, 3) := by decide +kernel
theorem dX11_look_8 : decode cX11_look 8 = .ok (.aload_n 0, 1) := by decide +kernel
theorem dX11_look_9 : decode cX11_look 9 = .ok (.getfield 62, 3) := by decide +kernel
theorem dX11_look_12 : decode cX11_look 12 = .ok (.aload_n 0, 1) := by decide +kernel
theorem dX11_look_13 : decode cX11_look 13 = .ok (.getfield 10, 3) := by decide +kernel
theorem dX11_look_16 : decode cX11_look 16 = .ok (.iload_n 1, 1) := by decide +kernel
theorem dX11_look_17 : decode cX11_look 17 = .ok (.invokevirtual 290, 3) := by decide +kernel
theorem dX11_look_20 : decode cX11_look 20 = .ok (.goto 7, 3) := by decide +kernel
theorem dX11_look_23 : decode cX11_look 23 = .ok (.aload_n 0, 1) := by decide +kernel
theorem dX11_look_24 : decode cX11_look 24 = .ok (.invokevirtual 95, 3) := by decide +kernel
theorem dX11_look_27 : decode cX11_look 27 = .ok (.ireturn, 1) := by decide +kernel
theorem dX11_kinds_0 : decode cX11_kinds 0 = .ok (.aload_n 0, 1) := by decide +kernel
theorem dX11_kinds_1 : decode cX11_kinds 1 = .ok (.iload_n 1, 1) := by decide +kernel
theorem dX11_kinds_2 : decode cX11_kinds 2 = .ok (.invokevirtual 157, 3) := by decide +kernel
theorem dX11_kinds_5 : decode cX11_kinds 5 = .ok (.ifCond .eq 18, 3) := by decide +kernel
theorem dX11_kinds_8 : decode cX11_kinds 8 = .ok (.aload_n 0, 1) := by decide +kernel
theorem dX11_kinds_9 : decode cX11_kinds 9 = .ok (.getfield 62, 3) := by decide +kernel
theorem dX11_kinds_12 : decode cX11_kinds 12 = .ok (.aload_n 0, 1) := by decide +kernel
theorem dX11_kinds_13 : decode cX11_kinds 13 = .ok (.getfield 10, 3) := by decide +kernel
theorem dX11_kinds_16 : decode cX11_kinds 16 = .ok (.iload_n 1, 1) := by decide +kernel
theorem dX11_kinds_17 : decode cX11_kinds 17 = .ok (.invokevirtual 293, 3) := by decide +kernel
theorem dX11_kinds_20 : decode cX11_kinds 20 = .ok (.goto 7, 3) := by decide +kernel
theorem dX11_kinds_23 : decode cX11_kinds 23 = .ok (.aload_n 0, 1) := by decide +kernel
theorem dX11_kinds_24 : decode cX11_kinds 24 = .ok (.invokevirtual 95, 3) := by decide +kernel
theorem dX11_kinds_27 : decode cX11_kinds 27 = .ok (.ireturn, 1) := by decide +kernel
theorem dX11_ask_0 : decode cX11_ask 0 = .ok (.aload_n 0, 1) := by decide +kernel
theorem dX11_ask_1 : decode cX11_ask 1 = .ok (.iload_n 1, 1) := by decide +kernel
theorem dX11_ask_2 : decode cX11_ask 2 = .ok (.invokevirtual 157, 3) := by decide +kernel
theorem dX11_ask_5 : decode cX11_ask 5 = .ok (.ifCond .eq 18, 3) := by decide +kernel
theorem dX11_ask_8 : decode cX11_ask 8 = .ok (.aload_n 0, 1) := by decide +kernel
theorem dX11_ask_9 : decode cX11_ask 9 = .ok (.getfield 62, 3) := by decide +kernel
theorem dX11_ask_12 : decode cX11_ask 12 = .ok (.aload_n 0, 1) := by decide +kernel
theorem dX11_ask_13 : decode cX11_ask 13 = .ok (.getfield 10, 3) := by decide +kernel
theorem dX11_ask_16 : decode cX11_ask 16 = .ok (.iload_n 1, 1) := by decide +kernel
theorem dX11_ask_17 : decode cX11_ask 17 = .ok (.invokevirtual 296, 3) := by decide +kernel
theorem dX11_ask_20 : decode cX11_ask 20 = .ok (.goto 7, 3) := by decide +kernel
theorem dX11_ask_23 : decode cX11_ask 23 = .ok (.aload_n 0, 1) := by decide +kernel
theorem dX11_ask_24 : decode cX11_ask 24 = .ok (.invokevirtual 95, 3) := by decide +kernel
theorem dX11_ask_27 : decode cX11_ask 27 = .ok (.ireturn, 1) := by decide +kernel
theorem dX11_lamp_0 : decode cX11_lamp 0 = .ok (.aload_n 0, 1) := by decide +kernel
theorem dX11_lamp_1 : decode cX11_lamp 1 = .ok (.iload_n 1, 1) := by decide +kernel
theorem dX11_lamp_2 : decode cX11_lamp 2 = .ok (.invokevirtual 154, 3) := by decide +kernel
theorem dX11_lamp_5 : decode cX11_lamp 5 = .ok (.ifCond .eq 16, 3) := by decide +kernel
theorem dX11_lamp_8 : decode cX11_lamp 8 = .ok (.aload_n 0, 1) := by decide +kernel
theorem dX11_lamp_9 : decode cX11_lamp 9 = .ok (.iload_n 2, 1) := by decide +kernel
theorem dX11_lamp_10 : decode cX11_lamp 10 = .ok (.invokevirtual 157, 3) := by decide +kernel
theorem dX11_lamp_13 : decode cX11_lamp 13 = .ok (.ifCond .eq 8, 3) := by decide +kernel
theorem dX11_lamp_16 : decode cX11_lamp 16 = .ok (.iload_n 3, 1) := by decide +kernel
theorem dX11_lamp_17 : decode cX11_lamp 17 = .ok (.iconst (-1), 1) := by decide +kernel
theorem dX11_lamp_18 : decode cX11_lamp 18 = .ok (.if_icmp .ge 8, 3) := by decide +kernel
theorem dX11_lamp_21 : decode cX11_lamp 21 = .ok (.aload_n 0, 1) := by decide +kernel
theorem dX11_lamp_22 : decode cX11_lamp 22 = .ok (.invokevirtual 222, 3) := by decide +kernel
theorem dX11_lamp_25 : decode cX11_lamp 25 = .ok (.ireturn, 1) := by decide +kernel
theorem dX11_lamp_26 : decode cX11_lamp 26 = .ok (.aload_n 0, 1) := by decide +kernel
theorem dX11_lamp_27 : decode cX11_lamp 27 = .ok (.getfield 69, 3) := by decide +kernel
theorem dX11_lamp_30 : decode cX11_lamp 30 = .ok (.aload_n 0, 1) := by decide +kernel
theorem dX11_lamp_31 : decode cX11_lamp 31 = .ok (.getfield 10, 3) := by decide +kernel
theorem dX11_lamp_34 : decode cX11_lamp 34 = .ok (.getfield 160, 3) := by decide +kernel
theorem dX11_lamp_37 : decode cX11_lamp 37 = .ok (.iload_n 1, 1) := by decide +kernel
theorem dX11_lamp_38 : decode cX11_lamp 38 = .ok (.aaload, 1) := by decide +kernel
theorem dX11_lamp_39 : decode cX11_lamp 39 = .ok (.aload_n 0, 1) := by decide +kernel
theorem dX11_lamp_40 : decode cX11_lamp 40 = .ok (.getfield 10, 3) := by decide +kernel
theorem dX11_lamp_43 : decode cX11_lamp 43 = .ok (.getfield 174, 3) := by decide +kernel
theorem dX11_lamp_46 : decode cX11_lamp 46 = .ok (.iload_n 2, 1) := by decide +kernel
theorem dX11_lamp_47 : decode cX11_lamp 47 = .ok (.aaload, 1) := by decide +kernel
theorem dX11_lamp_48 : decode cX11_lamp 48 = .ok (.invokevirtual 299, 3) := by decide +kernel
theorem dX11_lamp_51 : decode cX11_lamp 51 = .ok (.iload_n 3, 1) := by decide +kernel
theorem dX11_lamp_52 : decode cX11_lamp 52 = .ok (.iconst (-1), 1) := by decide +kernel
theorem dX11_lamp_53 : decode cX11_lamp 53 = .ok (.if_icmp .ne 11, 3) := by decide +kernel
theorem dX11_lamp_56 : decode cX11_lamp 56 = .ok (.aload_n 0, 1) := by decide +kernel
theorem dX11_lamp_57 : decode cX11_lamp 57 = .ok (.getfield 69, 3) := by decide +kernel
theorem dX11_lamp_60 : decode cX11_lamp 60 = .ok (.getfield 302, 3) := by decide +kernel
theorem dX11_lamp_63 : decode cX11_lamp 63 = .ok (.ireturn, 1) := by decide +kernel
theorem dX11_lamp_64 : decode cX11_lamp 64 = .ok (.iload_n 3, 1) := by decide +kernel
theorem dX11_lamp_65 : decode cX11_lamp 65 = .ok (.aload_n 0, 1) := by decide +kernel
theorem dX11_lamp_66 : decode cX11_lamp 66 = .ok (.getfield 69, 3) := by decide +kernel
theorem dX11_lamp_69 : decode cX11_lamp 69 = .ok (.getfield 302, 3) := by decide +kernel
theorem dX11_lamp_72 : decode cX11_lamp 72 = .ok (.if_icmp .ge 15, 3) := by decide +kernel
theorem dX11_lamp_75 : decode cX11_lamp 75 = .ok (.aload_n 0, 1) := by decide +kernel
theorem dX11_lamp_76 : decode cX11_lamp 76 = .ok (.getfield 69, 3) := by decide +kernel
theorem dX11_lamp_79 : decode cX11_lamp 79 = .ok (.getfield 303, 3) := by decide +kernel
theorem dX11_lamp_82 : decode cX11_lamp 82 = .ok (.iload_n 3, 1) := by decide +kernel
theorem dX11_lamp_83 : decode cX11_lamp 83 = .ok (.iaload, 1) := by decide +kernel
theorem dX11_lamp_84 : decode cX11_lamp 84 = .ok (.goto 5, 3) := by decide +kernel
theorem dX11_lamp_87 : decode cX11_lamp 87 = .ok (.bipush (-5), 2) := by decide +kernel
theorem dX11_lamp_89 : decode cX11_lamp 89 = .ok (.ireturn, 1) := by decide +kernel
theorem dX11_odds_0 : decode cX11_odds 0 = .ok (.aload_n 0, 1) := by decide +kernel
theorem dX11_odds_1 : decode cX11_odds 1 = .ok (.iload_n 1, 1) := by decide +kernel
theorem dX11_odds_2 : decode cX11_odds 2 = .ok (.invokevirtual 154, 3) := by decide +kernel
theorem dX11_odds_5 : decode cX11_odds 5 = .ok (.ifCond .eq 32, 3) := by decide +kernel
theorem dX11_odds_8 : decode cX11_odds 8 = .ok (.aload_n 0, 1) := by decide +kernel
theorem dX11_odds_9 : decode cX11_odds 9 = .ok (.iload_n 2, 1) := by decide +kernel
theorem dX11_odds_10 : decode cX11_odds 10 = .ok (.invokevirtual 157, 3) := by decide +kernel
theorem dX11_odds_13 : decode cX11_odds 13 = .ok (.ifCond .eq 24, 3) := by decide +kernel
theorem dX11_odds_16 : decode cX11_odds 16 = .ok (.iload_n 3, 1) := by decide +kernel
theorem dX11_odds_17 : decode cX11_odds 17 = .ok (.iconst 0, 1) := by decide +kernel
theorem dX11_odds_18 : decode cX11_odds 18 = .ok (.bipush 40, 2) := by decide +kernel
theorem dX11_odds_20 : decode cX11_odds 20 = .ok (.invokestatic 91, 3) := by decide +kernel
theorem dX11_odds_23 : decode cX11_odds 23 = .ok (.ifCond .eq 14, 3) := by decide +kernel
theorem dX11_odds_26 : decode cX11_odds 26 = .ok (.iload 4, 2) := by decide +kernel
theorem dX11_odds_28 : decode cX11_odds 28 = .ok (.iconst 0, 1) := by decide +kernel
theorem dX11_odds_29 : decode cX11_odds 29 = .ok (.bipush 10, 2) := by decide +kernel
theorem dX11_odds_31 : decode cX11_odds 31 = .ok (.invokestatic 91, 3) := by decide +kernel
theorem dX11_odds_34 : decode cX11_odds 34 = .ok (.ifCond .ne 8, 3) := by decide +kernel
theorem dX11_odds_37 : decode cX11_odds 37 = .ok (.aload_n 0, 1) := by decide +kernel
theorem dX11_odds_38 : decode cX11_odds 38 = .ok (.invokevirtual 95, 3) := by decide +kernel
theorem dX11_odds_41 : decode cX11_odds 41 = .ok (.ireturn, 1) := by decide +kernel
theorem dX11_odds_42 : decode cX11_odds 42 = .ok (.aload_n 0, 1) := by decide +kernel
theorem dX11_odds_43 : decode cX11_odds 43 = .ok (.getfield 48, 3) := by decide +kernel
theorem dX11_odds_46 : decode cX11_odds 46 = .ok (.aload_n 0, 1) := by decide +kernel
theorem dX11_odds_47 : decode cX11_odds 47 = .ok (.getfield 10, 3) := by decide +kernel
theorem dX11_odds_50 : decode cX11_odds 50 = .ok (.aload_n 0, 1) := by decide +kernel
theorem dX11_odds_51 : decode cX11_odds 51 = .ok (.getfield 10, 3) := by decide +kernel
theorem dX11_odds_54 : decode cX11_odds 54 = .ok (.getfield 160, 3) := by decide +kernel
theorem dX11_odds_57 : decode cX11_odds 57 = .ok (.iload_n 1, 1) := by decide +kernel
theorem dX11_odds_58 : decode cX11_odds 58 = .ok (.aaload, 1) := by decide +kernel
theorem dX11_odds_59 : decode cX11_odds 59 = .ok (.aload_n 0, 1) := by decide +kernel
theorem dX11_odds_60 : decode cX11_odds 60 = .ok (.getfield 10, 3) := by decide +kernel
theorem dX11_odds_63 : decode cX11_odds 63 = .ok (.getfield 174, 3) := by decide +kernel
theorem dX11_odds_66 : decode cX11_odds 66 = .ok (.iload_n 2, 1) := by decide +kernel
theorem dX11_odds_67 : decode cX11_odds 67 = .ok (.aaload, 1) := by decide +kernel
theorem dX11_odds_68 : decode cX11_odds 68 = .ok (.invokevirtual 225, 3) := by decide +kernel
theorem dX11_odds_71 : decode cX11_odds 71 = .ok (.aload_n 0, 1) := by decide +kernel
theorem dX11_odds_72 : decode cX11_odds 72 = .ok (.getfield 48, 3) := by decide +kernel
theorem dX11_odds_75 : decode cX11_odds 75 = .ok (.getfield 229, 3) := by decide +kernel
theorem dX11_odds_78 : decode cX11_odds 78 = .ok (.ifCond .ne 8, 3) := by decide +kernel
theorem dX11_odds_81 : decode cX11_odds 81 = .ok (.aload_n 0, 1) := by decide +kernel
theorem dX11_odds_82 : decode cX11_odds 82 = .ok (.invokevirtual 168, 3) := by decide +kernel
theorem dX11_odds_85 : decode cX11_odds 85 = .ok (.ireturn, 1) := by decide +kernel
theorem dX11_odds_86 : decode cX11_odds 86 = .ok (.aload_n 0, 1) := by decide +kernel
theorem dX11_odds_87 : decode cX11_odds 87 = .ok (.getfield 76, 3) := by decide +kernel
theorem dX11_odds_90 : decode cX11_odds 90 = .ok (.aload_n 0, 1) := by decide +kernel
theorem dX11_odds_91 : decode cX11_odds 91 = .ok (.getfield 10, 3) := by decide +kernel
theorem dX11_odds_94 : decode cX11_odds 94 = .ok (.aload_n 0, 1) := by decide +kernel
theorem dX11_odds_95 : decode cX11_odds 95 = .ok (.getfield 10, 3) := by decide +kernel
theorem dX11_odds_98 : decode cX11_odds 98 = .ok (.getfield 160, 3) := by decide +kernel
theorem dX11_odds_101 : decode cX11_odds 101 = .ok (.iload_n 1, 1) := by decide +kernel
theorem dX11_odds_102 : decode cX11_odds 102 = .ok (.aaload, 1) := by decide +kernel
theorem dX11_odds_103 : decode cX11_odds 103 = .ok (.aload_n 0, 1) := by decide +kernel
theorem dX11_odds_104 : decode cX11_odds 104 = .ok (.getfield 10, 3) := by decide +kernel
theorem dX11_odds_107 : decode cX11_odds 107 = .ok (.getfield 174, 3) := by decide +kernel
theorem dX11_odds_110 : decode cX11_odds 110 = .ok (.iload_n 2, 1) := by decide +kernel
theorem dX11_odds_111 : decode cX11_odds 111 = .ok (.aaload, 1) := by decide +kernel
theorem dX11_odds_112 : decode cX11_odds 112 = .ok (.aload_n 0, 1) := by decide +kernel
theorem dX11_odds_113 : decode cX11_odds 113 = .ok (.getfield 48, 3) := by decide +kernel
theorem dX11_odds_116 : decode cX11_odds 116 = .ok (.iload_n 3, 1) := by decide +kernel
theorem dX11_odds_117 : decode cX11_odds 117 = .ok (.iload 4, 2) := by decide +kernel
theorem dX11_odds_119 : decode cX11_odds 119 = .ok (.invokevirtual 306, 3) := by decide +kernel
theorem dX11_odds_122 : decode cX11_odds 122 = .ok (.iconst 1, 1) := by decide +kernel
theorem dX11_odds_123 : decode cX11_odds 123 = .ok (.ireturn, 1) := by decide +kernel
theorem dX11_mean_0 : decode cX11_mean 0 = .ok (.aload_n 0, 1) := by decide +kernel
theorem dX11_mean_1 : decode cX11_mean 1 = .ok (.iload_n 1, 1) := by decide +kernel
theorem dX11_mean_2 : decode cX11_mean 2 = .ok (.invokevirtual 154, 3) := by decide +kernel
theorem dX11_mean_5 : decode cX11_mean 5 = .ok (.ifCond .eq 21, 3) := by decide +kernel
theorem dX11_mean_8 : decode cX11_mean 8 = .ok (.aload_n 0, 1) := by decide +kernel
theorem dX11_mean_9 : decode cX11_mean 9 = .ok (.iload_n 2, 1) := by decide +kernel
theorem dX11_mean_10 : decode cX11_mean 10 = .ok (.invokevirtual 157, 3) := by decide +kernel
theorem dX11_mean_13 : decode cX11_mean 13 = .ok (.ifCond .eq 13, 3) := by decide +kernel
theorem dX11_mean_16 : decode cX11_mean 16 = .ok (.iload_n 3, 1) := by decide +kernel
theorem dX11_mean_17 : decode cX11_mean 17 = .ok (.iconst 0, 1) := by decide +kernel
theorem dX11_mean_18 : decode cX11_mean 18 = .ok (.bipush 10, 2) := by decide +kernel
theorem dX11_mean_20 : decode cX11_mean 20 = .ok (.invokestatic 91, 3) := by decide +kernel
theorem dX11_mean_23 : decode cX11_mean 23 = .ok (.ifCond .ne 8, 3) := by decide +kernel
theorem dX11_mean_26 : decode cX11_mean 26 = .ok (.aload_n 0, 1) := by decide +kernel
theorem dX11_mean_27 : decode cX11_mean 27 = .ok (.invokevirtual 95, 3) := by decide +kernel
theorem dX11_mean_30 : decode cX11_mean 30 = .ok (.ireturn, 1) := by decide +kernel
theorem dX11_mean_31 : decode cX11_mean 31 = .ok (.aload_n 0, 1) := by decide +kernel
theorem dX11_mean_32 : decode cX11_mean 32 = .ok (.getfield 48, 3) := by decide +kernel
theorem dX11_mean_35 : decode cX11_mean 35 = .ok (.aload_n 0, 1) := by decide +kernel
theorem dX11_mean_36 : decode cX11_mean 36 = .ok (.getfield 10, 3) := by decide +kernel
theorem dX11_mean_39 : decode cX11_mean 39 = .ok (.aload_n 0, 1) := by decide +kernel
theorem dX11_mean_40 : decode cX11_mean 40 = .ok (.getfield 10, 3) := by decide +kernel
theorem dX11_mean_43 : decode cX11_mean 43 = .ok (.getfield 160, 3) := by decide +kernel
theorem dX11_mean_46 : decode cX11_mean 46 = .ok (.iload_n 1, 1) := by decide +kernel
theorem dX11_mean_47 : decode cX11_mean 47 = .ok (.aaload, 1) := by decide +kernel
theorem dX11_mean_48 : decode cX11_mean 48 = .ok (.aload_n 0, 1) := by decide +kernel
theorem dX11_mean_49 : decode cX11_mean 49 = .ok (.getfield 10, 3) := by decide +kernel
theorem dX11_mean_52 : decode cX11_mean 52 = .ok (.getfield 174, 3) := by decide +kernel
theorem dX11_mean_55 : decode cX11_mean 55 = .ok (.iload_n 2, 1) := by decide +kernel
theorem dX11_mean_56 : decode cX11_mean 56 = .ok (.aaload, 1) := by decide +kernel
theorem dX11_mean_57 : decode cX11_mean 57 = .ok (.invokevirtual 225, 3) := by decide +kernel
theorem dX11_mean_60 : decode cX11_mean 60 = .ok (.aload_n 0, 1) := by decide +kernel
theorem dX11_mean_61 : decode cX11_mean 61 = .ok (.getfield 48, 3) := by decide +kernel
theorem dX11_mean_64 : decode cX11_mean 64 = .ok (.getfield 229, 3) := by decide +kernel
theorem dX11_mean_67 : decode cX11_mean 67 = .ok (.ifCond .ne 8, 3) := by decide +kernel
theorem dX11_mean_70 : decode cX11_mean 70 = .ok (.aload_n 0, 1) := by decide +kernel
theorem dX11_mean_71 : decode cX11_mean 71 = .ok (.invokevirtual 168, 3) := by decide +kernel
theorem dX11_mean_74 : decode cX11_mean 74 = .ok (.ireturn, 1) := by decide +kernel
theorem dX11_mean_75 : decode cX11_mean 75 = .ok (.aload_n 0, 1) := by decide +kernel
theorem dX11_mean_76 : decode cX11_mean 76 = .ok (.getfield 76, 3) := by decide +kernel
theorem dX11_mean_79 : decode cX11_mean 79 = .ok (.aload_n 0, 1) := by decide +kernel
theorem dX11_mean_80 : decode cX11_mean 80 = .ok (.getfield 10, 3) := by decide +kernel
theorem dX11_mean_83 : decode cX11_mean 83 = .ok (.aload_n 0, 1) := by decide +kernel
theorem dX11_mean_84 : decode cX11_mean 84 = .ok (.getfield 10, 3) := by decide +kernel
theorem dX11_mean_87 : decode cX11_mean 87 = .ok (.getfield 160, 3) := by decide +kernel
theorem dX11_mean_90 : decode cX11_mean 90 = .ok (.iload_n 1, 1) := by decide +kernel
theorem dX11_mean_91 : decode cX11_mean 91 = .ok (.aaload, 1) := by decide +kernel
theorem dX11_mean_92 : decode cX11_mean 92 = .ok (.aload_n 0, 1) := by decide +kernel
theorem dX11_mean_93 : decode cX11_mean 93 = .ok (.getfield 10, 3) := by decide +kernel
theorem dX11_mean_96 : decode cX11_mean 96 = .ok (.getfield 174, 3) := by decide +kernel
theorem dX11_mean_99 : decode cX11_mean 99 = .ok (.iload_n 2, 1) := by decide +kernel
theorem dX11_mean_100 : decode cX11_mean 100 = .ok (.aaload, 1) := by decide +kernel
theorem dX11_mean_101 : decode cX11_mean 101 = .ok (.aload_n 0, 1) := by decide +kernel
theorem dX11_mean_102 : decode cX11_mean 102 = .ok (.getfield 48, 3) := by decide +kernel
theorem dX11_mean_105 : decode cX11_mean 105 = .ok (.iload_n 3, 1) := by decide +kernel
theorem dX11_mean_106 : decode cX11_mean 106 = .ok (.invokevirtual 310, 3) := by decide +kernel
theorem dX11_mean_109 : decode cX11_mean 109 = .ok (.iconst 1, 1) := by decide +kernel
theorem dX11_mean_110 : decode cX11_mean 110 = .ok (.ireturn, 1) := by decide +kernel
theorem dX11_nights_0 : decode cX11_nights 0 = .ok (.iload_n 1, 1) := by decide +kernel
theorem dX11_nights_1 : decode cX11_nights 1 = .ok (.iconst 0, 1) := by decide +kernel
theorem dX11_nights_2 : decode cX11_nights 2 = .ok (.ldc_w 314, 3) := by decide +kernel
theorem dX11_nights_5 : decode cX11_nights 5 = .ok (.invokestatic 91, 3) := by decide +kernel
theorem dX11_nights_8 : decode cX11_nights 8 = .ok (.ifCond .eq 13, 3) := by decide +kernel
theorem dX11_nights_11 : decode cX11_nights 11 = .ok (.iload_n 2, 1) := by decide +kernel
theorem dX11_nights_12 : decode cX11_nights 12 = .ok (.iconst 0, 1) := by decide +kernel
theorem dX11_nights_13 : decode cX11_nights 13 = .ok (.bipush 60, 2) := by decide +kernel
theorem dX11_nights_15 : decode cX11_nights 15 = .ok (.invokestatic 91, 3) := by decide +kernel
theorem dX11_nights_18 : decode cX11_nights 18 = .ok (.ifCond .ne 8, 3) := by decide +kernel
theorem dX11_nights_21 : decode cX11_nights 21 = .ok (.aload_n 0, 1) := by decide +kernel
theorem dX11_nights_22 : decode cX11_nights 22 = .ok (.invokevirtual 95, 3) := by decide +kernel
theorem dX11_nights_25 : decode cX11_nights 25 = .ok (.ireturn, 1) := by decide +kernel
theorem dX11_nights_26 : decode cX11_nights 26 = .ok (.aload_n 0, 1) := by decide +kernel
theorem dX11_nights_27 : decode cX11_nights 27 = .ok (.getfield 16, 3) := by decide +kernel
theorem dX11_nights_30 : decode cX11_nights 30 = .ok (.aload_n 0, 1) := by decide +kernel
theorem dX11_nights_31 : decode cX11_nights 31 = .ok (.getfield 10, 3) := by decide +kernel
theorem dX11_nights_34 : decode cX11_nights 34 = .ok (.invokevirtual 150, 3) := by decide +kernel
theorem dX11_nights_37 : decode cX11_nights 37 = .ok (.iload_n 1, 1) := by decide +kernel
theorem dX11_nights_38 : decode cX11_nights 38 = .ok (.i2l, 1) := by decide +kernel
theorem dX11_nights_39 : decode cX11_nights 39 = .ok (.lstore_n 3, 1) := by decide +kernel
theorem dX11_nights_40 : decode cX11_nights 40 = .ok (.iconst 0, 1) := by decide +kernel
theorem dX11_nights_41 : decode cX11_nights 41 = .ok (.istore 5, 2) := by decide +kernel
theorem dX11_nights_43 : decode cX11_nights 43 = .ok (.iload 5, 2) := by decide +kernel
theorem dX11_nights_45 : decode cX11_nights 45 = .ok (.iload_n 2, 1) := by decide +kernel
theorem dX11_nights_46 : decode cX11_nights 46 = .ok (.if_icmp .ge 60, 3) := by decide +kernel
theorem dX11_nights_49 : decode cX11_nights 49 = .ok (.lload_n 3, 1) := by decide +kernel
theorem dX11_nights_50 : decode cX11_nights 50 = .ok (.ldc2_w 315, 3) := by decide +kernel
theorem dX11_nights_53 : decode cX11_nights 53 = .ok (.lmul, 1) := by decide +kernel
theorem dX11_nights_54 : decode cX11_nights 54 = .ok (.ldc2_w 317, 3) := by decide +kernel
theorem dX11_nights_57 : decode cX11_nights 57 = .ok (.ladd, 1) := by decide +kernel
theorem dX11_nights_58 : decode cX11_nights 58 = .ok (.ldc2_w 319, 3) := by decide +kernel
theorem dX11_nights_61 : decode cX11_nights 61 = .ok (.lrem, 1) := by decide +kernel
theorem dX11_nights_62 : decode cX11_nights 62 = .ok (.lstore_n 3, 1) := by decide +kernel
theorem dX11_nights_63 : decode cX11_nights 63 = .ok (.aload_n 0, 1) := by decide +kernel
theorem dX11_nights_64 : decode cX11_nights 64 = .ok (.getfield 16, 3) := by decide +kernel
theorem dX11_nights_67 : decode cX11_nights 67 = .ok (.lload_n 3, 1) := by decide +kernel
theorem dX11_nights_68 : decode cX11_nights 68 = .ok (.ldc2_w 321, 3) := by decide +kernel
theorem dX11_nights_71 : decode cX11_nights 71 = .ok (.ldiv, 1) := by decide +kernel
theorem dX11_nights_72 : decode cX11_nights 72 = .ok (.ldc2_w 323, 3) := by decide +kernel
theorem dX11_nights_75 : decode cX11_nights 75 = .ok (.lrem, 1) := by decide +kernel
theorem dX11_nights_76 : decode cX11_nights 76 = .ok (.l2i, 1) := by decide +kernel
theorem dX11_nights_77 : decode cX11_nights 77 = .ok (.lload_n 3, 1) := by decide +kernel
theorem dX11_nights_78 : decode cX11_nights 78 = .ok (.ldc2_w 325, 3) := by decide +kernel
theorem dX11_nights_81 : decode cX11_nights 81 = .ok (.ldiv, 1) := by decide +kernel
theorem dX11_nights_82 : decode cX11_nights 82 = .ok (.ldc2_w 327, 3) := by decide +kernel
theorem dX11_nights_85 : decode cX11_nights 85 = .ok (.lrem, 1) := by decide +kernel
theorem dX11_nights_86 : decode cX11_nights 86 = .ok (.l2i, 1) := by decide +kernel
theorem dX11_nights_87 : decode cX11_nights 87 = .ok (.lload_n 3, 1) := by decide +kernel
theorem dX11_nights_88 : decode cX11_nights 88 = .ok (.ldc2_w 329, 3) := by decide +kernel
theorem dX11_nights_91 : decode cX11_nights 91 = .ok (.ldiv, 1) := by decide +kernel
theorem dX11_nights_92 : decode cX11_nights 92 = .ok (.ldc2_w 331, 3) := by decide +kernel
theorem dX11_nights_95 : decode cX11_nights 95 = .ok (.lrem, 1) := by decide +kernel
theorem dX11_nights_96 : decode cX11_nights 96 = .ok (.l2i, 1) := by decide +kernel
theorem dX11_nights_97 : decode cX11_nights 97 = .ok (.invokevirtual 333, 3) := by decide +kernel
theorem dX11_nights_100 : decode cX11_nights 100 = .ok (.iinc 5 1, 3) := by decide +kernel
theorem dX11_nights_103 : decode cX11_nights 103 = .ok (.goto (-60), 3) := by decide +kernel
theorem dX11_nights_106 : decode cX11_nights 106 = .ok (.aload_n 0, 1) := by decide +kernel
theorem dX11_nights_107 : decode cX11_nights 107 = .ok (.getfield 16, 3) := by decide +kernel
theorem dX11_nights_110 : decode cX11_nights 110 = .ok (.invokevirtual 336, 3) := by decide +kernel
theorem dX11_nights_113 : decode cX11_nights 113 = .ok (.invokestatic 339, 3) := by decide +kernel
theorem dX11_nights_116 : decode cX11_nights 116 = .ok (.ireturn, 1) := by decide +kernel
theorem dX11_part_0 : decode cX11_part 0 = .ok (.iload_n 1, 1) := by decide +kernel
theorem dX11_part_1 : decode cX11_part 1 = .ok (.iconst 0, 1) := by decide +kernel
theorem dX11_part_2 : decode cX11_part 2 = .ok (.iconst 1, 1) := by decide +kernel
theorem dX11_part_3 : decode cX11_part 3 = .ok (.invokestatic 91, 3) := by decide +kernel
theorem dX11_part_6 : decode cX11_part 6 = .ok (.ifCond .ne 9, 3) := by decide +kernel
theorem dX11_part_9 : decode cX11_part 9 = .ok (.aload_n 0, 1) := by decide +kernel
theorem dX11_part_10 : decode cX11_part 10 = .ok (.invokevirtual 95, 3) := by decide +kernel
theorem dX11_part_13 : decode cX11_part 13 = .ok (.i2l, 1) := by decide +kernel
theorem dX11_part_14 : decode cX11_part 14 = .ok (.lreturn, 1) := by decide +kernel
theorem dX11_part_15 : decode cX11_part 15 = .ok (.iload_n 1, 1) := by decide +kernel
theorem dX11_part_16 : decode cX11_part 16 = .ok (.ifCond .ne 13, 3) := by decide +kernel
theorem dX11_part_19 : decode cX11_part 19 = .ok (.aload_n 0, 1) := by decide +kernel
theorem dX11_part_20 : decode cX11_part 20 = .ok (.getfield 76, 3) := by decide +kernel
theorem dX11_part_23 : decode cX11_part 23 = .ok (.getfield 344, 3) := by decide +kernel
theorem dX11_part_26 : decode cX11_part 26 = .ok (.goto 10, 3) := by decide +kernel
theorem dX11_part_29 : decode cX11_part 29 = .ok (.aload_n 0, 1) := by decide +kernel
theorem dX11_part_30 : decode cX11_part 30 = .ok (.getfield 76, 3) := by decide +kernel
theorem dX11_part_33 : decode cX11_part 33 = .ok (.getfield 348, 3) := by decide +kernel
theorem dX11_part_36 : decode cX11_part 36 = .ok (.lreturn, 1) := by decide +kernel
theorem dX11_image_0 : decode cX11_image 0 = .ok (.iload_n 1, 1) := by decide +kernel
theorem dX11_image_1 : decode cX11_image 1 = .ok (.iconst 0, 1) := by decide +kernel
theorem dX11_image_2 : decode cX11_image 2 = .ok (.iconst 1, 1) := by decide +kernel
theorem dX11_image_3 : decode cX11_image 3 = .ok (.invokestatic 91, 3) := by decide +kernel
theorem dX11_image_6 : decode cX11_image 6 = .ok (.ifCond .ne 8, 3) := by decide +kernel
theorem dX11_image_9 : decode cX11_image 9 = .ok (.aload_n 0, 1) := by decide +kernel
theorem dX11_image_10 : decode cX11_image 10 = .ok (.invokevirtual 95, 3) := by decide +kernel
theorem dX11_image_13 : decode cX11_image 13 = .ok (.ireturn, 1) := by decide +kernel
theorem dX11_image_14 : decode cX11_image 14 = .ok (.aload_n 0, 1) := by decide +kernel
theorem dX11_image_15 : decode cX11_image 15 = .ok (.getfield 19, 3) := by decide +kernel
theorem dX11_image_18 : decode cX11_image 18 = .ok (.iload_n 1, 1) := by decide +kernel
theorem dX11_image_19 : decode cX11_image 19 = .ok (.aaload, 1) := by decide +kernel
theorem dX11_image_20 : decode cX11_image 20 = .ok (.aload_n 0, 1) := by decide +kernel
theorem dX11_image_21 : decode cX11_image 21 = .ok (.getfield 10, 3) := by decide +kernel
theorem dX11_image_24 : decode cX11_image 24 = .ok (.invokevirtual 150, 3) := by decide +kernel
theorem dX11_image_27 : decode cX11_image 27 = .ok (.aload_n 0, 1) := by decide +kernel
theorem dX11_image_28 : decode cX11_image 28 = .ok (.getfield 23, 3) := by decide +kernel
theorem dX11_image_31 : decode cX11_image 31 = .ok (.iload_n 1, 1) := by decide +kernel
theorem dX11_image_32 : decode cX11_image 32 = .ok (.iconst 1, 1) := by decide +kernel
theorem dX11_image_33 : decode cX11_image 33 = .ok (.bastore, 1) := by decide +kernel
theorem dX11_image_34 : decode cX11_image 34 = .ok (.iconst 1, 1) := by decide +kernel
theorem dX11_image_35 : decode cX11_image 35 = .ok (.ireturn, 1) := by decide +kernel
theorem dX11_from_0 : decode cX11_from 0 = .ok (.iload_n 1, 1) := by decide +kernel
theorem dX11_from_1 : decode cX11_from 1 = .ok (.iconst 0, 1) := by decide +kernel
theorem dX11_from_2 : decode cX11_from 2 = .ok (.iconst 1, 1) := by decide +kernel
theorem dX11_from_3 : decode cX11_from 3 = .ok (.invokestatic 91, 3) := by decide +kernel
theorem dX11_from_6 : decode cX11_from 6 = .ok (.ifCond .ne 8, 3) := by decide +kernel
theorem dX11_from_9 : decode cX11_from 9 = .ok (.aload_n 0, 1) := by decide +kernel
theorem dX11_from_10 : decode cX11_from 10 = .ok (.invokevirtual 95, 3) := by decide +kernel
theorem dX11_from_13 : decode cX11_from 13 = .ok (.ireturn, 1) := by decide +kernel
theorem dX11_from_14 : decode cX11_from 14 = .ok (.aload_n 0, 1) := by decide +kernel
theorem dX11_from_15 : decode cX11_from 15 = .ok (.getfield 23, 3) := by decide +kernel
theorem dX11_from_18 : decode cX11_from 18 = .ok (.iload_n 1, 1) := by decide +kernel
theorem dX11_from_19 : decode cX11_from 19 = .ok (.baload, 1) := by decide +kernel
theorem dX11_from_20 : decode cX11_from 20 = .ok (.ifCond .ne 8, 3) := by decide +kernel
theorem dX11_from_23 : decode cX11_from 23 = .ok (.aload_n 0, 1) := by decide +kernel
theorem dX11_from_24 : decode cX11_from 24 = .ok (.invokevirtual 168, 3) := by decide +kernel
theorem dX11_from_27 : decode cX11_from 27 = .ok (.ireturn, 1) := by decide +kernel
theorem dX11_from_28 : decode cX11_from 28 = .ok (.aload_n 0, 1) := by decide +kernel
theorem dX11_from_29 : decode cX11_from 29 = .ok (.getfield 10, 3) := by decide +kernel
theorem dX11_from_32 : decode cX11_from 32 = .ok (.aload_n 0, 1) := by decide +kernel
theorem dX11_from_33 : decode cX11_from 33 = .ok (.getfield 19, 3) := by decide +kernel
theorem dX11_from_36 : decode cX11_from 36 = .ok (.iload_n 1, 1) := by decide +kernel
theorem dX11_from_37 : decode cX11_from 37 = .ok (.aaload, 1) := by decide +kernel
theorem dX11_from_38 : decode cX11_from 38 = .ok (.invokevirtual 150, 3) := by decide +kernel
theorem dX11_from_41 : decode cX11_from 41 = .ok (.iconst 1, 1) := by decide +kernel
theorem dX11_from_42 : decode cX11_from 42 = .ok (.ireturn, 1) := by decide +kernel
theorem dX11_status_0 : decode cX11_status 0 = .ok (.iload_n 1, 1) := by decide +kernel
theorem dX11_status_1 : decode cX11_status 1 = .ok (.iconst 0, 1) := by decide +kernel
theorem dX11_status_2 : decode cX11_status 2 = .ok (.iconst 2, 1) := by decide +kernel
theorem dX11_status_3 : decode cX11_status 3 = .ok (.invokestatic 91, 3) := by decide +kernel
theorem dX11_status_6 : decode cX11_status 6 = .ok (.ifCond .ne 10, 3) := by decide +kernel
theorem dX11_status_9 : decode cX11_status 9 = .ok (.aload_n 0, 1) := by decide +kernel
theorem dX11_status_10 : decode cX11_status 10 = .ok (.invokevirtual 95, 3) := by decide +kernel
theorem dX11_status_13 : decode cX11_status 13 = .ok (.pop, 1) := by decide +kernel
theorem dX11_status_14 : decode cX11_status 14 = .ok (.iconst (-1), 1) := by decide +kernel
theorem dX11_status_15 : decode cX11_status 15 = .ok (.ireturn, 1) := by decide +kernel
theorem dX11_status_16 : decode cX11_status 16 = .ok (.aload_n 0, 1) := by decide +kernel
theorem dX11_status_17 : decode cX11_status 17 = .ok (.getfield 31, 3) := by decide +kernel
theorem dX11_status_20 : decode cX11_status 20 = .ok (.iload_n 1, 1) := by decide +kernel
theorem dX11_status_21 : decode cX11_status 21 = .ok (.iaload, 1) := by decide +kernel
theorem dX11_status_22 : decode cX11_status 22 = .ok (.ireturn, 1) := by decide +kernel
theorem dX11_count_0 : decode cX11_count 0 = .ok (.iload_n 1, 1) := by decide +kernel
theorem dX11_count_1 : decode cX11_count 1 = .ok (.tableswitch 158 0 10 #[59, 67, 75, 83, 91, 100, 109, 120, 131, 142, 153], 59) := by decide +kernel
theorem dX11_count_60 : decode cX11_count 60 = .ok (.aload_n 0, 1) := by decide +kernel
theorem dX11_count_61 : decode cX11_count 61 = .ok (.getfield 10, 3) := by decide +kernel
theorem dX11_count_64 : decode cX11_count 64 = .ok (.invokevirtual 351, 3) := by decide +kernel
theorem dX11_count_67 : decode cX11_count 67 = .ok (.ireturn, 1) := by decide +kernel
theorem dX11_count_68 : decode cX11_count 68 = .ok (.aload_n 0, 1) := by decide +kernel
theorem dX11_count_69 : decode cX11_count 69 = .ok (.getfield 10, 3) := by decide +kernel
theorem dX11_count_72 : decode cX11_count 72 = .ok (.getfield 127, 3) := by decide +kernel
theorem dX11_count_75 : decode cX11_count 75 = .ok (.ireturn, 1) := by decide +kernel
theorem dX11_count_76 : decode cX11_count 76 = .ok (.aload_n 0, 1) := by decide +kernel
theorem dX11_count_77 : decode cX11_count 77 = .ok (.getfield 10, 3) := by decide +kernel
theorem dX11_count_80 : decode cX11_count 80 = .ok (.getfield 99, 3) := by decide +kernel
theorem dX11_count_83 : decode cX11_count 83 = .ok (.ireturn, 1) := by decide +kernel
theorem dX11_count_84 : decode cX11_count 84 = .ok (.aload_n 0, 1) := by decide +kernel
theorem dX11_count_85 : decode cX11_count 85 = .ok (.getfield 10, 3) := by decide +kernel
theorem dX11_count_88 : decode cX11_count 88 = .ok (.invokevirtual 336, 3) := by decide +kernel
theorem dX11_count_91 : decode cX11_count 91 = .ok (.ireturn, 1) := by decide +kernel
theorem dX11_count_92 : decode cX11_count 92 = .ok (.aload_n 0, 1) := by decide +kernel
theorem dX11_count_93 : decode cX11_count 93 = .ok (.getfield 10, 3) := by decide +kernel
theorem dX11_count_96 : decode cX11_count 96 = .ok (.iconst 2, 1) := by decide +kernel
theorem dX11_count_97 : decode cX11_count 97 = .ok (.invokevirtual 354, 3) := by decide +kernel
theorem dX11_count_100 : decode cX11_count 100 = .ok (.ireturn, 1) := by decide +kernel
theorem dX11_count_101 : decode cX11_count 101 = .ok (.aload_n 0, 1) := by decide +kernel
theorem dX11_count_102 : decode cX11_count 102 = .ok (.getfield 10, 3) := by decide +kernel
theorem dX11_count_105 : decode cX11_count 105 = .ok (.iconst 3, 1) := by decide +kernel
theorem dX11_count_106 : decode cX11_count 106 = .ok (.invokevirtual 354, 3) := by decide +kernel
theorem dX11_count_109 : decode cX11_count 109 = .ok (.ireturn, 1) := by decide +kernel
theorem dX11_count_110 : decode cX11_count 110 = .ok (.aload_n 0, 1) := by decide +kernel
theorem dX11_count_111 : decode cX11_count 111 = .ok (.getfield 10, 3) := by decide +kernel
theorem dX11_count_114 : decode cX11_count 114 = .ok (.getfield 259, 3) := by decide +kernel
theorem dX11_count_117 : decode cX11_count 117 = .ok (.getfield 286, 3) := by decide +kernel
theorem dX11_count_120 : decode cX11_count 120 = .ok (.ireturn, 1) := by decide +kernel
theorem dX11_count_121 : decode cX11_count 121 = .ok (.aload_n 0, 1) := by decide +kernel
theorem dX11_count_122 : decode cX11_count 122 = .ok (.getfield 10, 3) := by decide +kernel
theorem dX11_count_125 : decode cX11_count 125 = .ok (.getfield 280, 3) := by decide +kernel
theorem dX11_count_128 : decode cX11_count 128 = .ok (.getfield 286, 3) := by decide +kernel
theorem dX11_count_131 : decode cX11_count 131 = .ok (.ireturn, 1) := by decide +kernel
theorem dX11_count_132 : decode cX11_count 132 = .ok (.aload_n 0, 1) := by decide +kernel
theorem dX11_count_133 : decode cX11_count 133 = .ok (.getfield 10, 3) := by decide +kernel
theorem dX11_count_136 : decode cX11_count 136 = .ok (.getfield 283, 3) := by decide +kernel
theorem dX11_count_139 : decode cX11_count 139 = .ok (.getfield 286, 3) := by decide +kernel
theorem dX11_count_142 : decode cX11_count 142 = .ok (.ireturn, 1) := by decide +kernel
theorem dX11_count_143 : decode cX11_count 143 = .ok (.aload_n 0, 1) := by decide +kernel
theorem dX11_count_144 : decode cX11_count 144 = .ok (.getfield 10, 3) := by decide +kernel
theorem dX11_count_147 : decode cX11_count 147 = .ok (.getfield 110, 3) := by decide +kernel
theorem dX11_count_150 : decode cX11_count 150 = .ok (.getfield 114, 3) := by decide +kernel
theorem dX11_count_153 : decode cX11_count 153 = .ok (.ireturn, 1) := by decide +kernel
theorem dX11_count_154 : decode cX11_count 154 = .ok (.aload_n 0, 1) := by decide +kernel
theorem dX11_count_155 : decode cX11_count 155 = .ok (.getfield 140, 3) := by decide +kernel
theorem dX11_count_158 : decode cX11_count 158 = .ok (.ireturn, 1) := by decide +kernel
theorem dX11_count_159 : decode cX11_count 159 = .ok (.aload_n 0, 1) := by decide +kernel
theorem dX11_count_160 : decode cX11_count 160 = .ok (.invokevirtual 95, 3) := by decide +kernel
theorem dX11_count_163 : decode cX11_count 163 = .ok (.ireturn, 1) := by decide +kernel
theorem dX11_digest_0 : decode cX11_digest 0 = .ok (.ldc2_w 357, 3) := by decide +kernel
theorem dX11_digest_3 : decode cX11_digest 3 = .ok (.lstore_n 1, 1) := by decide +kernel
theorem dX11_digest_4 : decode cX11_digest 4 = .ok (.iconst 0, 1) := by decide +kernel
theorem dX11_digest_5 : decode cX11_digest 5 = .ok (.istore_n 3, 1) := by decide +kernel
theorem dX11_digest_6 : decode cX11_digest 6 = .ok (.iload_n 3, 1) := by decide +kernel
theorem dX11_digest_7 : decode cX11_digest 7 = .ok (.bipush 10, 2) := by decide +kernel
theorem dX11_digest_9 : decode cX11_digest 9 = .ok (.if_icmp .gt 22, 3) := by decide +kernel
theorem dX11_digest_12 : decode cX11_digest 12 = .ok (.ldc2_w 359, 3) := by decide +kernel
theorem dX11_digest_15 : decode cX11_digest 15 = .ok (.lload_n 1, 1) := by decide +kernel
theorem dX11_digest_16 : decode cX11_digest 16 = .ok (.lmul, 1) := by decide +kernel
theorem dX11_digest_17 : decode cX11_digest 17 = .ok (.aload_n 0, 1) := by decide +kernel
theorem dX11_digest_18 : decode cX11_digest 18 = .ok (.iload_n 3, 1) := by decide +kernel
theorem dX11_digest_19 : decode cX11_digest 19 = .ok (.invokevirtual 361, 3) := by decide +kernel
theorem dX11_digest_22 : decode cX11_digest 22 = .ok (.i2l, 1) := by decide +kernel
theorem dX11_digest_23 : decode cX11_digest 23 = .ok (.ladd, 1) := by decide +kernel
theorem dX11_digest_24 : decode cX11_digest 24 = .ok (.lstore_n 1, 1) := by decide +kernel
theorem dX11_digest_25 : decode cX11_digest 25 = .ok (.iinc 3 1, 3) := by decide +kernel
theorem dX11_digest_28 : decode cX11_digest 28 = .ok (.goto (-22), 3) := by decide +kernel
theorem dX11_digest_31 : decode cX11_digest 31 = .ok (.aload_n 0, 1) := by decide +kernel
theorem dX11_digest_32 : decode cX11_digest 32 = .ok (.getfield 10, 3) := by decide +kernel
theorem dX11_digest_35 : decode cX11_digest 35 = .ok (.lload_n 1, 1) := by decide +kernel
theorem dX11_digest_36 : decode cX11_digest 36 = .ok (.invokevirtual 364, 3) := by decide +kernel
theorem dX11_digest_39 : decode cX11_digest 39 = .ok (.lstore_n 1, 1) := by decide +kernel
theorem dX11_digest_40 : decode cX11_digest 40 = .ok (.aload_n 0, 1) := by decide +kernel
theorem dX11_digest_41 : decode cX11_digest 41 = .ok (.getfield 10, 3) := by decide +kernel
theorem dX11_digest_44 : decode cX11_digest 44 = .ok (.getfield 259, 3) := by decide +kernel
theorem dX11_digest_47 : decode cX11_digest 47 = .ok (.lload_n 1, 1) := by decide +kernel
theorem dX11_digest_48 : decode cX11_digest 48 = .ok (.invokevirtual 368, 3) := by decide +kernel
theorem dX11_digest_51 : decode cX11_digest 51 = .ok (.lstore_n 1, 1) := by decide +kernel
theorem dX11_digest_52 : decode cX11_digest 52 = .ok (.aload_n 0, 1) := by decide +kernel
theorem dX11_digest_53 : decode cX11_digest 53 = .ok (.getfield 10, 3) := by decide +kernel
theorem dX11_digest_56 : decode cX11_digest 56 = .ok (.getfield 280, 3) := by decide +kernel
theorem dX11_digest_59 : decode cX11_digest 59 = .ok (.lload_n 1, 1) := by decide +kernel
theorem dX11_digest_60 : decode cX11_digest 60 = .ok (.invokevirtual 368, 3) := by decide +kernel
theorem dX11_digest_63 : decode cX11_digest 63 = .ok (.lstore_n 1, 1) := by decide +kernel
theorem dX11_digest_64 : decode cX11_digest 64 = .ok (.aload_n 0, 1) := by decide +kernel
theorem dX11_digest_65 : decode cX11_digest 65 = .ok (.getfield 10, 3) := by decide +kernel
theorem dX11_digest_68 : decode cX11_digest 68 = .ok (.getfield 283, 3) := by decide +kernel
theorem dX11_digest_71 : decode cX11_digest 71 = .ok (.lload_n 1, 1) := by decide +kernel
theorem dX11_digest_72 : decode cX11_digest 72 = .ok (.invokevirtual 368, 3) := by decide +kernel
theorem dX11_digest_75 : decode cX11_digest 75 = .ok (.lstore_n 1, 1) := by decide +kernel
theorem dX11_digest_76 : decode cX11_digest 76 = .ok (.ldc2_w 359, 3) := by decide +kernel
theorem dX11_digest_79 : decode cX11_digest 79 = .ok (.lload_n 1, 1) := by decide +kernel
theorem dX11_digest_80 : decode cX11_digest 80 = .ok (.lmul, 1) := by decide +kernel
theorem dX11_digest_81 : decode cX11_digest 81 = .ok (.aload_n 0, 1) := by decide +kernel
theorem dX11_digest_82 : decode cX11_digest 82 = .ok (.getfield 76, 3) := by decide +kernel
theorem dX11_digest_85 : decode cX11_digest 85 = .ok (.getfield 344, 3) := by decide +kernel
theorem dX11_digest_88 : decode cX11_digest 88 = .ok (.ladd, 1) := by decide +kernel
theorem dX11_digest_89 : decode cX11_digest 89 = .ok (.lstore_n 1, 1) := by decide +kernel
theorem dX11_digest_90 : decode cX11_digest 90 = .ok (.ldc2_w 359, 3) := by decide +kernel
theorem dX11_digest_93 : decode cX11_digest 93 = .ok (.lload_n 1, 1) := by decide +kernel
theorem dX11_digest_94 : decode cX11_digest 94 = .ok (.lmul, 1) := by decide +kernel
theorem dX11_digest_95 : decode cX11_digest 95 = .ok (.aload_n 0, 1) := by decide +kernel
theorem dX11_digest_96 : decode cX11_digest 96 = .ok (.getfield 76, 3) := by decide +kernel
theorem dX11_digest_99 : decode cX11_digest 99 = .ok (.getfield 348, 3) := by decide +kernel
theorem dX11_digest_102 : decode cX11_digest 102 = .ok (.ladd, 1) := by decide +kernel
theorem dX11_digest_103 : decode cX11_digest 103 = .ok (.lreturn, 1) := by decide +kernel
theorem dX11_within_0 : decode cX11_within 0 = .ok (.iload_n 0, 1) := by decide +kernel
theorem dX11_within_1 : decode cX11_within 1 = .ok (.iload_n 1, 1) := by decide +kernel
theorem dX11_within_2 : decode cX11_within 2 = .ok (.if_icmp .lt 12, 3) := by decide +kernel
theorem dX11_within_5 : decode cX11_within 5 = .ok (.iload_n 0, 1) := by decide +kernel
theorem dX11_within_6 : decode cX11_within 6 = .ok (.iload_n 2, 1) := by decide +kernel
theorem dX11_within_7 : decode cX11_within 7 = .ok (.if_icmp .gt 7, 3) := by decide +kernel
theorem dX11_within_10 : decode cX11_within 10 = .ok (.iconst 1, 1) := by decide +kernel
theorem dX11_within_11 : decode cX11_within 11 = .ok (.goto 4, 3) := by decide +kernel
theorem dX11_within_14 : decode cX11_within 14 = .ok (.iconst 0, 1) := by decide +kernel
theorem dX11_within_15 : decode cX11_within 15 = .ok (.ireturn, 1) := by decide +kernel
theorem dX11_isPlace_0 : decode cX11_isPlace 0 = .ok (.iload_n 0, 1) := by decide +kernel
theorem dX11_isPlace_1 : decode cX11_isPlace 1 = .ok (.iconst 0, 1) := by decide +kernel
theorem dX11_isPlace_2 : decode cX11_isPlace 2 = .ok (.bipush 7, 2) := by decide +kernel
theorem dX11_isPlace_4 : decode cX11_isPlace 4 = .ok (.invokestatic 91, 3) := by decide +kernel
theorem dX11_isPlace_7 : decode cX11_isPlace 7 = .ok (.ireturn, 1) := by decide +kernel
theorem dX11_isRower_0 : decode cX11_isRower 0 = .ok (.iload_n 1, 1) := by decide +kernel
theorem dX11_isRower_1 : decode cX11_isRower 1 = .ok (.iconst 0, 1) := by decide +kernel
theorem dX11_isRower_2 : decode cX11_isRower 2 = .ok (.aload_n 0, 1) := by decide +kernel
theorem dX11_isRower_3 : decode cX11_isRower 3 = .ok (.getfield 10, 3) := by decide +kernel
theorem dX11_isRower_6 : decode cX11_isRower 6 = .ok (.getfield 127, 3) := by decide +kernel
theorem dX11_isRower_9 : decode cX11_isRower 9 = .ok (.iconst 1, 1) := by decide +kernel
theorem dX11_isRower_10 : decode cX11_isRower 10 = .ok (.isub, 1) := by decide +kernel
theorem dX11_isRower_11 : decode cX11_isRower 11 = .ok (.invokestatic 91, 3) := by decide +kernel
theorem dX11_isRower_14 : decode cX11_isRower 14 = .ok (.ireturn, 1) := by decide +kernel
theorem dX11_isGuest_0 : decode cX11_isGuest 0 = .ok (.iload_n 1, 1) := by decide +kernel
theorem dX11_isGuest_1 : decode cX11_isGuest 1 = .ok (.iconst 0, 1) := by decide +kernel
theorem dX11_isGuest_2 : decode cX11_isGuest 2 = .ok (.aload_n 0, 1) := by decide +kernel
theorem dX11_isGuest_3 : decode cX11_isGuest 3 = .ok (.getfield 10, 3) := by decide +kernel
theorem dX11_isGuest_6 : decode cX11_isGuest 6 = .ok (.getfield 99, 3) := by decide +kernel
theorem dX11_isGuest_9 : decode cX11_isGuest 9 = .ok (.iconst 1, 1) := by decide +kernel
theorem dX11_isGuest_10 : decode cX11_isGuest 10 = .ok (.isub, 1) := by decide +kernel
theorem dX11_isGuest_11 : decode cX11_isGuest 11 = .ok (.invokestatic 91, 3) := by decide +kernel
theorem dX11_isGuest_14 : decode cX11_isGuest 14 = .ok (.ireturn, 1) := by decide +kernel
theorem dX11_refuseBad_0 : decode cX11_refuseBad 0 = .ok (.aload_n 0, 1) := by decide +kernel
theorem dX11_refuseBad_1 : decode cX11_refuseBad 1 = .ok (.getfield 31, 3) := by decide +kernel
theorem dX11_refuseBad_4 : decode cX11_refuseBad 4 = .ok (.iconst 0, 1) := by decide +kernel
theorem dX11_refuseBad_5 : decode cX11_refuseBad 5 = .ok (.dup2, 1) := by decide +kernel
theorem dX11_refuseBad_6 : decode cX11_refuseBad 6 = .ok (.iaload, 1) := by decide +kernel
theorem dX11_refuseBad_7 : decode cX11_refuseBad 7 = .ok (.iconst 1, 1) := by decide +kernel
theorem dX11_refuseBad_8 : decode cX11_refuseBad 8 = .ok (.iadd, 1) := by decide +kernel
theorem dX11_refuseBad_9 : decode cX11_refuseBad 9 = .ok (.iastore, 1) := by decide +kernel
theorem dX11_refuseBad_10 : decode cX11_refuseBad 10 = .ok (.bipush (-2), 2) := by decide +kernel
theorem dX11_refuseBad_12 : decode cX11_refuseBad 12 = .ok (.ireturn, 1) := by decide +kernel
theorem dX11_refuseFarBad_0 : decode cX11_refuseFarBad 0 = .ok (.aload_n 0, 1) := by decide +kernel
theorem dX11_refuseFarBad_1 : decode cX11_refuseFarBad 1 = .ok (.getfield 31, 3) := by decide +kernel
theorem dX11_refuseFarBad_4 : decode cX11_refuseFarBad 4 = .ok (.iconst 0, 1) := by decide +kernel
theorem dX11_refuseFarBad_5 : decode cX11_refuseFarBad 5 = .ok (.dup2, 1) := by decide +kernel
theorem dX11_refuseFarBad_6 : decode cX11_refuseFarBad 6 = .ok (.iaload, 1) := by decide +kernel
theorem dX11_refuseFarBad_7 : decode cX11_refuseFarBad 7 = .ok (.iconst 1, 1) := by decide +kernel
theorem dX11_refuseFarBad_8 : decode cX11_refuseFarBad 8 = .ok (.iadd, 1) := by decide +kernel
theorem dX11_refuseFarBad_9 : decode cX11_refuseFarBad 9 = .ok (.iastore, 1) := by decide +kernel
theorem dX11_refuseFarBad_10 : decode cX11_refuseFarBad 10 = .ok (.bipush (-10), 2) := by decide +kernel
theorem dX11_refuseFarBad_12 : decode cX11_refuseFarBad 12 = .ok (.ireturn, 1) := by decide +kernel
theorem dX11_refuseNo_0 : decode cX11_refuseNo 0 = .ok (.aload_n 0, 1) := by decide +kernel
theorem dX11_refuseNo_1 : decode cX11_refuseNo 1 = .ok (.getfield 31, 3) := by decide +kernel
theorem dX11_refuseNo_4 : decode cX11_refuseNo 4 = .ok (.iconst 1, 1) := by decide +kernel
theorem dX11_refuseNo_5 : decode cX11_refuseNo 5 = .ok (.dup2, 1) := by decide +kernel
theorem dX11_refuseNo_6 : decode cX11_refuseNo 6 = .ok (.iaload, 1) := by decide +kernel
theorem dX11_refuseNo_7 : decode cX11_refuseNo 7 = .ok (.iconst 1, 1) := by decide +kernel
theorem dX11_refuseNo_8 : decode cX11_refuseNo 8 = .ok (.iadd, 1) := by decide +kernel
theorem dX11_refuseNo_9 : decode cX11_refuseNo 9 = .ok (.iastore, 1) := by decide +kernel
theorem dX11_refuseNo_10 : decode cX11_refuseNo 10 = .ok (.bipush (-3), 2) := by decide +kernel
theorem dX11_refuseNo_12 : decode cX11_refuseNo 12 = .ok (.ireturn, 1) := by decide +kernel
theorem dX11_refuseFull_0 : decode cX11_refuseFull 0 = .ok (.aload_n 0, 1) := by decide +kernel
theorem dX11_refuseFull_1 : decode cX11_refuseFull 1 = .ok (.getfield 31, 3) := by decide +kernel
theorem dX11_refuseFull_4 : decode cX11_refuseFull 4 = .ok (.iconst 2, 1) := by decide +kernel
theorem dX11_refuseFull_5 : decode cX11_refuseFull 5 = .ok (.dup2, 1) := by decide +kernel
theorem dX11_refuseFull_6 : decode cX11_refuseFull 6 = .ok (.iaload, 1) := by decide +kernel
theorem dX11_refuseFull_7 : decode cX11_refuseFull 7 = .ok (.iconst 1, 1) := by decide +kernel
theorem dX11_refuseFull_8 : decode cX11_refuseFull 8 = .ok (.iadd, 1) := by decide +kernel
theorem dX11_refuseFull_9 : decode cX11_refuseFull 9 = .ok (.iastore, 1) := by decide +kernel
theorem dX11_refuseFull_10 : decode cX11_refuseFull 10 = .ok (.bipush (-4), 2) := by decide +kernel
theorem dX11_refuseFull_12 : decode cX11_refuseFull 12 = .ok (.ireturn, 1) := by decide +kernel
theorem dX12_init_0 : decode cX12_init 0 = .ok (.aload_n 0, 1) := by decide +kernel
theorem dX12_init_1 : decode cX12_init 1 = .ok (.invokespecial 1, 3) := by decide +kernel
theorem dX12_init_4 : decode cX12_init 4 = .ok (.aload_n 0, 1) := by decide +kernel
theorem dX12_init_5 : decode cX12_init 5 = .ok (.sipush 286, 3) := by decide +kernel
theorem dX12_init_8 : decode cX12_init 8 = .ok (.newarray .int, 2) := by decide +kernel
theorem dX12_init_10 : decode cX12_init 10 = .ok (.putfield 7, 3) := by decide +kernel
theorem dX12_init_13 : decode cX12_init 13 = .ok (.aload_n 0, 1) := by decide +kernel
theorem dX12_init_14 : decode cX12_init 14 = .ok (.sipush 286, 3) := by decide +kernel
theorem dX12_init_17 : decode cX12_init 17 = .ok (.newarray .int, 2) := by decide +kernel
theorem dX12_init_19 : decode cX12_init 19 = .ok (.putfield 13, 3) := by decide +kernel
theorem dX12_init_22 : decode cX12_init 22 = .ok (.aload_n 0, 1) := by decide +kernel
theorem dX12_init_23 : decode cX12_init 23 = .ok (.sipush 572, 3) := by decide +kernel
theorem dX12_init_26 : decode cX12_init 26 = .ok (.newarray .int, 2) := by decide +kernel
theorem dX12_init_28 : decode cX12_init 28 = .ok (.putfield 16, 3) := by decide +kernel
theorem dX12_init_31 : decode cX12_init 31 = .ok (.aload_n 0, 1) := by decide +kernel
theorem dX12_init_32 : decode cX12_init 32 = .ok (.iconst 2, 1) := by decide +kernel
theorem dX12_init_33 : decode cX12_init 33 = .ok (.newarray .boolean, 2) := by decide +kernel
theorem dX12_init_35 : decode cX12_init 35 = .ok (.putfield 19, 3) := by decide +kernel
theorem dX12_init_38 : decode cX12_init 38 = .ok (.aload_n 0, 1) := by decide +kernel
theorem dX12_init_39 : decode cX12_init 39 = .ok (.sipush 150, 3) := by decide +kernel
theorem dX12_init_42 : decode cX12_init 42 = .ok (.newarray .int, 2) := by decide +kernel
theorem dX12_init_44 : decode cX12_init 44 = .ok (.putfield 23, 3) := by decide +kernel
theorem dX12_init_47 : decode cX12_init 47 = .ok (.aload_n 0, 1) := by decide +kernel
theorem dX12_init_48 : decode cX12_init 48 = .ok (.lconst 1, 1) := by decide +kernel
theorem dX12_init_49 : decode cX12_init 49 = .ok (.putfield 26, 3) := by decide +kernel
theorem dX12_init_52 : decode cX12_init 52 = .ok (.aload_n 0, 1) := by decide +kernel
theorem dX12_init_53 : decode cX12_init 53 = .ok (.iconst 3, 1) := by decide +kernel
theorem dX12_init_54 : decode cX12_init 54 = .ok (.newarray .int, 2) := by decide +kernel
theorem dX12_init_56 : decode cX12_init 56 = .ok (.putfield 30, 3) := by decide +kernel
theorem dX12_init_59 : decode cX12_init 59 = .ok (.aload_n 0, 1) := by decide +kernel
theorem dX12_init_60 : decode cX12_init 60 = .ok (.iconst 3, 1) := by decide +kernel
theorem dX12_init_61 : decode cX12_init 61 = .ok (.newarray .int, 2) := by decide +kernel
theorem dX12_init_63 : decode cX12_init 63 = .ok (.putfield 33, 3) := by decide +kernel
theorem dX12_init_66 : decode cX12_init 66 = .ok (.aload_n 0, 1) := by decide +kernel
theorem dX12_init_67 : decode cX12_init 67 = .ok (.bipush 8, 2) := by decide +kernel
theorem dX12_init_69 : decode cX12_init 69 = .ok (.newarray .int, 2) := by decide +kernel
theorem dX12_init_71 : decode cX12_init 71 = .ok (.putfield 36, 3) := by decide +kernel
theorem dX12_init_74 : decode cX12_init 74 = .ok (.aload_n 0, 1) := by decide +kernel
theorem dX12_init_75 : decode cX12_init 75 = .ok (.bipush 9, 2) := by decide +kernel
theorem dX12_init_77 : decode cX12_init 77 = .ok (.newarray .int, 2) := by decide +kernel
theorem dX12_init_79 : decode cX12_init 79 = .ok (.putfield 39, 3) := by decide +kernel
theorem dX12_init_82 : decode cX12_init 82 = .ok (.aload_n 0, 1) := by decide +kernel
theorem dX12_init_83 : decode cX12_init 83 = .ok (.bipush 9, 2) := by decide +kernel
theorem dX12_init_85 : decode cX12_init 85 = .ok (.newarray .int, 2) := by decide +kernel
theorem dX12_init_87 : decode cX12_init 87 = .ok (.putfield 42, 3) := by decide +kernel
theorem dX12_init_90 : decode cX12_init 90 = .ok (.aload_n 0, 1) := by decide +kernel
theorem dX12_init_91 : decode cX12_init 91 = .ok (.bipush 9, 2) := by decide +kernel
theorem dX12_init_93 : decode cX12_init 93 = .ok (.newarray .int, 2) := by decide +kernel
theorem dX12_init_95 : decode cX12_init 95 = .ok (.putfield 45, 3) := by decide +kernel
theorem dX12_init_98 : decode cX12_init 98 = .ok (.aload_n 0, 1) := by decide +kernel
theorem dX12_init_99 : decode cX12_init 99 = .ok (.bipush 9, 2) := by decide +kernel
theorem dX12_init_101 : decode cX12_init 101 = .ok (.newarray .int, 2) := by decide +kernel
theorem dX12_init_103 : decode cX12_init 103 = .ok (.putfield 48, 3) := by decide +kernel
theorem dX12_init_106 : decode cX12_init 106 = .ok (.aload_n 0, 1) := by decide +kernel
theorem dX12_init_107 : decode cX12_init 107 = .ok (.bipush 9, 2) := by decide +kernel
theorem dX12_init_109 : decode cX12_init 109 = .ok (.newarray .int, 2) := by decide +kernel
theorem dX12_init_111 : decode cX12_init 111 = .ok (.putfield 51, 3) := by decide +kernel
theorem dX12_init_114 : decode cX12_init 114 = .ok (.aload_n 0, 1) := by decide +kernel
theorem dX12_init_115 : decode cX12_init 115 = .ok (.bipush 9, 2) := by decide +kernel
theorem dX12_init_117 : decode cX12_init 117 = .ok (.newarray .int, 2) := by decide +kernel
theorem dX12_init_119 : decode cX12_init 119 = .ok (.putfield 54, 3) := by decide +kernel
theorem dX12_init_122 : decode cX12_init 122 = .ok (.aload_n 0, 1) := by decide +kernel
theorem dX12_init_123 : decode cX12_init 123 = .ok (.bipush 8, 2) := by decide +kernel
theorem dX12_init_125 : decode cX12_init 125 = .ok (.newarray .int, 2) := by decide +kernel
theorem dX12_init_127 : decode cX12_init 127 = .ok (.putfield 57, 3) := by decide +kernel
theorem dX12_init_130 : decode cX12_init 130 = .ok (.aload_n 0, 1) := by decide +kernel
theorem dX12_init_131 : decode cX12_init 131 = .ok (.bipush 16, 2) := by decide +kernel
theorem dX12_init_133 : decode cX12_init 133 = .ok (.newarray .int, 2) := by decide +kernel
theorem dX12_init_135 : decode cX12_init 135 = .ok (.putfield 60, 3) := by decide +kernel
theorem dX12_init_138 : decode cX12_init 138 = .ok (.aload_n 0, 1) := by decide +kernel
theorem dX12_init_139 : decode cX12_init 139 = .ok (.bipush 16, 2) := by decide +kernel
theorem dX12_init_141 : decode cX12_init 141 = .ok (.newarray .int, 2) := by decide +kernel
theorem dX12_init_143 : decode cX12_init 143 = .ok (.putfield 63, 3) := by decide +kernel
theorem dX12_init_146 : decode cX12_init 146 = .ok (.aload_n 0, 1) := by decide +kernel
theorem dX12_init_147 : decode cX12_init 147 = .ok (.bipush 10, 2) := by decide +kernel
theorem dX12_init_149 : decode cX12_init 149 = .ok (.newarray .int, 2) := by decide +kernel
theorem dX12_init_151 : decode cX12_init 151 = .ok (.putfield 66, 3) := by decide +kernel
theorem dX12_init_154 : decode cX12_init 154 = .ok (.iconst 0, 1) := by decide +kernel
theorem dX12_init_155 : decode cX12_init 155 = .ok (.istore_n 1, 1) := by decide +kernel
theorem dX12_init_156 : decode cX12_init 156 = .ok (.iload_n 1, 1) := by decide +kernel
theorem dX12_init_157 : decode cX12_init 157 = .ok (.bipush 8, 2) := by decide +kernel
theorem dX12_init_159 : decode cX12_init 159 = .ok (.if_icmp .ge 18, 3) := by decide +kernel
theorem dX12_init_162 : decode cX12_init 162 = .ok (.aload_n 0, 1) := by decide +kernel
theorem dX12_init_163 : decode cX12_init 163 = .ok (.getfield 7, 3) := by decide +kernel
theorem dX12_init_166 : decode cX12_init 166 = .ok (.iconst 0, 1) := by decide +kernel
theorem dX12_init_167 : decode cX12_init 167 = .ok (.iload_n 1, 1) := by decide +kernel
theorem dX12_init_168 : decode cX12_init 168 = .ok (.iadd, 1) := by decide +kernel
theorem dX12_init_169 : decode cX12_init 169 = .ok (.iconst 3, 1) := by decide +kernel
theorem dX12_init_170 : decode cX12_init 170 = .ok (.iastore, 1) := by decide +kernel
theorem dX12_init_171 : decode cX12_init 171 = .ok (.iinc 1 1, 3) := by decide +kernel
theorem dX12_init_174 : decode cX12_init 174 = .ok (.goto (-18), 3) := by decide +kernel
theorem dX12_init_177 : decode cX12_init 177 = .ok (.return_, 1) := by decide +kernel
theorem dX12_in_0 : decode cX12_in 0 = .ok (.lload_n 0, 1) := by decide +kernel
theorem dX12_in_1 : decode cX12_in 1 = .ok (.lload_n 2, 1) := by decide +kernel
theorem dX12_in_2 : decode cX12_in 2 = .ok (.lcmp, 1) := by decide +kernel
theorem dX12_in_3 : decode cX12_in 3 = .ok (.ifCond .lt 14, 3) := by decide +kernel
theorem dX12_in_6 : decode cX12_in 6 = .ok (.lload_n 0, 1) := by decide +kernel
theorem dX12_in_7 : decode cX12_in 7 = .ok (.lload 4, 2) := by decide +kernel
theorem dX12_in_9 : decode cX12_in 9 = .ok (.lcmp, 1) := by decide +kernel
theorem dX12_in_10 : decode cX12_in 10 = .ok (.ifCond .gt 7, 3) := by decide +kernel
theorem dX12_in_13 : decode cX12_in 13 = .ok (.iconst 1, 1) := by decide +kernel
theorem dX12_in_14 : decode cX12_in 14 = .ok (.goto 4, 3) := by decide +kernel
theorem dX12_in_17 : decode cX12_in 17 = .ok (.iconst 0, 1) := by decide +kernel
theorem dX12_in_18 : decode cX12_in 18 = .ok (.ireturn, 1) := by decide +kernel
theorem dX12_less_0 : decode cX12_less 0 = .ok (.iload_n 0, 1) := by decide +kernel
theorem dX12_less_1 : decode cX12_less 1 = .ok (.iload_n 1, 1) := by decide +kernel
theorem dX12_less_2 : decode cX12_less 2 = .ok (.if_icmp .ge 7, 3) := by decide +kernel
theorem dX12_less_5 : decode cX12_less 5 = .ok (.iload_n 0, 1) := by decide +kernel
theorem dX12_less_6 : decode cX12_less 6 = .ok (.goto 4, 3) := by decide +kernel
theorem dX12_less_9 : decode cX12_less 9 = .ok (.iload_n 1, 1) := by decide +kernel
theorem dX12_less_10 : decode cX12_less 10 = .ok (.ireturn, 1) := by decide +kernel
theorem dX12_has_0 : decode cX12_has 0 = .ok (.iload_n 0, 1) := by decide +kernel
theorem dX12_has_1 : decode cX12_has 1 = .ok (.iload_n 1, 1) := by decide +kernel
theorem dX12_has_2 : decode cX12_has 2 = .ok (.ishr, 1) := by decide +kernel
theorem dX12_has_3 : decode cX12_has 3 = .ok (.iconst 1, 1) := by decide +kernel
theorem dX12_has_4 : decode cX12_has 4 = .ok (.iand, 1) := by decide +kernel
theorem dX12_has_5 : decode cX12_has 5 = .ok (.iconst 1, 1) := by decide +kernel
theorem dX12_has_6 : decode cX12_has 6 = .ok (.if_icmp .ne 7, 3) := by decide +kernel
theorem dX12_has_9 : decode cX12_has 9 = .ok (.iconst 1, 1) := by decide +kernel
theorem dX12_has_10 : decode cX12_has 10 = .ok (.goto 4, 3) := by decide +kernel
theorem dX12_has_13 : decode cX12_has 13 = .ok (.iconst 0, 1) := by decide +kernel
theorem dX12_has_14 : decode cX12_has 14 = .ok (.ireturn, 1) := by decide +kernel
theorem dX12_copies_0 : decode cX12_copies 0 = .ok (.iconst 0, 1) := by decide +kernel
theorem dX12_copies_1 : decode cX12_copies 1 = .ok (.istore 5, 2) := by decide +kernel
theorem dX12_copies_3 : decode cX12_copies 3 = .ok (.iload 5, 2) := by decide +kernel
theorem dX12_copies_5 : decode cX12_copies 5 = .ok (.iload 4, 2) := by decide +kernel
theorem dX12_copies_7 : decode cX12_copies 7 = .ok (.if_icmp .ge 21, 3) := by decide +kernel
theorem dX12_copies_10 : decode cX12_copies 10 = .ok (.aload_n 2, 1) := by decide +kernel
theorem dX12_copies_11 : decode cX12_copies 11 = .ok (.iload_n 3, 1) := by decide +kernel
theorem dX12_copies_12 : decode cX12_copies 12 = .ok (.iload 5, 2) := by decide +kernel
theorem dX12_copies_14 : decode cX12_copies 14 = .ok (.iadd, 1) := by decide +kernel
theorem dX12_copies_15 : decode cX12_copies 15 = .ok (.aload_n 0, 1) := by decide +kernel
theorem dX12_copies_16 : decode cX12_copies 16 = .ok (.iload_n 1, 1) := by decide +kernel
theorem dX12_copies_17 : decode cX12_copies 17 = .ok (.iload 5, 2) := by decide +kernel
theorem dX12_copies_19 : decode cX12_copies 19 = .ok (.iadd, 1) := by decide +kernel
theorem dX12_copies_20 : decode cX12_copies 20 = .ok (.iaload, 1) := by decide +kernel
theorem dX12_copies_21 : decode cX12_copies 21 = .ok (.iastore, 1) := by decide +kernel
theorem dX12_copies_22 : decode cX12_copies 22 = .ok (.iinc 5 1, 3) := by decide +kernel
theorem dX12_copies_25 : decode cX12_copies 25 = .ok (.goto (-22), 3) := by decide +kernel
theorem dX12_copies_28 : decode cX12_copies 28 = .ok (.return_, 1) := by decide +kernel
theorem dX12_bad_0 : decode cX12_bad 0 = .ok (.aload_n 0, 1) := by decide +kernel
theorem dX12_bad_1 : decode cX12_bad 1 = .ok (.getfield 30, 3) := by decide +kernel
theorem dX12_bad_4 : decode cX12_bad 4 = .ok (.iconst 0, 1) := by decide +kernel
theorem dX12_bad_5 : decode cX12_bad 5 = .ok (.dup2, 1) := by decide +kernel
theorem dX12_bad_6 : decode cX12_bad 6 = .ok (.iaload, 1) := by decide +kernel
theorem dX12_bad_7 : decode cX12_bad 7 = .ok (.iconst 1, 1) := by decide +kernel
theorem dX12_bad_8 : decode cX12_bad 8 = .ok (.iadd, 1) := by decide +kernel
theorem dX12_bad_9 : decode cX12_bad 9 = .ok (.iastore, 1) := by decide +kernel
theorem dX12_bad_10 : decode cX12_bad 10 = .ok (.iload_n 1, 1) := by decide +kernel
theorem dX12_bad_11 : decode cX12_bad 11 = .ok (.ireturn, 1) := by decide +kernel
theorem dX12_no_0 : decode cX12_no 0 = .ok (.aload_n 0, 1) := by decide +kernel
theorem dX12_no_1 : decode cX12_no 1 = .ok (.getfield 30, 3) := by decide +kernel
theorem dX12_no_4 : decode cX12_no 4 = .ok (.iconst 1, 1) := by decide +kernel
theorem dX12_no_5 : decode cX12_no 5 = .ok (.dup2, 1) := by decide +kernel
theorem dX12_no_6 : decode cX12_no 6 = .ok (.iaload, 1) := by decide +kernel
theorem dX12_no_7 : decode cX12_no 7 = .ok (.iconst 1, 1) := by decide +kernel
theorem dX12_no_8 : decode cX12_no 8 = .ok (.iadd, 1) := by decide +kernel
theorem dX12_no_9 : decode cX12_no 9 = .ok (.iastore, 1) := by decide +kernel
theorem dX12_no_10 : decode cX12_no 10 = .ok (.bipush (-3), 2) := by decide +kernel
theorem dX12_no_12 : decode cX12_no 12 = .ok (.ireturn, 1) := by decide +kernel
theorem dX12_full_0 : decode cX12_full 0 = .ok (.aload_n 0, 1) := by decide +kernel
theorem dX12_full_1 : decode cX12_full 1 = .ok (.getfield 30, 3) := by decide +kernel
theorem dX12_full_4 : decode cX12_full 4 = .ok (.iconst 2, 1) := by decide +kernel
theorem dX12_full_5 : decode cX12_full 5 = .ok (.dup2, 1) := by decide +kernel
theorem dX12_full_6 : decode cX12_full 6 = .ok (.iaload, 1) := by decide +kernel
theorem dX12_full_7 : decode cX12_full 7 = .ok (.iconst 1, 1) := by decide +kernel
theorem dX12_full_8 : decode cX12_full 8 = .ok (.iadd, 1) := by decide +kernel
theorem dX12_full_9 : decode cX12_full 9 = .ok (.iastore, 1) := by decide +kernel
theorem dX12_full_10 : decode cX12_full 10 = .ok (.bipush (-4), 2) := by decide +kernel
theorem dX12_full_12 : decode cX12_full 12 = .ok (.ireturn, 1) := by decide +kernel
theorem dX12_isRower_0 : decode cX12_isRower 0 = .ok (.iload_n 1, 1) := by decide +kernel
theorem dX12_isRower_1 : decode cX12_isRower 1 = .ok (.i2l, 1) := by decide +kernel
theorem dX12_isRower_2 : decode cX12_isRower 2 = .ok (.lconst 0, 1) := by decide +kernel
theorem dX12_isRower_3 : decode cX12_isRower 3 = .ok (.aload_n 0, 1) := by decide +kernel
theorem dX12_isRower_4 : decode cX12_isRower 4 = .ok (.getfield 7, 3) := by decide +kernel
theorem dX12_isRower_7 : decode cX12_isRower 7 = .ok (.bipush 36, 2) := by decide +kernel
theorem dX12_isRower_9 : decode cX12_isRower 9 = .ok (.iaload, 1) := by decide +kernel
theorem dX12_isRower_10 : decode cX12_isRower 10 = .ok (.iconst 1, 1) := by decide +kernel
theorem dX12_isRower_11 : decode cX12_isRower 11 = .ok (.isub, 1) := by decide +kernel
theorem dX12_isRower_12 : decode cX12_isRower 12 = .ok (.i2l, 1) := by decide +kernel
theorem dX12_isRower_13 : decode cX12_isRower 13 = .ok (.invokestatic 69, 3) := by decide +kernel
theorem dX12_isRower_16 : decode cX12_isRower 16 = .ok (.ireturn, 1) := by decide +kernel
theorem dX12_isGuest_0 : decode cX12_isGuest 0 = .ok (.iload_n 1, 1) := by decide +kernel
theorem dX12_isGuest_1 : decode cX12_isGuest 1 = .ok (.i2l, 1) := by decide +kernel
theorem dX12_isGuest_2 : decode cX12_isGuest 2 = .ok (.lconst 0, 1) := by decide +kernel
theorem dX12_isGuest_3 : decode cX12_isGuest 3 = .ok (.aload_n 0, 1) := by decide +kernel
theorem dX12_isGuest_4 : decode cX12_isGuest 4 = .ok (.getfield 7, 3) := by decide +kernel
theorem dX12_isGuest_7 : decode cX12_isGuest 7 = .ok (.bipush 37, 2) := by decide +kernel
theorem dX12_isGuest_9 : decode cX12_isGuest 9 = .ok (.iaload, 1) := by decide +kernel
theorem dX12_isGuest_10 : decode cX12_isGuest 10 = .ok (.iconst 1, 1) := by decide +kernel
theorem dX12_isGuest_11 : decode cX12_isGuest 11 = .ok (.isub, 1) := by decide +kernel
theorem dX12_isGuest_12 : decode cX12_isGuest 12 = .ok (.i2l, 1) := by decide +kernel
theorem dX12_isGuest_13 : decode cX12_isGuest 13 = .ok (.invokestatic 69, 3) := by decide +kernel
theorem dX12_isGuest_16 : decode cX12_isGuest 16 = .ok (.ireturn, 1) := by decide +kernel
theorem dX12_isPlace_0 : decode cX12_isPlace 0 = .ok (.iload_n 0, 1) := by decide +kernel
theorem dX12_isPlace_1 : decode cX12_isPlace 1 = .ok (.i2l, 1) := by decide +kernel
theorem dX12_isPlace_2 : decode cX12_isPlace 2 = .ok (.lconst 0, 1) := by decide +kernel
theorem dX12_isPlace_3 : decode cX12_isPlace 3 = .ok (.ldc2_w 73, 3) := by decide +kernel
theorem dX12_isPlace_6 : decode cX12_isPlace 6 = .ok (.invokestatic 69, 3) := by decide +kernel
theorem dX12_isPlace_9 : decode cX12_isPlace 9 = .ok (.ireturn, 1) := by decide +kernel
theorem dX12_tells_0 : decode cX12_tells 0 = .ok (.iload_n 2, 1) := by decide +kernel
theorem dX12_tells_1 : decode cX12_tells 1 = .ok (.iconst 4, 1) := by decide +kernel
theorem dX12_tells_2 : decode cX12_tells 2 = .ok (.if_icmp .ge 7, 3) := by decide +kernel
theorem dX12_tells_5 : decode cX12_tells 5 = .ok (.iconst 0, 1) := by decide +kernel
theorem dX12_tells_6 : decode cX12_tells 6 = .ok (.goto 4, 3) := by decide +kernel
theorem dX12_tells_9 : decode cX12_tells 9 = .ok (.iload_n 1, 1) := by decide +kernel
theorem dX12_tells_10 : decode cX12_tells 10 = .ok (.istore 4, 2) := by decide +kernel
theorem dX12_tells_12 : decode cX12_tells 12 = .ok (.iload_n 0, 1) := by decide +kernel
theorem dX12_tells_13 : decode cX12_tells 13 = .ok (.tableswitch 85 1 5 #[35, 39, 42, 50, 68], 35) := by decide +kernel
theorem dX12_tells_48 : decode cX12_tells 48 = .ok (.iload_n 1, 1) := by decide +kernel
theorem dX12_tells_49 : decode cX12_tells 49 = .ok (.iconst 3, 1) := by decide +kernel
theorem dX12_tells_50 : decode cX12_tells 50 = .ok (.iadd, 1) := by decide +kernel
theorem dX12_tells_51 : decode cX12_tells 51 = .ok (.ireturn, 1) := by decide +kernel
theorem dX12_tells_52 : decode cX12_tells 52 = .ok (.iload 4, 2) := by decide +kernel
theorem dX12_tells_54 : decode cX12_tells 54 = .ok (.ireturn, 1) := by decide +kernel
theorem dX12_tells_55 : decode cX12_tells 55 = .ok (.iload 4, 2) := by decide +kernel
theorem dX12_tells_57 : decode cX12_tells 57 = .ok (.iload_n 3, 1) := by decide +kernel
theorem dX12_tells_58 : decode cX12_tells 58 = .ok (.bipush 6, 2) := by decide +kernel
theorem dX12_tells_60 : decode cX12_tells 60 = .ok (.idiv, 1) := by decide +kernel
theorem dX12_tells_61 : decode cX12_tells 61 = .ok (.iadd, 1) := by decide +kernel
theorem dX12_tells_62 : decode cX12_tells 62 = .ok (.ireturn, 1) := by decide +kernel
theorem dX12_tells_63 : decode cX12_tells 63 = .ok (.iload_n 3, 1) := by decide +kernel
theorem dX12_tells_64 : decode cX12_tells 64 = .ok (.bipush 10, 2) := by decide +kernel
theorem dX12_tells_66 : decode cX12_tells 66 = .ok (.if_icmp .ge 7, 3) := by decide +kernel
theorem dX12_tells_69 : decode cX12_tells 69 = .ok (.iconst 0, 1) := by decide +kernel
theorem dX12_tells_70 : decode cX12_tells 70 = .ok (.goto 10, 3) := by decide +kernel
theorem dX12_tells_73 : decode cX12_tells 73 = .ok (.iload 4, 2) := by decide +kernel
theorem dX12_tells_75 : decode cX12_tells 75 = .ok (.iload_n 3, 1) := by decide +kernel
theorem dX12_tells_76 : decode cX12_tells 76 = .ok (.bipush 6, 2) := by decide +kernel
theorem dX12_tells_78 : decode cX12_tells 78 = .ok (.idiv, 1) := by decide +kernel
theorem dX12_tells_79 : decode cX12_tells 79 = .ok (.iadd, 1) := by decide +kernel
theorem dX12_tells_80 : decode cX12_tells 80 = .ok (.ireturn, 1) := by decide +kernel
theorem dX12_tells_81 : decode cX12_tells 81 = .ok (.iload_n 3, 1) := by decide +kernel
theorem dX12_tells_82 : decode cX12_tells 82 = .ok (.iconst 2, 1) := by decide +kernel
theorem dX12_tells_83 : decode cX12_tells 83 = .ok (.irem, 1) := by decide +kernel
theorem dX12_tells_84 : decode cX12_tells 84 = .ok (.iconst 1, 1) := by decide +kernel
theorem dX12_tells_85 : decode cX12_tells 85 = .ok (.if_icmp .ne 9, 3) := by decide +kernel
theorem dX12_tells_88 : decode cX12_tells 88 = .ok (.iload_n 1, 1) := by decide +kernel
theorem dX12_tells_89 : decode cX12_tells 89 = .ok (.iconst 1, 1) := by decide +kernel
theorem dX12_tells_90 : decode cX12_tells 90 = .ok (.iadd, 1) := by decide +kernel
theorem dX12_tells_91 : decode cX12_tells 91 = .ok (.goto 6, 3) := by decide +kernel
theorem dX12_tells_94 : decode cX12_tells 94 = .ok (.iload_n 1, 1) := by decide +kernel
theorem dX12_tells_95 : decode cX12_tells 95 = .ok (.iconst 3, 1) := by decide +kernel
theorem dX12_tells_96 : decode cX12_tells 96 = .ok (.iadd, 1) := by decide +kernel
theorem dX12_tells_97 : decode cX12_tells 97 = .ok (.ireturn, 1) := by decide +kernel
theorem dX12_tells_98 : decode cX12_tells 98 = .ok (.iload_n 1, 1) := by decide +kernel
theorem dX12_tells_99 : decode cX12_tells 99 = .ok (.ireturn, 1) := by decide +kernel
theorem dX12_hurts_0 : decode cX12_hurts 0 = .ok (.iload 4, 2) := by decide +kernel
theorem dX12_hurts_2 : decode cX12_hurts 2 = .ok (.iconst 5, 1) := by decide +kernel
theorem dX12_hurts_3 : decode cX12_hurts 3 = .ok (.if_icmp .ge 9, 3) := by decide +kernel
theorem dX12_hurts_6 : decode cX12_hurts 6 = .ok (.iconst 2, 1) := by decide +kernel
theorem dX12_hurts_7 : decode cX12_hurts 7 = .ok (.iload_n 3, 1) := by decide +kernel
theorem dX12_hurts_8 : decode cX12_hurts 8 = .ok (.imul, 1) := by decide +kernel
theorem dX12_hurts_9 : decode cX12_hurts 9 = .ok (.goto 4, 3) := by decide +kernel
theorem dX12_hurts_12 : decode cX12_hurts 12 = .ok (.iload_n 3, 1) := by decide +kernel
theorem dX12_hurts_13 : decode cX12_hurts 13 = .ok (.istore 5, 2) := by decide +kernel
theorem dX12_hurts_15 : decode cX12_hurts 15 = .ok (.iload_n 3, 1) := by decide +kernel
theorem dX12_hurts_16 : decode cX12_hurts 16 = .ok (.ifCond .ne 7, 3) := by decide +kernel
theorem dX12_hurts_19 : decode cX12_hurts 19 = .ok (.iconst 0, 1) := by decide +kernel
theorem dX12_hurts_20 : decode cX12_hurts 20 = .ok (.goto 10, 3) := by decide +kernel
theorem dX12_hurts_23 : decode cX12_hurts 23 = .ok (.iload_n 3, 1) := by decide +kernel
theorem dX12_hurts_24 : decode cX12_hurts 24 = .ok (.iload_n 1, 1) := by decide +kernel
theorem dX12_hurts_25 : decode cX12_hurts 25 = .ok (.iload_n 2, 1) := by decide +kernel
theorem dX12_hurts_26 : decode cX12_hurts 26 = .ok (.isub, 1) := by decide +kernel
theorem dX12_hurts_27 : decode cX12_hurts 27 = .ok (.iconst 4, 1) := by decide +kernel
theorem dX12_hurts_28 : decode cX12_hurts 28 = .ok (.idiv, 1) := by decide +kernel
theorem dX12_hurts_29 : decode cX12_hurts 29 = .ok (.iadd, 1) := by decide +kernel
theorem dX12_hurts_30 : decode cX12_hurts 30 = .ok (.istore 6, 2) := by decide +kernel
theorem dX12_hurts_32 : decode cX12_hurts 32 = .ok (.iload_n 3, 1) := by decide +kernel
theorem dX12_hurts_33 : decode cX12_hurts 33 = .ok (.ifCond .ne 8, 3) := by decide +kernel
theorem dX12_hurts_36 : decode cX12_hurts 36 = .ok (.iload 5, 2) := by decide +kernel
theorem dX12_hurts_38 : decode cX12_hurts 38 = .ok (.goto 7, 3) := by decide +kernel
theorem dX12_hurts_41 : decode cX12_hurts 41 = .ok (.iload 5, 2) := by decide +kernel
theorem dX12_hurts_43 : decode cX12_hurts 43 = .ok (.iconst 3, 1) := by decide +kernel
theorem dX12_hurts_44 : decode cX12_hurts 44 = .ok (.iadd, 1) := by decide +kernel
theorem dX12_hurts_45 : decode cX12_hurts 45 = .ok (.istore 7, 2) := by decide +kernel
theorem dX12_hurts_47 : decode cX12_hurts 47 = .ok (.iload_n 0, 1) := by decide +kernel
theorem dX12_hurts_48 : decode cX12_hurts 48 = .ok (.tableswitch 65 1 5 #[36, 39, 42, 45, 57], 36) := by decide +kernel
theorem dX12_hurts_84 : decode cX12_hurts 84 = .ok (.iload 5, 2) := by decide +kernel
theorem dX12_hurts_86 : decode cX12_hurts 86 = .ok (.ireturn, 1) := by decide +kernel
theorem dX12_hurts_87 : decode cX12_hurts 87 = .ok (.iload 6, 2) := by decide +kernel
theorem dX12_hurts_89 : decode cX12_hurts 89 = .ok (.ireturn, 1) := by decide +kernel
theorem dX12_hurts_90 : decode cX12_hurts 90 = .ok (.iload 7, 2) := by decide +kernel
theorem dX12_hurts_92 : decode cX12_hurts 92 = .ok (.ireturn, 1) := by decide +kernel
theorem dX12_hurts_93 : decode cX12_hurts 93 = .ok (.iload_n 3, 1) := by decide +kernel
theorem dX12_hurts_94 : decode cX12_hurts 94 = .ok (.iconst 3, 1) := by decide +kernel
theorem dX12_hurts_95 : decode cX12_hurts 95 = .ok (.if_icmp .ge 7, 3) := by decide +kernel
theorem dX12_hurts_98 : decode cX12_hurts 98 = .ok (.iconst 0, 1) := by decide +kernel
theorem dX12_hurts_99 : decode cX12_hurts 99 = .ok (.goto 5, 3) := by decide +kernel
theorem dX12_hurts_102 : decode cX12_hurts 102 = .ok (.iload 7, 2) := by decide +kernel
theorem dX12_hurts_104 : decode cX12_hurts 104 = .ok (.ireturn, 1) := by decide +kernel
theorem dX12_hurts_105 : decode cX12_hurts 105 = .ok (.bipush 9, 2) := by decide +kernel
theorem dX12_hurts_107 : decode cX12_hurts 107 = .ok (.iload 6, 2) := by decide +kernel
theorem dX12_hurts_109 : decode cX12_hurts 109 = .ok (.invokestatic 75, 3) := by decide +kernel
theorem dX12_hurts_112 : decode cX12_hurts 112 = .ok (.ireturn, 1) := by decide +kernel
theorem dX12_hurts_113 : decode cX12_hurts 113 = .ok (.iload_n 3, 1) := by decide +kernel
theorem dX12_hurts_114 : decode cX12_hurts 114 = .ok (.ireturn, 1) := by decide +kernel
theorem dX12_canalOf_0 : decode cX12_canalOf 0 = .ok (.iload_n 0, 1) := by decide +kernel
theorem dX12_canalOf_1 : decode cX12_canalOf 1 = .ok (.iload_n 1, 1) := by decide +kernel
theorem dX12_canalOf_2 : decode cX12_canalOf 2 = .ok (.invokestatic 75, 3) := by decide +kernel
theorem dX12_canalOf_5 : decode cX12_canalOf 5 = .ok (.istore_n 2, 1) := by decide +kernel
theorem dX12_canalOf_6 : decode cX12_canalOf 6 = .ok (.iload_n 0, 1) := by decide +kernel
theorem dX12_canalOf_7 : decode cX12_canalOf 7 = .ok (.iload_n 1, 1) := by decide +kernel
theorem dX12_canalOf_8 : decode cX12_canalOf 8 = .ok (.iadd, 1) := by decide +kernel
theorem dX12_canalOf_9 : decode cX12_canalOf 9 = .ok (.iload_n 2, 1) := by decide +kernel
theorem dX12_canalOf_10 : decode cX12_canalOf 10 = .ok (.isub, 1) := by decide +kernel
theorem dX12_canalOf_11 : decode cX12_canalOf 11 = .ok (.istore_n 3, 1) := by decide +kernel
theorem dX12_canalOf_12 : decode cX12_canalOf 12 = .ok (.bipush 8, 2) := by decide +kernel
theorem dX12_canalOf_14 : decode cX12_canalOf 14 = .ok (.iload_n 2, 1) := by decide +kernel
theorem dX12_canalOf_15 : decode cX12_canalOf 15 = .ok (.bipush 15, 2) := by decide +kernel
theorem dX12_canalOf_17 : decode cX12_canalOf 17 = .ok (.iload_n 2, 1) := by decide +kernel
theorem dX12_canalOf_18 : decode cX12_canalOf 18 = .ok (.isub, 1) := by decide +kernel
theorem dX12_canalOf_19 : decode cX12_canalOf 19 = .ok (.imul, 1) := by decide +kernel
theorem dX12_canalOf_20 : decode cX12_canalOf 20 = .ok (.iconst 2, 1) := by decide +kernel
theorem dX12_canalOf_21 : decode cX12_canalOf 21 = .ok (.idiv, 1) := by decide +kernel
theorem dX12_canalOf_22 : decode cX12_canalOf 22 = .ok (.iadd, 1) := by decide +kernel
theorem dX12_canalOf_23 : decode cX12_canalOf 23 = .ok (.iload_n 3, 1) := by decide +kernel
theorem dX12_canalOf_24 : decode cX12_canalOf 24 = .ok (.iadd, 1) := by decide +kernel
theorem dX12_canalOf_25 : decode cX12_canalOf 25 = .ok (.iload_n 2, 1) := by decide +kernel
theorem dX12_canalOf_26 : decode cX12_canalOf 26 = .ok (.isub, 1) := by decide +kernel
theorem dX12_canalOf_27 : decode cX12_canalOf 27 = .ok (.iconst 1, 1) := by decide +kernel
theorem dX12_canalOf_28 : decode cX12_canalOf 28 = .ok (.isub, 1) := by decide +kernel
theorem dX12_canalOf_29 : decode cX12_canalOf 29 = .ok (.ireturn, 1) := by decide +kernel
theorem dX12_strokesOf_0 : decode cX12_strokesOf 0 = .ok (.iload_n 1, 1) := by decide +kernel
theorem dX12_strokesOf_1 : decode cX12_strokesOf 1 = .ok (.iload_n 2, 1) := by decide +kernel
theorem dX12_strokesOf_2 : decode cX12_strokesOf 2 = .ok (.if_icmp .ne 7, 3) := by decide +kernel
theorem dX12_strokesOf_5 : decode cX12_strokesOf 5 = .ok (.iconst 0, 1) := by decide +kernel
theorem dX12_strokesOf_6 : decode cX12_strokesOf 6 = .ok (.goto 13, 3) := by decide +kernel
theorem dX12_strokesOf_9 : decode cX12_strokesOf 9 = .ok (.aload_n 0, 1) := by decide +kernel
theorem dX12_strokesOf_10 : decode cX12_strokesOf 10 = .ok (.getfield 7, 3) := by decide +kernel
theorem dX12_strokesOf_13 : decode cX12_strokesOf 13 = .ok (.iload_n 1, 1) := by decide +kernel
theorem dX12_strokesOf_14 : decode cX12_strokesOf 14 = .ok (.iload_n 2, 1) := by decide +kernel
theorem dX12_strokesOf_15 : decode cX12_strokesOf 15 = .ok (.invokestatic 79, 3) := by decide +kernel
theorem dX12_strokesOf_18 : decode cX12_strokesOf 18 = .ok (.iaload, 1) := by decide +kernel
theorem dX12_strokesOf_19 : decode cX12_strokesOf 19 = .ok (.ireturn, 1) := by decide +kernel
theorem dX12_begins_0 : decode cX12_begins 0 = .ok (.iconst 0, 1) := by decide +kernel
theorem dX12_begins_1 : decode cX12_begins 1 = .ok (.istore_n 2, 1) := by decide +kernel
theorem dX12_begins_2 : decode cX12_begins 2 = .ok (.iload_n 2, 1) := by decide +kernel
theorem dX12_begins_3 : decode cX12_begins 3 = .ok (.sipush 286, 3) := by decide +kernel
theorem dX12_begins_6 : decode cX12_begins 6 = .ok (.if_icmp .ge 16, 3) := by decide +kernel
theorem dX12_begins_9 : decode cX12_begins 9 = .ok (.aload_n 0, 1) := by decide +kernel
theorem dX12_begins_10 : decode cX12_begins 10 = .ok (.getfield 7, 3) := by decide +kernel
theorem dX12_begins_13 : decode cX12_begins 13 = .ok (.iload_n 2, 1) := by decide +kernel
theorem dX12_begins_14 : decode cX12_begins 14 = .ok (.iconst 0, 1) := by decide +kernel
theorem dX12_begins_15 : decode cX12_begins 15 = .ok (.iastore, 1) := by decide +kernel
theorem dX12_begins_16 : decode cX12_begins 16 = .ok (.iinc 2 1, 3) := by decide +kernel
theorem dX12_begins_19 : decode cX12_begins 19 = .ok (.goto (-17), 3) := by decide +kernel
theorem dX12_begins_22 : decode cX12_begins 22 = .ok (.iconst 0, 1) := by decide +kernel
theorem dX12_begins_23 : decode cX12_begins 23 = .ok (.istore_n 2, 1) := by decide +kernel
theorem dX12_begins_24 : decode cX12_begins 24 = .ok (.iload_n 2, 1) := by decide +kernel
theorem dX12_begins_25 : decode cX12_begins 25 = .ok (.bipush 8, 2) := by decide +kernel
theorem dX12_begins_27 : decode cX12_begins 27 = .ok (.if_icmp .ge 18, 3) := by decide +kernel
theorem dX12_begins_30 : decode cX12_begins 30 = .ok (.aload_n 0, 1) := by decide +kernel
theorem dX12_begins_31 : decode cX12_begins 31 = .ok (.getfield 7, 3) := by decide +kernel
theorem dX12_begins_34 : decode cX12_begins 34 = .ok (.iconst 0, 1) := by decide +kernel
theorem dX12_begins_35 : decode cX12_begins 35 = .ok (.iload_n 2, 1) := by decide +kernel
theorem dX12_begins_36 : decode cX12_begins 36 = .ok (.iadd, 1) := by decide +kernel
theorem dX12_begins_37 : decode cX12_begins 37 = .ok (.iload_n 1, 1) := by decide +kernel
theorem dX12_begins_38 : decode cX12_begins 38 = .ok (.iastore, 1) := by decide +kernel
theorem dX12_begins_39 : decode cX12_begins 39 = .ok (.iinc 2 1, 3) := by decide +kernel
theorem dX12_begins_42 : decode cX12_begins 42 = .ok (.goto (-18), 3) := by decide +kernel
theorem dX12_begins_45 : decode cX12_begins 45 = .ok (.return_, 1) := by decide +kernel
theorem dX12_water_0 : decode cX12_water 0 = .ok (.iload_n 1, 1) := by decide +kernel
theorem dX12_water_1 : decode cX12_water 1 = .ok (.i2l, 1) := by decide +kernel
theorem dX12_water_2 : decode cX12_water 2 = .ok (.lconst 0, 1) := by decide +kernel
theorem dX12_water_3 : decode cX12_water 3 = .ok (.ldc2_w 82, 3) := by decide +kernel
theorem dX12_water_6 : decode cX12_water 6 = .ok (.invokestatic 69, 3) := by decide +kernel
theorem dX12_water_9 : decode cX12_water 9 = .ok (.ifCond .ne 10, 3) := by decide +kernel
theorem dX12_water_12 : decode cX12_water 12 = .ok (.aload_n 0, 1) := by decide +kernel
theorem dX12_water_13 : decode cX12_water 13 = .ok (.bipush (-2), 2) := by decide +kernel
theorem dX12_water_15 : decode cX12_water 15 = .ok (.invokevirtual 84, 3) := by decide +kernel
theorem dX12_water_18 : decode cX12_water 18 = .ok (.ireturn, 1) := by decide +kernel
theorem dX12_water_19 : decode cX12_water 19 = .ok (.aload_n 0, 1) := by decide +kernel
theorem dX12_water_20 : decode cX12_water 20 = .ok (.getfield 7, 3) := by decide +kernel
theorem dX12_water_23 : decode cX12_water 23 = .ok (.bipush 37, 2) := by decide +kernel
theorem dX12_water_25 : decode cX12_water 25 = .ok (.iaload, 1) := by decide +kernel
theorem dX12_water_26 : decode cX12_water 26 = .ok (.istore_n 2, 1) := by decide +kernel
theorem dX12_water_27 : decode cX12_water 27 = .ok (.aload_n 0, 1) := by decide +kernel
theorem dX12_water_28 : decode cX12_water 28 = .ok (.iload_n 1, 1) := by decide +kernel
theorem dX12_water_29 : decode cX12_water 29 = .ok (.invokevirtual 88, 3) := by decide +kernel
theorem dX12_water_32 : decode cX12_water 32 = .ok (.iload_n 2, 1) := by decide +kernel
theorem dX12_water_33 : decode cX12_water 33 = .ok (.ireturn, 1) := by decide +kernel
theorem dX12_dark_0 : decode cX12_dark 0 = .ok (.iload_n 1, 1) := by decide +kernel
theorem dX12_dark_1 : decode cX12_dark 1 = .ok (.invokestatic 92, 3) := by decide +kernel
theorem dX12_dark_4 : decode cX12_dark 4 = .ok (.ifCond .eq 15, 3) := by decide +kernel
theorem dX12_dark_7 : decode cX12_dark 7 = .ok (.iload_n 2, 1) := by decide +kernel
theorem dX12_dark_8 : decode cX12_dark 8 = .ok (.i2l, 1) := by decide +kernel
theorem dX12_dark_9 : decode cX12_dark 9 = .ok (.lconst 0, 1) := by decide +kernel
theorem dX12_dark_10 : decode cX12_dark 10 = .ok (.ldc2_w 82, 3) := by decide +kernel
theorem dX12_dark_13 : decode cX12_dark 13 = .ok (.invokestatic 69, 3) := by decide +kernel
theorem dX12_dark_16 : decode cX12_dark 16 = .ok (.ifCond .ne 10, 3) := by decide +kernel
theorem dX12_dark_19 : decode cX12_dark 19 = .ok (.aload_n 0, 1) := by decide +kernel
theorem dX12_dark_20 : decode cX12_dark 20 = .ok (.bipush (-2), 2) := by decide +kernel
theorem dX12_dark_22 : decode cX12_dark 22 = .ok (.invokevirtual 84, 3) := by decide +kernel
theorem dX12_dark_25 : decode cX12_dark 25 = .ok (.ireturn, 1) := by decide +kernel
theorem dX12_dark_26 : decode cX12_dark 26 = .ok (.aload_n 0, 1) := by decide +kernel
theorem dX12_dark_27 : decode cX12_dark 27 = .ok (.getfield 7, 3) := by decide +kernel
theorem dX12_dark_30 : decode cX12_dark 30 = .ok (.iconst 0, 1) := by decide +kernel
theorem dX12_dark_31 : decode cX12_dark 31 = .ok (.iload_n 1, 1) := by decide +kernel
theorem dX12_dark_32 : decode cX12_dark 32 = .ok (.iadd, 1) := by decide +kernel
theorem dX12_dark_33 : decode cX12_dark 33 = .ok (.iaload, 1) := by decide +kernel
theorem dX12_dark_34 : decode cX12_dark 34 = .ok (.istore_n 3, 1) := by decide +kernel
theorem dX12_dark_35 : decode cX12_dark 35 = .ok (.aload_n 0, 1) := by decide +kernel
theorem dX12_dark_36 : decode cX12_dark 36 = .ok (.getfield 7, 3) := by decide +kernel
theorem dX12_dark_39 : decode cX12_dark 39 = .ok (.iconst 0, 1) := by decide +kernel
theorem dX12_dark_40 : decode cX12_dark 40 = .ok (.iload_n 1, 1) := by decide +kernel
theorem dX12_dark_41 : decode cX12_dark 41 = .ok (.iadd, 1) := by decide +kernel
theorem dX12_dark_42 : decode cX12_dark 42 = .ok (.iload_n 2, 1) := by decide +kernel
theorem dX12_dark_43 : decode cX12_dark 43 = .ok (.iastore, 1) := by decide +kernel
theorem dX12_dark_44 : decode cX12_dark 44 = .ok (.aload_n 0, 1) := by decide +kernel
theorem dX12_dark_45 : decode cX12_dark 45 = .ok (.getfield 7, 3) := by decide +kernel
theorem dX12_dark_48 : decode cX12_dark 48 = .ok (.sipush 157, 3) := by decide +kernel
theorem dX12_dark_51 : decode cX12_dark 51 = .ok (.iconst 0, 1) := by decide +kernel
theorem dX12_dark_52 : decode cX12_dark 52 = .ok (.iastore, 1) := by decide +kernel
theorem dX12_dark_53 : decode cX12_dark 53 = .ok (.iload_n 3, 1) := by decide +kernel
theorem dX12_dark_54 : decode cX12_dark 54 = .ok (.ireturn, 1) := by decide +kernel
theorem dX12_canal_0 : decode cX12_canal 0 = .ok (.iload_n 1, 1) := by decide +kernel
theorem dX12_canal_1 : decode cX12_canal 1 = .ok (.invokestatic 92, 3) := by decide +kernel
theorem dX12_canal_4 : decode cX12_canal 4 = .ok (.ifCond .eq 27, 3) := by decide +kernel
theorem dX12_canal_7 : decode cX12_canal 7 = .ok (.iload_n 2, 1) := by decide +kernel
theorem dX12_canal_8 : decode cX12_canal 8 = .ok (.invokestatic 92, 3) := by decide +kernel
theorem dX12_canal_11 : decode cX12_canal 11 = .ok (.ifCond .eq 20, 3) := by decide +kernel
theorem dX12_canal_14 : decode cX12_canal 14 = .ok (.iload_n 1, 1) := by decide +kernel
theorem dX12_canal_15 : decode cX12_canal 15 = .ok (.iload_n 2, 1) := by decide +kernel
theorem dX12_canal_16 : decode cX12_canal 16 = .ok (.if_icmp .eq 15, 3) := by decide +kernel
theorem dX12_canal_19 : decode cX12_canal 19 = .ok (.iload_n 3, 1) := by decide +kernel
theorem dX12_canal_20 : decode cX12_canal 20 = .ok (.i2l, 1) := by decide +kernel
theorem dX12_canal_21 : decode cX12_canal 21 = .ok (.lconst 0, 1) := by decide +kernel
theorem dX12_canal_22 : decode cX12_canal 22 = .ok (.ldc2_w 82, 3) := by decide +kernel
theorem dX12_canal_25 : decode cX12_canal 25 = .ok (.invokestatic 69, 3) := by decide +kernel
theorem dX12_canal_28 : decode cX12_canal 28 = .ok (.ifCond .ne 10, 3) := by decide +kernel
theorem dX12_canal_31 : decode cX12_canal 31 = .ok (.aload_n 0, 1) := by decide +kernel
theorem dX12_canal_32 : decode cX12_canal 32 = .ok (.bipush (-2), 2) := by decide +kernel
theorem dX12_canal_34 : decode cX12_canal 34 = .ok (.invokevirtual 84, 3) := by decide +kernel
theorem dX12_canal_37 : decode cX12_canal 37 = .ok (.ireturn, 1) := by decide +kernel
theorem dX12_canal_38 : decode cX12_canal 38 = .ok (.aload_n 0, 1) := by decide +kernel
theorem dX12_canal_39 : decode cX12_canal 39 = .ok (.iload_n 1, 1) := by decide +kernel
theorem dX12_canal_40 : decode cX12_canal 40 = .ok (.iload_n 2, 1) := by decide +kernel
theorem dX12_canal_41 : decode cX12_canal 41 = .ok (.invokevirtual 96, 3) := by decide +kernel
theorem dX12_canal_44 : decode cX12_canal 44 = .ok (.istore 4, 2) := by decide +kernel
theorem dX12_canal_46 : decode cX12_canal 46 = .ok (.aload_n 0, 1) := by decide +kernel
theorem dX12_canal_47 : decode cX12_canal 47 = .ok (.getfield 7, 3) := by decide +kernel
theorem dX12_canal_50 : decode cX12_canal 50 = .ok (.iload_n 1, 1) := by decide +kernel
theorem dX12_canal_51 : decode cX12_canal 51 = .ok (.iload_n 2, 1) := by decide +kernel
theorem dX12_canal_52 : decode cX12_canal 52 = .ok (.invokestatic 79, 3) := by decide +kernel
theorem dX12_canal_55 : decode cX12_canal 55 = .ok (.iload_n 3, 1) := by decide +kernel
theorem dX12_canal_56 : decode cX12_canal 56 = .ok (.iastore, 1) := by decide +kernel
theorem dX12_canal_57 : decode cX12_canal 57 = .ok (.aload_n 0, 1) := by decide +kernel
theorem dX12_canal_58 : decode cX12_canal 58 = .ok (.getfield 7, 3) := by decide +kernel
theorem dX12_canal_61 : decode cX12_canal 61 = .ok (.sipush 157, 3) := by decide +kernel
theorem dX12_canal_64 : decode cX12_canal 64 = .ok (.iconst 0, 1) := by decide +kernel
theorem dX12_canal_65 : decode cX12_canal 65 = .ok (.iastore, 1) := by decide +kernel
theorem dX12_canal_66 : decode cX12_canal 66 = .ok (.iload 4, 2) := by decide +kernel
theorem dX12_canal_68 : decode cX12_canal 68 = .ok (.ireturn, 1) := by decide +kernel
theorem dX12_addRower_0 : decode cX12_addRower 0 = .ok (.aload_n 0, 1) := by decide +kernel
theorem dX12_addRower_1 : decode cX12_addRower 1 = .ok (.getfield 7, 3) := by decide +kernel
theorem dX12_addRower_4 : decode cX12_addRower 4 = .ok (.bipush 38, 2) := by decide +kernel
theorem dX12_addRower_6 : decode cX12_addRower 6 = .ok (.aload_n 0, 1) := by decide +kernel
theorem dX12_addRower_7 : decode cX12_addRower 7 = .ok (.getfield 7, 3) := by decide +kernel
theorem dX12_addRower_10 : decode cX12_addRower 10 = .ok (.bipush 36, 2) := by decide +kernel
theorem dX12_addRower_12 : decode cX12_addRower 12 = .ok (.iaload, 1) := by decide +kernel
theorem dX12_addRower_13 : decode cX12_addRower 13 = .ok (.iadd, 1) := by decide +kernel
theorem dX12_addRower_14 : decode cX12_addRower 14 = .ok (.iload_n 1, 1) := by decide +kernel
theorem dX12_addRower_15 : decode cX12_addRower 15 = .ok (.iastore, 1) := by decide +kernel
theorem dX12_addRower_16 : decode cX12_addRower 16 = .ok (.aload_n 0, 1) := by decide +kernel
theorem dX12_addRower_17 : decode cX12_addRower 17 = .ok (.getfield 7, 3) := by decide +kernel
theorem dX12_addRower_20 : decode cX12_addRower 20 = .ok (.bipush 41, 2) := by decide +kernel
theorem dX12_addRower_22 : decode cX12_addRower 22 = .ok (.aload_n 0, 1) := by decide +kernel
theorem dX12_addRower_23 : decode cX12_addRower 23 = .ok (.getfield 7, 3) := by decide +kernel
theorem dX12_addRower_26 : decode cX12_addRower 26 = .ok (.bipush 36, 2) := by decide +kernel
theorem dX12_addRower_28 : decode cX12_addRower 28 = .ok (.iaload, 1) := by decide +kernel
theorem dX12_addRower_29 : decode cX12_addRower 29 = .ok (.iadd, 1) := by decide +kernel
theorem dX12_addRower_30 : decode cX12_addRower 30 = .ok (.iload_n 2, 1) := by decide +kernel
theorem dX12_addRower_31 : decode cX12_addRower 31 = .ok (.iastore, 1) := by decide +kernel
theorem dX12_addRower_32 : decode cX12_addRower 32 = .ok (.aload_n 0, 1) := by decide +kernel
theorem dX12_addRower_33 : decode cX12_addRower 33 = .ok (.getfield 7, 3) := by decide +kernel
theorem dX12_addRower_36 : decode cX12_addRower 36 = .ok (.bipush 36, 2) := by decide +kernel
theorem dX12_addRower_38 : decode cX12_addRower 38 = .ok (.dup2, 1) := by decide +kernel
theorem dX12_addRower_39 : decode cX12_addRower 39 = .ok (.iaload, 1) := by decide +kernel
theorem dX12_addRower_40 : decode cX12_addRower 40 = .ok (.iconst 1, 1) := by decide +kernel
theorem dX12_addRower_41 : decode cX12_addRower 41 = .ok (.iadd, 1) := by decide +kernel
theorem dX12_addRower_42 : decode cX12_addRower 42 = .ok (.iastore, 1) := by decide +kernel
theorem dX12_addRower_43 : decode cX12_addRower 43 = .ok (.aload_n 0, 1) := by decide +kernel
theorem dX12_addRower_44 : decode cX12_addRower 44 = .ok (.getfield 7, 3) := by decide +kernel
theorem dX12_addRower_47 : decode cX12_addRower 47 = .ok (.sipush 157, 3) := by decide +kernel
theorem dX12_addRower_50 : decode cX12_addRower 50 = .ok (.iconst 0, 1) := by decide +kernel
theorem dX12_addRower_51 : decode cX12_addRower 51 = .ok (.iastore, 1) := by decide +kernel
theorem dX12_addRower_52 : decode cX12_addRower 52 = .ok (.return_, 1) := by decide +kernel
theorem dX12_rower_0 : decode cX12_rower 0 = .ok (.iload_n 1, 1) := by decide +kernel
theorem dX12_rower_1 : decode cX12_rower 1 = .ok (.i2l, 1) := by decide +kernel
theorem dX12_rower_2 : decode cX12_rower 2 = .ok (.lconst 0, 1) := by decide +kernel
theorem dX12_rower_3 : decode cX12_rower 3 = .ok (.ldc2_w 99, 3) := by decide +kernel
theorem dX12_rower_6 : decode cX12_rower 6 = .ok (.invokestatic 69, 3) := by decide +kernel
theorem dX12_rower_9 : decode cX12_rower 9 = .ok (.ifCond .eq 15, 3) := by decide +kernel
theorem dX12_rower_12 : decode cX12_rower 12 = .ok (.iload_n 2, 1) := by decide +kernel
theorem dX12_rower_13 : decode cX12_rower 13 = .ok (.i2l, 1) := by decide +kernel
theorem dX12_rower_14 : decode cX12_rower 14 = .ok (.lconst 0, 1) := by decide +kernel
theorem dX12_rower_15 : decode cX12_rower 15 = .ok (.ldc2_w 82, 3) := by decide +kernel
theorem dX12_rower_18 : decode cX12_rower 18 = .ok (.invokestatic 69, 3) := by decide +kernel
theorem dX12_rower_21 : decode cX12_rower 21 = .ok (.ifCond .ne 10, 3) := by decide +kernel
theorem dX12_rower_24 : decode cX12_rower 24 = .ok (.aload_n 0, 1) := by decide +kernel
theorem dX12_rower_25 : decode cX12_rower 25 = .ok (.bipush (-2), 2) := by decide +kernel
theorem dX12_rower_27 : decode cX12_rower 27 = .ok (.invokevirtual 84, 3) := by decide +kernel
theorem dX12_rower_30 : decode cX12_rower 30 = .ok (.ireturn, 1) := by decide +kernel
theorem dX12_rower_31 : decode cX12_rower 31 = .ok (.aload_n 0, 1) := by decide +kernel
theorem dX12_rower_32 : decode cX12_rower 32 = .ok (.getfield 7, 3) := by decide +kernel
theorem dX12_rower_35 : decode cX12_rower 35 = .ok (.bipush 36, 2) := by decide +kernel
theorem dX12_rower_37 : decode cX12_rower 37 = .ok (.iaload, 1) := by decide +kernel
theorem dX12_rower_38 : decode cX12_rower 38 = .ok (.iconst 3, 1) := by decide +kernel
theorem dX12_rower_39 : decode cX12_rower 39 = .ok (.if_icmp .ne 8, 3) := by decide +kernel
theorem dX12_rower_42 : decode cX12_rower 42 = .ok (.aload_n 0, 1) := by decide +kernel
theorem dX12_rower_43 : decode cX12_rower 43 = .ok (.invokevirtual 101, 3) := by decide +kernel
theorem dX12_rower_46 : decode cX12_rower 46 = .ok (.ireturn, 1) := by decide +kernel
theorem dX12_rower_47 : decode cX12_rower 47 = .ok (.aload_n 0, 1) := by decide +kernel
theorem dX12_rower_48 : decode cX12_rower 48 = .ok (.iload_n 1, 1) := by decide +kernel
theorem dX12_rower_49 : decode cX12_rower 49 = .ok (.iload_n 2, 1) := by decide +kernel
theorem dX12_rower_50 : decode cX12_rower 50 = .ok (.invokevirtual 105, 3) := by decide +kernel
theorem dX12_rower_53 : decode cX12_rower 53 = .ok (.aload_n 0, 1) := by decide +kernel
theorem dX12_rower_54 : decode cX12_rower 54 = .ok (.getfield 7, 3) := by decide +kernel
theorem dX12_rower_57 : decode cX12_rower 57 = .ok (.bipush 36, 2) := by decide +kernel
theorem dX12_rower_59 : decode cX12_rower 59 = .ok (.iaload, 1) := by decide +kernel
theorem dX12_rower_60 : decode cX12_rower 60 = .ok (.iconst 1, 1) := by decide +kernel
theorem dX12_rower_61 : decode cX12_rower 61 = .ok (.isub, 1) := by decide +kernel
theorem dX12_rower_62 : decode cX12_rower 62 = .ok (.ireturn, 1) := by decide +kernel
theorem dX12_addGuest_0 : decode cX12_addGuest 0 = .ok (.aload_n 0, 1) := by decide +kernel
theorem dX12_addGuest_1 : decode cX12_addGuest 1 = .ok (.getfield 7, 3) := by decide +kernel
theorem dX12_addGuest_4 : decode cX12_addGuest 4 = .ok (.bipush 44, 2) := by decide +kernel
theorem dX12_addGuest_6 : decode cX12_addGuest 6 = .ok (.aload_n 0, 1) := by decide +kernel
theorem dX12_addGuest_7 : decode cX12_addGuest 7 = .ok (.getfield 7, 3) := by decide +kernel
theorem dX12_addGuest_10 : decode cX12_addGuest 10 = .ok (.bipush 37, 2) := by decide +kernel
theorem dX12_addGuest_12 : decode cX12_addGuest 12 = .ok (.iaload, 1) := by decide +kernel
theorem dX12_addGuest_13 : decode cX12_addGuest 13 = .ok (.iadd, 1) := by decide +kernel
theorem dX12_addGuest_14 : decode cX12_addGuest 14 = .ok (.iload_n 1, 1) := by decide +kernel
theorem dX12_addGuest_15 : decode cX12_addGuest 15 = .ok (.iastore, 1) := by decide +kernel
theorem dX12_addGuest_16 : decode cX12_addGuest 16 = .ok (.aload_n 0, 1) := by decide +kernel
theorem dX12_addGuest_17 : decode cX12_addGuest 17 = .ok (.getfield 7, 3) := by decide +kernel
theorem dX12_addGuest_20 : decode cX12_addGuest 20 = .ok (.bipush 48, 2) := by decide +kernel
theorem dX12_addGuest_22 : decode cX12_addGuest 22 = .ok (.aload_n 0, 1) := by decide +kernel
theorem dX12_addGuest_23 : decode cX12_addGuest 23 = .ok (.getfield 7, 3) := by decide +kernel
theorem dX12_addGuest_26 : decode cX12_addGuest 26 = .ok (.bipush 37, 2) := by decide +kernel
theorem dX12_addGuest_28 : decode cX12_addGuest 28 = .ok (.iaload, 1) := by decide +kernel
theorem dX12_addGuest_29 : decode cX12_addGuest 29 = .ok (.iadd, 1) := by decide +kernel
theorem dX12_addGuest_30 : decode cX12_addGuest 30 = .ok (.iload_n 2, 1) := by decide +kernel
theorem dX12_addGuest_31 : decode cX12_addGuest 31 = .ok (.iastore, 1) := by decide +kernel
theorem dX12_addGuest_32 : decode cX12_addGuest 32 = .ok (.aload_n 0, 1) := by decide +kernel
theorem dX12_addGuest_33 : decode cX12_addGuest 33 = .ok (.getfield 7, 3) := by decide +kernel
theorem dX12_addGuest_36 : decode cX12_addGuest 36 = .ok (.bipush 37, 2) := by decide +kernel
theorem dX12_addGuest_38 : decode cX12_addGuest 38 = .ok (.dup2, 1) := by decide +kernel
theorem dX12_addGuest_39 : decode cX12_addGuest 39 = .ok (.iaload, 1) := by decide +kernel
theorem dX12_addGuest_40 : decode cX12_addGuest 40 = .ok (.iconst 1, 1) := by decide +kernel
theorem dX12_addGuest_41 : decode cX12_addGuest 41 = .ok (.iadd, 1) := by decide +kernel
theorem dX12_addGuest_42 : decode cX12_addGuest 42 = .ok (.iastore, 1) := by decide +kernel
theorem dX12_addGuest_43 : decode cX12_addGuest 43 = .ok (.aload_n 0, 1) := by decide +kernel
theorem dX12_addGuest_44 : decode cX12_addGuest 44 = .ok (.getfield 7, 3) := by decide +kernel
theorem dX12_addGuest_47 : decode cX12_addGuest 47 = .ok (.sipush 157, 3) := by decide +kernel
theorem dX12_addGuest_50 : decode cX12_addGuest 50 = .ok (.iconst 0, 1) := by decide +kernel
theorem dX12_addGuest_51 : decode cX12_addGuest 51 = .ok (.iastore, 1) := by decide +kernel
theorem dX12_addGuest_52 : decode cX12_addGuest 52 = .ok (.return_, 1) := by decide +kernel
theorem dX12_guest_0 : decode cX12_guest 0 = .ok (.iload_n 1, 1) := by decide +kernel
theorem dX12_guest_1 : decode cX12_guest 1 = .ok (.i2l, 1) := by decide +kernel
theorem dX12_guest_2 : decode cX12_guest 2 = .ok (.lconst 0, 1) := by decide +kernel
theorem dX12_guest_3 : decode cX12_guest 3 = .ok (.ldc2_w 99, 3) := by decide +kernel
theorem dX12_guest_6 : decode cX12_guest 6 = .ok (.invokestatic 69, 3) := by decide +kernel
theorem dX12_guest_9 : decode cX12_guest 9 = .ok (.ifCond .eq 15, 3) := by decide +kernel
theorem dX12_guest_12 : decode cX12_guest 12 = .ok (.iload_n 2, 1) := by decide +kernel
theorem dX12_guest_13 : decode cX12_guest 13 = .ok (.i2l, 1) := by decide +kernel
theorem dX12_guest_14 : decode cX12_guest 14 = .ok (.lconst 1, 1) := by decide +kernel
theorem dX12_guest_15 : decode cX12_guest 15 = .ok (.ldc2_w 109, 3) := by decide +kernel
theorem dX12_guest_18 : decode cX12_guest 18 = .ok (.invokestatic 69, 3) := by decide +kernel
theorem dX12_guest_21 : decode cX12_guest 21 = .ok (.ifCond .ne 10, 3) := by decide +kernel
theorem dX12_guest_24 : decode cX12_guest 24 = .ok (.aload_n 0, 1) := by decide +kernel
theorem dX12_guest_25 : decode cX12_guest 25 = .ok (.bipush (-2), 2) := by decide +kernel
theorem dX12_guest_27 : decode cX12_guest 27 = .ok (.invokevirtual 84, 3) := by decide +kernel
theorem dX12_guest_30 : decode cX12_guest 30 = .ok (.ireturn, 1) := by decide +kernel
theorem dX12_guest_31 : decode cX12_guest 31 = .ok (.aload_n 0, 1) := by decide +kernel
theorem dX12_guest_32 : decode cX12_guest 32 = .ok (.getfield 7, 3) := by decide +kernel
theorem dX12_guest_35 : decode cX12_guest 35 = .ok (.bipush 37, 2) := by decide +kernel
theorem dX12_guest_37 : decode cX12_guest 37 = .ok (.iaload, 1) := by decide +kernel
