theorem dX12_mark_97 : decode cX12_mark 97 = .ok (.getfield 7, 3) := by decide +kernel
theorem dX12_mark_100 : decode cX12_mark 100 = .ok (.iload 6, 2) := by decide +kernel
theorem dX12_mark_102 : decode cX12_mark 102 = .ok (.iload_n 1, 1) := by decide +kernel
theorem dX12_mark_103 : decode cX12_mark 103 = .ok (.iastore, 1) := by decide +kernel
theorem dX12_mark_104 : decode cX12_mark 104 = .ok (.aload_n 0, 1) := by decide +kernel
theorem dX12_mark_105 : decode cX12_mark 105 = .ok (.getfield 7, 3) := by decide +kernel
theorem dX12_mark_108 : decode cX12_mark 108 = .ok (.iload 6, 2) := by decide +kernel
theorem dX12_mark_110 : decode cX12_mark 110 = .ok (.iconst 1, 1) := by decide +kernel
theorem dX12_mark_111 : decode cX12_mark 111 = .ok (.iadd, 1) := by decide +kernel
theorem dX12_mark_112 : decode cX12_mark 112 = .ok (.iload_n 2, 1) := by decide +kernel
theorem dX12_mark_113 : decode cX12_mark 113 = .ok (.iastore, 1) := by decide +kernel
theorem dX12_mark_114 : decode cX12_mark 114 = .ok (.aload_n 0, 1) := by decide +kernel
theorem dX12_mark_115 : decode cX12_mark 115 = .ok (.getfield 7, 3) := by decide +kernel
theorem dX12_mark_118 : decode cX12_mark 118 = .ok (.iload 6, 2) := by decide +kernel
theorem dX12_mark_120 : decode cX12_mark 120 = .ok (.iconst 2, 1) := by decide +kernel
theorem dX12_mark_121 : decode cX12_mark 121 = .ok (.iadd, 1) := by decide +kernel
theorem dX12_mark_122 : decode cX12_mark 122 = .ok (.iload_n 3, 1) := by decide +kernel
theorem dX12_mark_123 : decode cX12_mark 123 = .ok (.iastore, 1) := by decide +kernel
theorem dX12_mark_124 : decode cX12_mark 124 = .ok (.aload_n 0, 1) := by decide +kernel
theorem dX12_mark_125 : decode cX12_mark 125 = .ok (.getfield 7, 3) := by decide +kernel
theorem dX12_mark_128 : decode cX12_mark 128 = .ok (.iload 6, 2) := by decide +kernel
theorem dX12_mark_130 : decode cX12_mark 130 = .ok (.iconst 3, 1) := by decide +kernel
theorem dX12_mark_131 : decode cX12_mark 131 = .ok (.iadd, 1) := by decide +kernel
theorem dX12_mark_132 : decode cX12_mark 132 = .ok (.iload 4, 2) := by decide +kernel
theorem dX12_mark_134 : decode cX12_mark 134 = .ok (.iastore, 1) := by decide +kernel
theorem dX12_mark_135 : decode cX12_mark 135 = .ok (.aload_n 0, 1) := by decide +kernel
theorem dX12_mark_136 : decode cX12_mark 136 = .ok (.getfield 7, 3) := by decide +kernel
theorem dX12_mark_139 : decode cX12_mark 139 = .ok (.iload 6, 2) := by decide +kernel
theorem dX12_mark_141 : decode cX12_mark 141 = .ok (.iconst 4, 1) := by decide +kernel
theorem dX12_mark_142 : decode cX12_mark 142 = .ok (.iadd, 1) := by decide +kernel
theorem dX12_mark_143 : decode cX12_mark 143 = .ok (.iload 5, 2) := by decide +kernel
theorem dX12_mark_145 : decode cX12_mark 145 = .ok (.iastore, 1) := by decide +kernel
theorem dX12_mark_146 : decode cX12_mark 146 = .ok (.aload_n 0, 1) := by decide +kernel
theorem dX12_mark_147 : decode cX12_mark 147 = .ok (.getfield 7, 3) := by decide +kernel
theorem dX12_mark_150 : decode cX12_mark 150 = .ok (.bipush 126, 2) := by decide +kernel
theorem dX12_mark_152 : decode cX12_mark 152 = .ok (.dup2, 1) := by decide +kernel
theorem dX12_mark_153 : decode cX12_mark 153 = .ok (.iaload, 1) := by decide +kernel
theorem dX12_mark_154 : decode cX12_mark 154 = .ok (.iconst 1, 1) := by decide +kernel
theorem dX12_mark_155 : decode cX12_mark 155 = .ok (.iadd, 1) := by decide +kernel
theorem dX12_mark_156 : decode cX12_mark 156 = .ok (.iastore, 1) := by decide +kernel
theorem dX12_mark_157 : decode cX12_mark 157 = .ok (.aload_n 0, 1) := by decide +kernel
theorem dX12_mark_158 : decode cX12_mark 158 = .ok (.getfield 7, 3) := by decide +kernel
theorem dX12_mark_161 : decode cX12_mark 161 = .ok (.bipush 126, 2) := by decide +kernel
theorem dX12_mark_163 : decode cX12_mark 163 = .ok (.iaload, 1) := by decide +kernel
theorem dX12_mark_164 : decode cX12_mark 164 = .ok (.ireturn, 1) := by decide +kernel
theorem dX12_forget_0 : decode cX12_forget 0 = .ok (.iload_n 1, 1) := by decide +kernel
theorem dX12_forget_1 : decode cX12_forget 1 = .ok (.i2l, 1) := by decide +kernel
theorem dX12_forget_2 : decode cX12_forget 2 = .ok (.lconst 0, 1) := by decide +kernel
theorem dX12_forget_3 : decode cX12_forget 3 = .ok (.ldc2_w 202, 3) := by decide +kernel
theorem dX12_forget_6 : decode cX12_forget 6 = .ok (.invokestatic 69, 3) := by decide +kernel
theorem dX12_forget_9 : decode cX12_forget 9 = .ok (.ifCond .ne 10, 3) := by decide +kernel
theorem dX12_forget_12 : decode cX12_forget 12 = .ok (.aload_n 0, 1) := by decide +kernel
theorem dX12_forget_13 : decode cX12_forget 13 = .ok (.bipush (-2), 2) := by decide +kernel
theorem dX12_forget_15 : decode cX12_forget 15 = .ok (.invokevirtual 84, 3) := by decide +kernel
theorem dX12_forget_18 : decode cX12_forget 18 = .ok (.ireturn, 1) := by decide +kernel
theorem dX12_forget_19 : decode cX12_forget 19 = .ok (.iload_n 1, 1) := by decide +kernel
theorem dX12_forget_20 : decode cX12_forget 20 = .ok (.ifCond .ne 8, 3) := by decide +kernel
theorem dX12_forget_23 : decode cX12_forget 23 = .ok (.bipush 68, 2) := by decide +kernel
theorem dX12_forget_25 : decode cX12_forget 25 = .ok (.goto 15, 3) := by decide +kernel
theorem dX12_forget_28 : decode cX12_forget 28 = .ok (.iload_n 1, 1) := by decide +kernel
theorem dX12_forget_29 : decode cX12_forget 29 = .ok (.iconst 1, 1) := by decide +kernel
theorem dX12_forget_30 : decode cX12_forget 30 = .ok (.if_icmp .ne 8, 3) := by decide +kernel
theorem dX12_forget_33 : decode cX12_forget 33 = .ok (.bipush 89, 2) := by decide +kernel
theorem dX12_forget_35 : decode cX12_forget 35 = .ok (.goto 5, 3) := by decide +kernel
theorem dX12_forget_38 : decode cX12_forget 38 = .ok (.bipush 126, 2) := by decide +kernel
theorem dX12_forget_40 : decode cX12_forget 40 = .ok (.istore_n 2, 1) := by decide +kernel
theorem dX12_forget_41 : decode cX12_forget 41 = .ok (.aload_n 0, 1) := by decide +kernel
theorem dX12_forget_42 : decode cX12_forget 42 = .ok (.getfield 7, 3) := by decide +kernel
theorem dX12_forget_45 : decode cX12_forget 45 = .ok (.iload_n 2, 1) := by decide +kernel
theorem dX12_forget_46 : decode cX12_forget 46 = .ok (.iaload, 1) := by decide +kernel
theorem dX12_forget_47 : decode cX12_forget 47 = .ok (.istore_n 3, 1) := by decide +kernel
theorem dX12_forget_48 : decode cX12_forget 48 = .ok (.aload_n 0, 1) := by decide +kernel
theorem dX12_forget_49 : decode cX12_forget 49 = .ok (.getfield 7, 3) := by decide +kernel
theorem dX12_forget_52 : decode cX12_forget 52 = .ok (.iload_n 2, 1) := by decide +kernel
theorem dX12_forget_53 : decode cX12_forget 53 = .ok (.iconst 0, 1) := by decide +kernel
theorem dX12_forget_54 : decode cX12_forget 54 = .ok (.iastore, 1) := by decide +kernel
theorem dX12_forget_55 : decode cX12_forget 55 = .ok (.iload_n 3, 1) := by decide +kernel
theorem dX12_forget_56 : decode cX12_forget 56 = .ok (.ireturn, 1) := by decide +kernel
theorem dX12_guestsOf_0 : decode cX12_guestsOf 0 = .ok (.bipush 63, 2) := by decide +kernel
theorem dX12_guestsOf_2 : decode cX12_guestsOf 2 = .ok (.istore_n 2, 1) := by decide +kernel
theorem dX12_guestsOf_3 : decode cX12_guestsOf 3 = .ok (.iconst 0, 1) := by decide +kernel
theorem dX12_guestsOf_4 : decode cX12_guestsOf 4 = .ok (.istore_n 3, 1) := by decide +kernel
theorem dX12_guestsOf_5 : decode cX12_guestsOf 5 = .ok (.iload_n 3, 1) := by decide +kernel
theorem dX12_guestsOf_6 : decode cX12_guestsOf 6 = .ok (.aload_n 0, 1) := by decide +kernel
theorem dX12_guestsOf_7 : decode cX12_guestsOf 7 = .ok (.getfield 7, 3) := by decide +kernel
theorem dX12_guestsOf_10 : decode cX12_guestsOf 10 = .ok (.bipush 89, 2) := by decide +kernel
theorem dX12_guestsOf_12 : decode cX12_guestsOf 12 = .ok (.iaload, 1) := by decide +kernel
theorem dX12_guestsOf_13 : decode cX12_guestsOf 13 = .ok (.if_icmp .ge 112, 3) := by decide +kernel
theorem dX12_guestsOf_16 : decode cX12_guestsOf 16 = .ok (.bipush 90, 2) := by decide +kernel
theorem dX12_guestsOf_18 : decode cX12_guestsOf 18 = .ok (.bipush 6, 2) := by decide +kernel
theorem dX12_guestsOf_20 : decode cX12_guestsOf 20 = .ok (.iload_n 3, 1) := by decide +kernel
theorem dX12_guestsOf_21 : decode cX12_guestsOf 21 = .ok (.imul, 1) := by decide +kernel
theorem dX12_guestsOf_22 : decode cX12_guestsOf 22 = .ok (.iadd, 1) := by decide +kernel
theorem dX12_guestsOf_23 : decode cX12_guestsOf 23 = .ok (.istore 4, 2) := by decide +kernel
theorem dX12_guestsOf_25 : decode cX12_guestsOf 25 = .ok (.iconst 0, 1) := by decide +kernel
theorem dX12_guestsOf_26 : decode cX12_guestsOf 26 = .ok (.istore 5, 2) := by decide +kernel
theorem dX12_guestsOf_28 : decode cX12_guestsOf 28 = .ok (.iload 5, 2) := by decide +kernel
theorem dX12_guestsOf_30 : decode cX12_guestsOf 30 = .ok (.bipush 6, 2) := by decide +kernel
theorem dX12_guestsOf_32 : decode cX12_guestsOf 32 = .ok (.if_icmp .ge 87, 3) := by decide +kernel
theorem dX12_guestsOf_35 : decode cX12_guestsOf 35 = .ok (.aload_n 0, 1) := by decide +kernel
theorem dX12_guestsOf_36 : decode cX12_guestsOf 36 = .ok (.getfield 7, 3) := by decide +kernel
theorem dX12_guestsOf_39 : decode cX12_guestsOf 39 = .ok (.iload 4, 2) := by decide +kernel
theorem dX12_guestsOf_41 : decode cX12_guestsOf 41 = .ok (.iaload, 1) := by decide +kernel
theorem dX12_guestsOf_42 : decode cX12_guestsOf 42 = .ok (.iload_n 1, 1) := by decide +kernel
theorem dX12_guestsOf_43 : decode cX12_guestsOf 43 = .ok (.if_icmp .ne 76, 3) := by decide +kernel
theorem dX12_guestsOf_46 : decode cX12_guestsOf 46 = .ok (.iload_n 2, 1) := by decide +kernel
theorem dX12_guestsOf_47 : decode cX12_guestsOf 47 = .ok (.iload 5, 2) := by decide +kernel
theorem dX12_guestsOf_49 : decode cX12_guestsOf 49 = .ok (.aload_n 0, 1) := by decide +kernel
theorem dX12_guestsOf_50 : decode cX12_guestsOf 50 = .ok (.getfield 7, 3) := by decide +kernel
theorem dX12_guestsOf_53 : decode cX12_guestsOf 53 = .ok (.iload 4, 2) := by decide +kernel
theorem dX12_guestsOf_55 : decode cX12_guestsOf 55 = .ok (.iconst 1, 1) := by decide +kernel
theorem dX12_guestsOf_56 : decode cX12_guestsOf 56 = .ok (.iadd, 1) := by decide +kernel
theorem dX12_guestsOf_57 : decode cX12_guestsOf 57 = .ok (.iaload, 1) := by decide +kernel
theorem dX12_guestsOf_58 : decode cX12_guestsOf 58 = .ok (.aload_n 0, 1) := by decide +kernel
theorem dX12_guestsOf_59 : decode cX12_guestsOf 59 = .ok (.getfield 7, 3) := by decide +kernel
theorem dX12_guestsOf_62 : decode cX12_guestsOf 62 = .ok (.iload 4, 2) := by decide +kernel
theorem dX12_guestsOf_64 : decode cX12_guestsOf 64 = .ok (.iconst 2, 1) := by decide +kernel
theorem dX12_guestsOf_65 : decode cX12_guestsOf 65 = .ok (.iadd, 1) := by decide +kernel
theorem dX12_guestsOf_66 : decode cX12_guestsOf 66 = .ok (.iaload, 1) := by decide +kernel
theorem dX12_guestsOf_67 : decode cX12_guestsOf 67 = .ok (.aload_n 0, 1) := by decide +kernel
theorem dX12_guestsOf_68 : decode cX12_guestsOf 68 = .ok (.getfield 7, 3) := by decide +kernel
theorem dX12_guestsOf_71 : decode cX12_guestsOf 71 = .ok (.iload 4, 2) := by decide +kernel
theorem dX12_guestsOf_73 : decode cX12_guestsOf 73 = .ok (.iconst 3, 1) := by decide +kernel
theorem dX12_guestsOf_74 : decode cX12_guestsOf 74 = .ok (.iadd, 1) := by decide +kernel
theorem dX12_guestsOf_75 : decode cX12_guestsOf 75 = .ok (.iaload, 1) := by decide +kernel
theorem dX12_guestsOf_76 : decode cX12_guestsOf 76 = .ok (.aload_n 0, 1) := by decide +kernel
theorem dX12_guestsOf_77 : decode cX12_guestsOf 77 = .ok (.getfield 7, 3) := by decide +kernel
theorem dX12_guestsOf_80 : decode cX12_guestsOf 80 = .ok (.iload 4, 2) := by decide +kernel
theorem dX12_guestsOf_82 : decode cX12_guestsOf 82 = .ok (.iconst 4, 1) := by decide +kernel
theorem dX12_guestsOf_83 : decode cX12_guestsOf 83 = .ok (.iadd, 1) := by decide +kernel
theorem dX12_guestsOf_84 : decode cX12_guestsOf 84 = .ok (.iaload, 1) := by decide +kernel
theorem dX12_guestsOf_85 : decode cX12_guestsOf 85 = .ok (.invokestatic 186, 3) := by decide +kernel
theorem dX12_guestsOf_88 : decode cX12_guestsOf 88 = .ok (.aload_n 0, 1) := by decide +kernel
theorem dX12_guestsOf_89 : decode cX12_guestsOf 89 = .ok (.getfield 7, 3) := by decide +kernel
theorem dX12_guestsOf_92 : decode cX12_guestsOf 92 = .ok (.iload 4, 2) := by decide +kernel
theorem dX12_guestsOf_94 : decode cX12_guestsOf 94 = .ok (.iconst 5, 1) := by decide +kernel
theorem dX12_guestsOf_95 : decode cX12_guestsOf 95 = .ok (.iadd, 1) := by decide +kernel
theorem dX12_guestsOf_96 : decode cX12_guestsOf 96 = .ok (.iaload, 1) := by decide +kernel
theorem dX12_guestsOf_97 : decode cX12_guestsOf 97 = .ok (.if_icmp .ne 8, 3) := by decide +kernel
theorem dX12_guestsOf_100 : decode cX12_guestsOf 100 = .ok (.bipush 63, 2) := by decide +kernel
theorem dX12_guestsOf_102 : decode cX12_guestsOf 102 = .ok (.goto 9, 3) := by decide +kernel
theorem dX12_guestsOf_105 : decode cX12_guestsOf 105 = .ok (.iconst 1, 1) := by decide +kernel
theorem dX12_guestsOf_106 : decode cX12_guestsOf 106 = .ok (.iload 5, 2) := by decide +kernel
theorem dX12_guestsOf_108 : decode cX12_guestsOf 108 = .ok (.ishl, 1) := by decide +kernel
theorem dX12_guestsOf_109 : decode cX12_guestsOf 109 = .ok (.iconst (-1), 1) := by decide +kernel
theorem dX12_guestsOf_110 : decode cX12_guestsOf 110 = .ok (.ixor, 1) := by decide +kernel
theorem dX12_guestsOf_111 : decode cX12_guestsOf 111 = .ok (.iand, 1) := by decide +kernel
theorem dX12_guestsOf_112 : decode cX12_guestsOf 112 = .ok (.istore_n 2, 1) := by decide +kernel
theorem dX12_guestsOf_113 : decode cX12_guestsOf 113 = .ok (.iinc 5 1, 3) := by decide +kernel
theorem dX12_guestsOf_116 : decode cX12_guestsOf 116 = .ok (.goto (-88), 3) := by decide +kernel
theorem dX12_guestsOf_119 : decode cX12_guestsOf 119 = .ok (.iinc 3 1, 3) := by decide +kernel
theorem dX12_guestsOf_122 : decode cX12_guestsOf 122 = .ok (.goto (-117), 3) := by decide +kernel
theorem dX12_guestsOf_125 : decode cX12_guestsOf 125 = .ok (.iload_n 2, 1) := by decide +kernel
theorem dX12_guestsOf_126 : decode cX12_guestsOf 126 = .ok (.ireturn, 1) := by decide +kernel
theorem dX12_is_0 : decode cX12_is 0 = .ok (.aload_n 0, 1) := by decide +kernel
theorem dX12_is_1 : decode cX12_is 1 = .ok (.iload_n 1, 1) := by decide +kernel
theorem dX12_is_2 : decode cX12_is 2 = .ok (.invokevirtual 190, 3) := by decide +kernel
theorem dX12_is_5 : decode cX12_is 5 = .ok (.ifCond .eq 11, 3) := by decide +kernel
theorem dX12_is_8 : decode cX12_is 8 = .ok (.aload_n 0, 1) := by decide +kernel
theorem dX12_is_9 : decode cX12_is 9 = .ok (.iload_n 1, 1) := by decide +kernel
theorem dX12_is_10 : decode cX12_is 10 = .ok (.invokevirtual 271, 3) := by decide +kernel
theorem dX12_is_13 : decode cX12_is 13 = .ok (.goto 9, 3) := by decide +kernel
theorem dX12_is_16 : decode cX12_is 16 = .ok (.aload_n 0, 1) := by decide +kernel
theorem dX12_is_17 : decode cX12_is 17 = .ok (.bipush (-2), 2) := by decide +kernel
theorem dX12_is_19 : decode cX12_is 19 = .ok (.invokevirtual 84, 3) := by decide +kernel
theorem dX12_is_22 : decode cX12_is 22 = .ok (.ireturn, 1) := by decide +kernel
theorem dX12_look_0 : decode cX12_look 0 = .ok (.aload_n 0, 1) := by decide +kernel
theorem dX12_look_1 : decode cX12_look 1 = .ok (.iload_n 1, 1) := by decide +kernel
theorem dX12_look_2 : decode cX12_look 2 = .ok (.invokevirtual 190, 3) := by decide +kernel
theorem dX12_look_5 : decode cX12_look 5 = .ok (.ifCond .ne 10, 3) := by decide +kernel
theorem dX12_look_8 : decode cX12_look 8 = .ok (.aload_n 0, 1) := by decide +kernel
theorem dX12_look_9 : decode cX12_look 9 = .ok (.bipush (-2), 2) := by decide +kernel
theorem dX12_look_11 : decode cX12_look 11 = .ok (.invokevirtual 84, 3) := by decide +kernel
theorem dX12_look_14 : decode cX12_look 14 = .ok (.ireturn, 1) := by decide +kernel
theorem dX12_look_15 : decode cX12_look 15 = .ok (.aload_n 0, 1) := by decide +kernel
theorem dX12_look_16 : decode cX12_look 16 = .ok (.iload_n 1, 1) := by decide +kernel
theorem dX12_look_17 : decode cX12_look 17 = .ok (.invokevirtual 271, 3) := by decide +kernel
theorem dX12_look_20 : decode cX12_look 20 = .ok (.istore_n 2, 1) := by decide +kernel
theorem dX12_look_21 : decode cX12_look 21 = .ok (.iconst (-1), 1) := by decide +kernel
theorem dX12_look_22 : decode cX12_look 22 = .ok (.istore_n 3, 1) := by decide +kernel
theorem dX12_look_23 : decode cX12_look 23 = .ok (.bipush 99, 2) := by decide +kernel
theorem dX12_look_25 : decode cX12_look 25 = .ok (.istore 4, 2) := by decide +kernel
theorem dX12_look_27 : decode cX12_look 27 = .ok (.iconst 0, 1) := by decide +kernel
theorem dX12_look_28 : decode cX12_look 28 = .ok (.istore 5, 2) := by decide +kernel
theorem dX12_look_30 : decode cX12_look 30 = .ok (.iload 5, 2) := by decide +kernel
theorem dX12_look_32 : decode cX12_look 32 = .ok (.bipush 10, 2) := by decide +kernel
theorem dX12_look_34 : decode cX12_look 34 = .ok (.if_icmp .ge 117, 3) := by decide +kernel
theorem dX12_look_37 : decode cX12_look 37 = .ok (.iload_n 2, 1) := by decide +kernel
theorem dX12_look_38 : decode cX12_look 38 = .ok (.ifCond .eq 113, 3) := by decide +kernel
theorem dX12_look_41 : decode cX12_look 41 = .ok (.iconst 0, 1) := by decide +kernel
theorem dX12_look_42 : decode cX12_look 42 = .ok (.istore 6, 2) := by decide +kernel
theorem dX12_look_44 : decode cX12_look 44 = .ok (.iload 6, 2) := by decide +kernel
theorem dX12_look_46 : decode cX12_look 46 = .ok (.bipush 21, 2) := by decide +kernel
theorem dX12_look_48 : decode cX12_look 48 = .ok (.if_icmp .ge 97, 3) := by decide +kernel
theorem dX12_look_51 : decode cX12_look 51 = .ok (.iconst 0, 1) := by decide +kernel
theorem dX12_look_52 : decode cX12_look 52 = .ok (.istore 7, 2) := by decide +kernel
theorem dX12_look_54 : decode cX12_look 54 = .ok (.iload 7, 2) := by decide +kernel
theorem dX12_look_56 : decode cX12_look 56 = .ok (.bipush 6, 2) := by decide +kernel
theorem dX12_look_58 : decode cX12_look 58 = .ok (.if_icmp .ge 43, 3) := by decide +kernel
theorem dX12_look_61 : decode cX12_look 61 = .ok (.aload_n 0, 1) := by decide +kernel
theorem dX12_look_62 : decode cX12_look 62 = .ok (.getfield 66, 3) := by decide +kernel
theorem dX12_look_65 : decode cX12_look 65 = .ok (.iload 7, 2) := by decide +kernel
theorem dX12_look_67 : decode cX12_look 67 = .ok (.iload 7, 2) := by decide +kernel
theorem dX12_look_69 : decode cX12_look 69 = .ok (.aload_n 0, 1) := by decide +kernel
theorem dX12_look_70 : decode cX12_look 70 = .ok (.getfield 7, 3) := by decide +kernel
theorem dX12_look_73 : decode cX12_look 73 = .ok (.bipush 48, 2) := by decide +kernel
theorem dX12_look_75 : decode cX12_look 75 = .ok (.iload_n 1, 1) := by decide +kernel
theorem dX12_look_76 : decode cX12_look 76 = .ok (.iadd, 1) := by decide +kernel
theorem dX12_look_77 : decode cX12_look 77 = .ok (.iaload, 1) := by decide +kernel
theorem dX12_look_78 : decode cX12_look 78 = .ok (.aload_n 0, 1) := by decide +kernel
theorem dX12_look_79 : decode cX12_look 79 = .ok (.getfield 7, 3) := by decide +kernel
theorem dX12_look_82 : decode cX12_look 82 = .ok (.bipush 52, 2) := by decide +kernel
theorem dX12_look_84 : decode cX12_look 84 = .ok (.iload_n 1, 1) := by decide +kernel
theorem dX12_look_85 : decode cX12_look 85 = .ok (.iadd, 1) := by decide +kernel
theorem dX12_look_86 : decode cX12_look 86 = .ok (.iaload, 1) := by decide +kernel
theorem dX12_look_87 : decode cX12_look 87 = .ok (.iload 6, 2) := by decide +kernel
theorem dX12_look_89 : decode cX12_look 89 = .ok (.iload 5, 2) := by decide +kernel
theorem dX12_look_91 : decode cX12_look 91 = .ok (.invokestatic 186, 3) := by decide +kernel
theorem dX12_look_94 : decode cX12_look 94 = .ok (.iastore, 1) := by decide +kernel
theorem dX12_look_95 : decode cX12_look 95 = .ok (.iinc 7 1, 3) := by decide +kernel
theorem dX12_look_98 : decode cX12_look 98 = .ok (.goto (-44), 3) := by decide +kernel
theorem dX12_look_101 : decode cX12_look 101 = .ok (.aload_n 0, 1) := by decide +kernel
theorem dX12_look_102 : decode cX12_look 102 = .ok (.iload_n 2, 1) := by decide +kernel
theorem dX12_look_103 : decode cX12_look 103 = .ok (.bipush 6, 2) := by decide +kernel
theorem dX12_look_105 : decode cX12_look 105 = .ok (.invokevirtual 264, 3) := by decide +kernel
theorem dX12_look_108 : decode cX12_look 108 = .ok (.istore 7, 2) := by decide +kernel
theorem dX12_look_110 : decode cX12_look 110 = .ok (.iload 7, 2) := by decide +kernel
theorem dX12_look_112 : decode cX12_look 112 = .ok (.iload 4, 2) := by decide +kernel
theorem dX12_look_114 : decode cX12_look 114 = .ok (.if_icmp .ge 14, 3) := by decide +kernel
theorem dX12_look_117 : decode cX12_look 117 = .ok (.bipush 100, 2) := by decide +kernel
theorem dX12_look_119 : decode cX12_look 119 = .ok (.iload 5, 2) := by decide +kernel
theorem dX12_look_121 : decode cX12_look 121 = .ok (.imul, 1) := by decide +kernel
theorem dX12_look_122 : decode cX12_look 122 = .ok (.iload 6, 2) := by decide +kernel
theorem dX12_look_124 : decode cX12_look 124 = .ok (.iadd, 1) := by decide +kernel
theorem dX12_look_125 : decode cX12_look 125 = .ok (.goto 4, 3) := by decide +kernel
theorem dX12_look_128 : decode cX12_look 128 = .ok (.iload_n 3, 1) := by decide +kernel
theorem dX12_look_129 : decode cX12_look 129 = .ok (.istore_n 3, 1) := by decide +kernel
theorem dX12_look_130 : decode cX12_look 130 = .ok (.iload 4, 2) := by decide +kernel
theorem dX12_look_132 : decode cX12_look 132 = .ok (.iload 7, 2) := by decide +kernel
theorem dX12_look_134 : decode cX12_look 134 = .ok (.invokestatic 75, 3) := by decide +kernel
theorem dX12_look_137 : decode cX12_look 137 = .ok (.istore 4, 2) := by decide +kernel
theorem dX12_look_139 : decode cX12_look 139 = .ok (.iinc 6 1, 3) := by decide +kernel
theorem dX12_look_142 : decode cX12_look 142 = .ok (.goto (-98), 3) := by decide +kernel
theorem dX12_look_145 : decode cX12_look 145 = .ok (.iinc 5 1, 3) := by decide +kernel
theorem dX12_look_148 : decode cX12_look 148 = .ok (.goto (-118), 3) := by decide +kernel
theorem dX12_look_151 : decode cX12_look 151 = .ok (.iload_n 3, 1) := by decide +kernel
theorem dX12_look_152 : decode cX12_look 152 = .ok (.ireturn, 1) := by decide +kernel
theorem dX12_rowersOf_0 : decode cX12_rowersOf 0 = .ok (.bipush 63, 2) := by decide +kernel
theorem dX12_rowersOf_2 : decode cX12_rowersOf 2 = .ok (.istore_n 2, 1) := by decide +kernel
theorem dX12_rowersOf_3 : decode cX12_rowersOf 3 = .ok (.iconst 0, 1) := by decide +kernel
theorem dX12_rowersOf_4 : decode cX12_rowersOf 4 = .ok (.istore_n 3, 1) := by decide +kernel
theorem dX12_rowersOf_5 : decode cX12_rowersOf 5 = .ok (.iload_n 3, 1) := by decide +kernel
theorem dX12_rowersOf_6 : decode cX12_rowersOf 6 = .ok (.aload_n 0, 1) := by decide +kernel
theorem dX12_rowersOf_7 : decode cX12_rowersOf 7 = .ok (.getfield 7, 3) := by decide +kernel
theorem dX12_rowersOf_10 : decode cX12_rowersOf 10 = .ok (.bipush 126, 2) := by decide +kernel
theorem dX12_rowersOf_12 : decode cX12_rowersOf 12 = .ok (.iaload, 1) := by decide +kernel
theorem dX12_rowersOf_13 : decode cX12_rowersOf 13 = .ok (.if_icmp .ge 102, 3) := by decide +kernel
theorem dX12_rowersOf_16 : decode cX12_rowersOf 16 = .ok (.bipush 127, 2) := by decide +kernel
theorem dX12_rowersOf_18 : decode cX12_rowersOf 18 = .ok (.iconst 5, 1) := by decide +kernel
theorem dX12_rowersOf_19 : decode cX12_rowersOf 19 = .ok (.iload_n 3, 1) := by decide +kernel
theorem dX12_rowersOf_20 : decode cX12_rowersOf 20 = .ok (.imul, 1) := by decide +kernel
theorem dX12_rowersOf_21 : decode cX12_rowersOf 21 = .ok (.iadd, 1) := by decide +kernel
theorem dX12_rowersOf_22 : decode cX12_rowersOf 22 = .ok (.istore 4, 2) := by decide +kernel
theorem dX12_rowersOf_24 : decode cX12_rowersOf 24 = .ok (.iconst 0, 1) := by decide +kernel
theorem dX12_rowersOf_25 : decode cX12_rowersOf 25 = .ok (.istore 5, 2) := by decide +kernel
theorem dX12_rowersOf_27 : decode cX12_rowersOf 27 = .ok (.iload 5, 2) := by decide +kernel
theorem dX12_rowersOf_29 : decode cX12_rowersOf 29 = .ok (.bipush 6, 2) := by decide +kernel
theorem dX12_rowersOf_31 : decode cX12_rowersOf 31 = .ok (.if_icmp .ge 78, 3) := by decide +kernel
theorem dX12_rowersOf_34 : decode cX12_rowersOf 34 = .ok (.aload_n 0, 1) := by decide +kernel
theorem dX12_rowersOf_35 : decode cX12_rowersOf 35 = .ok (.getfield 7, 3) := by decide +kernel
theorem dX12_rowersOf_38 : decode cX12_rowersOf 38 = .ok (.iload 4, 2) := by decide +kernel
theorem dX12_rowersOf_40 : decode cX12_rowersOf 40 = .ok (.iaload, 1) := by decide +kernel
theorem dX12_rowersOf_41 : decode cX12_rowersOf 41 = .ok (.iload_n 1, 1) := by decide +kernel
theorem dX12_rowersOf_42 : decode cX12_rowersOf 42 = .ok (.if_icmp .ne 67, 3) := by decide +kernel
theorem dX12_rowersOf_45 : decode cX12_rowersOf 45 = .ok (.iload_n 2, 1) := by decide +kernel
theorem dX12_rowersOf_46 : decode cX12_rowersOf 46 = .ok (.iload 5, 2) := by decide +kernel
theorem dX12_rowersOf_48 : decode cX12_rowersOf 48 = .ok (.aload_n 0, 1) := by decide +kernel
theorem dX12_rowersOf_49 : decode cX12_rowersOf 49 = .ok (.getfield 7, 3) := by decide +kernel
theorem dX12_rowersOf_52 : decode cX12_rowersOf 52 = .ok (.iload 4, 2) := by decide +kernel
theorem dX12_rowersOf_54 : decode cX12_rowersOf 54 = .ok (.iconst 1, 1) := by decide +kernel
theorem dX12_rowersOf_55 : decode cX12_rowersOf 55 = .ok (.iadd, 1) := by decide +kernel
theorem dX12_rowersOf_56 : decode cX12_rowersOf 56 = .ok (.iaload, 1) := by decide +kernel
theorem dX12_rowersOf_57 : decode cX12_rowersOf 57 = .ok (.aload_n 0, 1) := by decide +kernel
theorem dX12_rowersOf_58 : decode cX12_rowersOf 58 = .ok (.getfield 7, 3) := by decide +kernel
theorem dX12_rowersOf_61 : decode cX12_rowersOf 61 = .ok (.iload 4, 2) := by decide +kernel
theorem dX12_rowersOf_63 : decode cX12_rowersOf 63 = .ok (.iconst 2, 1) := by decide +kernel
theorem dX12_rowersOf_64 : decode cX12_rowersOf 64 = .ok (.iadd, 1) := by decide +kernel
theorem dX12_rowersOf_65 : decode cX12_rowersOf 65 = .ok (.iaload, 1) := by decide +kernel
theorem dX12_rowersOf_66 : decode cX12_rowersOf 66 = .ok (.aload_n 0, 1) := by decide +kernel
theorem dX12_rowersOf_67 : decode cX12_rowersOf 67 = .ok (.getfield 7, 3) := by decide +kernel
theorem dX12_rowersOf_70 : decode cX12_rowersOf 70 = .ok (.iload 4, 2) := by decide +kernel
theorem dX12_rowersOf_72 : decode cX12_rowersOf 72 = .ok (.iconst 3, 1) := by decide +kernel
theorem dX12_rowersOf_73 : decode cX12_rowersOf 73 = .ok (.iadd, 1) := by decide +kernel
theorem dX12_rowersOf_74 : decode cX12_rowersOf 74 = .ok (.iaload, 1) := by decide +kernel
theorem dX12_rowersOf_75 : decode cX12_rowersOf 75 = .ok (.invokestatic 182, 3) := by decide +kernel
theorem dX12_rowersOf_78 : decode cX12_rowersOf 78 = .ok (.aload_n 0, 1) := by decide +kernel
theorem dX12_rowersOf_79 : decode cX12_rowersOf 79 = .ok (.getfield 7, 3) := by decide +kernel
theorem dX12_rowersOf_82 : decode cX12_rowersOf 82 = .ok (.iload 4, 2) := by decide +kernel
theorem dX12_rowersOf_84 : decode cX12_rowersOf 84 = .ok (.iconst 4, 1) := by decide +kernel
theorem dX12_rowersOf_85 : decode cX12_rowersOf 85 = .ok (.iadd, 1) := by decide +kernel
theorem dX12_rowersOf_86 : decode cX12_rowersOf 86 = .ok (.iaload, 1) := by decide +kernel
theorem dX12_rowersOf_87 : decode cX12_rowersOf 87 = .ok (.if_icmp .ne 8, 3) := by decide +kernel
theorem dX12_rowersOf_90 : decode cX12_rowersOf 90 = .ok (.bipush 63, 2) := by decide +kernel
theorem dX12_rowersOf_92 : decode cX12_rowersOf 92 = .ok (.goto 9, 3) := by decide +kernel
theorem dX12_rowersOf_95 : decode cX12_rowersOf 95 = .ok (.iconst 1, 1) := by decide +kernel
theorem dX12_rowersOf_96 : decode cX12_rowersOf 96 = .ok (.iload 5, 2) := by decide +kernel
theorem dX12_rowersOf_98 : decode cX12_rowersOf 98 = .ok (.ishl, 1) := by decide +kernel
theorem dX12_rowersOf_99 : decode cX12_rowersOf 99 = .ok (.iconst (-1), 1) := by decide +kernel
theorem dX12_rowersOf_100 : decode cX12_rowersOf 100 = .ok (.ixor, 1) := by decide +kernel
theorem dX12_rowersOf_101 : decode cX12_rowersOf 101 = .ok (.iand, 1) := by decide +kernel
theorem dX12_rowersOf_102 : decode cX12_rowersOf 102 = .ok (.istore_n 2, 1) := by decide +kernel
theorem dX12_rowersOf_103 : decode cX12_rowersOf 103 = .ok (.iinc 5 1, 3) := by decide +kernel
theorem dX12_rowersOf_106 : decode cX12_rowersOf 106 = .ok (.goto (-79), 3) := by decide +kernel
theorem dX12_rowersOf_109 : decode cX12_rowersOf 109 = .ok (.iinc 3 1, 3) := by decide +kernel
theorem dX12_rowersOf_112 : decode cX12_rowersOf 112 = .ok (.goto (-107), 3) := by decide +kernel
theorem dX12_rowersOf_115 : decode cX12_rowersOf 115 = .ok (.iload_n 2, 1) := by decide +kernel
theorem dX12_rowersOf_116 : decode cX12_rowersOf 116 = .ok (.ireturn, 1) := by decide +kernel
theorem dX12_kinds_0 : decode cX12_kinds 0 = .ok (.aload_n 0, 1) := by decide +kernel
theorem dX12_kinds_1 : decode cX12_kinds 1 = .ok (.iload_n 1, 1) := by decide +kernel
theorem dX12_kinds_2 : decode cX12_kinds 2 = .ok (.invokevirtual 193, 3) := by decide +kernel
theorem dX12_kinds_5 : decode cX12_kinds 5 = .ok (.ifCond .eq 11, 3) := by decide +kernel
theorem dX12_kinds_8 : decode cX12_kinds 8 = .ok (.aload_n 0, 1) := by decide +kernel
theorem dX12_kinds_9 : decode cX12_kinds 9 = .ok (.iload_n 1, 1) := by decide +kernel
theorem dX12_kinds_10 : decode cX12_kinds 10 = .ok (.invokevirtual 274, 3) := by decide +kernel
theorem dX12_kinds_13 : decode cX12_kinds 13 = .ok (.goto 9, 3) := by decide +kernel
theorem dX12_kinds_16 : decode cX12_kinds 16 = .ok (.aload_n 0, 1) := by decide +kernel
theorem dX12_kinds_17 : decode cX12_kinds 17 = .ok (.bipush (-2), 2) := by decide +kernel
theorem dX12_kinds_19 : decode cX12_kinds 19 = .ok (.invokevirtual 84, 3) := by decide +kernel
theorem dX12_kinds_22 : decode cX12_kinds 22 = .ok (.ireturn, 1) := by decide +kernel
theorem dX12_ask_0 : decode cX12_ask 0 = .ok (.aload_n 0, 1) := by decide +kernel
theorem dX12_ask_1 : decode cX12_ask 1 = .ok (.iload_n 1, 1) := by decide +kernel
theorem dX12_ask_2 : decode cX12_ask 2 = .ok (.invokevirtual 193, 3) := by decide +kernel
theorem dX12_ask_5 : decode cX12_ask 5 = .ok (.ifCond .ne 10, 3) := by decide +kernel
theorem dX12_ask_8 : decode cX12_ask 8 = .ok (.aload_n 0, 1) := by decide +kernel
theorem dX12_ask_9 : decode cX12_ask 9 = .ok (.bipush (-2), 2) := by decide +kernel
theorem dX12_ask_11 : decode cX12_ask 11 = .ok (.invokevirtual 84, 3) := by decide +kernel
theorem dX12_ask_14 : decode cX12_ask 14 = .ok (.ireturn, 1) := by decide +kernel
theorem dX12_ask_15 : decode cX12_ask 15 = .ok (.aload_n 0, 1) := by decide +kernel
theorem dX12_ask_16 : decode cX12_ask 16 = .ok (.iload_n 1, 1) := by decide +kernel
theorem dX12_ask_17 : decode cX12_ask 17 = .ok (.invokevirtual 274, 3) := by decide +kernel
theorem dX12_ask_20 : decode cX12_ask 20 = .ok (.istore_n 2, 1) := by decide +kernel
theorem dX12_ask_21 : decode cX12_ask 21 = .ok (.iconst (-1), 1) := by decide +kernel
theorem dX12_ask_22 : decode cX12_ask 22 = .ok (.istore_n 3, 1) := by decide +kernel
theorem dX12_ask_23 : decode cX12_ask 23 = .ok (.bipush 99, 2) := by decide +kernel
theorem dX12_ask_25 : decode cX12_ask 25 = .ok (.istore 4, 2) := by decide +kernel
theorem dX12_ask_27 : decode cX12_ask 27 = .ok (.iconst 0, 1) := by decide +kernel
theorem dX12_ask_28 : decode cX12_ask 28 = .ok (.istore 5, 2) := by decide +kernel
theorem dX12_ask_30 : decode cX12_ask 30 = .ok (.iload 5, 2) := by decide +kernel
theorem dX12_ask_32 : decode cX12_ask 32 = .ok (.bipush 10, 2) := by decide +kernel
theorem dX12_ask_34 : decode cX12_ask 34 = .ok (.if_icmp .ge 108, 3) := by decide +kernel
theorem dX12_ask_37 : decode cX12_ask 37 = .ok (.iload_n 2, 1) := by decide +kernel
theorem dX12_ask_38 : decode cX12_ask 38 = .ok (.ifCond .eq 104, 3) := by decide +kernel
theorem dX12_ask_41 : decode cX12_ask 41 = .ok (.iconst 0, 1) := by decide +kernel
theorem dX12_ask_42 : decode cX12_ask 42 = .ok (.istore 6, 2) := by decide +kernel
theorem dX12_ask_44 : decode cX12_ask 44 = .ok (.iload 6, 2) := by decide +kernel
theorem dX12_ask_46 : decode cX12_ask 46 = .ok (.bipush 31, 2) := by decide +kernel
theorem dX12_ask_48 : decode cX12_ask 48 = .ok (.if_icmp .ge 88, 3) := by decide +kernel
theorem dX12_ask_51 : decode cX12_ask 51 = .ok (.iconst 0, 1) := by decide +kernel
theorem dX12_ask_52 : decode cX12_ask 52 = .ok (.istore 7, 2) := by decide +kernel
theorem dX12_ask_54 : decode cX12_ask 54 = .ok (.iload 7, 2) := by decide +kernel
theorem dX12_ask_56 : decode cX12_ask 56 = .ok (.bipush 6, 2) := by decide +kernel
theorem dX12_ask_58 : decode cX12_ask 58 = .ok (.if_icmp .ge 34, 3) := by decide +kernel
theorem dX12_ask_61 : decode cX12_ask 61 = .ok (.aload_n 0, 1) := by decide +kernel
theorem dX12_ask_62 : decode cX12_ask 62 = .ok (.getfield 66, 3) := by decide +kernel
theorem dX12_ask_65 : decode cX12_ask 65 = .ok (.iload 7, 2) := by decide +kernel
theorem dX12_ask_67 : decode cX12_ask 67 = .ok (.iload 7, 2) := by decide +kernel
theorem dX12_ask_69 : decode cX12_ask 69 = .ok (.aload_n 0, 1) := by decide +kernel
theorem dX12_ask_70 : decode cX12_ask 70 = .ok (.getfield 7, 3) := by decide +kernel
theorem dX12_ask_73 : decode cX12_ask 73 = .ok (.bipush 41, 2) := by decide +kernel
theorem dX12_ask_75 : decode cX12_ask 75 = .ok (.iload_n 1, 1) := by decide +kernel
theorem dX12_ask_76 : decode cX12_ask 76 = .ok (.iadd, 1) := by decide +kernel
theorem dX12_ask_77 : decode cX12_ask 77 = .ok (.iaload, 1) := by decide +kernel
theorem dX12_ask_78 : decode cX12_ask 78 = .ok (.iload 5, 2) := by decide +kernel
theorem dX12_ask_80 : decode cX12_ask 80 = .ok (.iload 6, 2) := by decide +kernel
theorem dX12_ask_82 : decode cX12_ask 82 = .ok (.invokestatic 182, 3) := by decide +kernel
theorem dX12_ask_85 : decode cX12_ask 85 = .ok (.iastore, 1) := by decide +kernel
theorem dX12_ask_86 : decode cX12_ask 86 = .ok (.iinc 7 1, 3) := by decide +kernel
theorem dX12_ask_89 : decode cX12_ask 89 = .ok (.goto (-35), 3) := by decide +kernel
theorem dX12_ask_92 : decode cX12_ask 92 = .ok (.aload_n 0, 1) := by decide +kernel
theorem dX12_ask_93 : decode cX12_ask 93 = .ok (.iload_n 2, 1) := by decide +kernel
theorem dX12_ask_94 : decode cX12_ask 94 = .ok (.bipush 6, 2) := by decide +kernel
theorem dX12_ask_96 : decode cX12_ask 96 = .ok (.invokevirtual 264, 3) := by decide +kernel
theorem dX12_ask_99 : decode cX12_ask 99 = .ok (.istore 7, 2) := by decide +kernel
theorem dX12_ask_101 : decode cX12_ask 101 = .ok (.iload 7, 2) := by decide +kernel
theorem dX12_ask_103 : decode cX12_ask 103 = .ok (.iload 4, 2) := by decide +kernel
theorem dX12_ask_105 : decode cX12_ask 105 = .ok (.if_icmp .ge 14, 3) := by decide +kernel
theorem dX12_ask_108 : decode cX12_ask 108 = .ok (.bipush 100, 2) := by decide +kernel
theorem dX12_ask_110 : decode cX12_ask 110 = .ok (.iload 5, 2) := by decide +kernel
theorem dX12_ask_112 : decode cX12_ask 112 = .ok (.imul, 1) := by decide +kernel
theorem dX12_ask_113 : decode cX12_ask 113 = .ok (.iload 6, 2) := by decide +kernel
theorem dX12_ask_115 : decode cX12_ask 115 = .ok (.iadd, 1) := by decide +kernel
theorem dX12_ask_116 : decode cX12_ask 116 = .ok (.goto 4, 3) := by decide +kernel
theorem dX12_ask_119 : decode cX12_ask 119 = .ok (.iload_n 3, 1) := by decide +kernel
theorem dX12_ask_120 : decode cX12_ask 120 = .ok (.istore_n 3, 1) := by decide +kernel
theorem dX12_ask_121 : decode cX12_ask 121 = .ok (.iload 4, 2) := by decide +kernel
theorem dX12_ask_123 : decode cX12_ask 123 = .ok (.iload 7, 2) := by decide +kernel
theorem dX12_ask_125 : decode cX12_ask 125 = .ok (.invokestatic 75, 3) := by decide +kernel
theorem dX12_ask_128 : decode cX12_ask 128 = .ok (.istore 4, 2) := by decide +kernel
theorem dX12_ask_130 : decode cX12_ask 130 = .ok (.iinc 6 1, 3) := by decide +kernel
theorem dX12_ask_133 : decode cX12_ask 133 = .ok (.goto (-89), 3) := by decide +kernel
theorem dX12_ask_136 : decode cX12_ask 136 = .ok (.iinc 5 1, 3) := by decide +kernel
theorem dX12_ask_139 : decode cX12_ask 139 = .ok (.goto (-109), 3) := by decide +kernel
theorem dX12_ask_142 : decode cX12_ask 142 = .ok (.iload_n 3, 1) := by decide +kernel
theorem dX12_ask_143 : decode cX12_ask 143 = .ok (.ireturn, 1) := by decide +kernel
theorem dX12_hurtAt_0 : decode cX12_hurtAt 0 = .ok (.bipush 9, 2) := by decide +kernel
theorem dX12_hurtAt_2 : decode cX12_hurtAt 2 = .ok (.iconst 3, 1) := by decide +kernel
theorem dX12_hurtAt_3 : decode cX12_hurtAt 3 = .ok (.iload_n 3, 1) := by decide +kernel
theorem dX12_hurtAt_4 : decode cX12_hurtAt 4 = .ok (.imul, 1) := by decide +kernel
theorem dX12_hurtAt_5 : decode cX12_hurtAt 5 = .ok (.isub, 1) := by decide +kernel
theorem dX12_hurtAt_6 : decode cX12_hurtAt 6 = .ok (.istore 4, 2) := by decide +kernel
theorem dX12_hurtAt_8 : decode cX12_hurtAt 8 = .ok (.aload_n 0, 1) := by decide +kernel
theorem dX12_hurtAt_9 : decode cX12_hurtAt 9 = .ok (.getfield 7, 3) := by decide +kernel
theorem dX12_hurtAt_12 : decode cX12_hurtAt 12 = .ok (.bipush 38, 2) := by decide +kernel
theorem dX12_hurtAt_14 : decode cX12_hurtAt 14 = .ok (.iload_n 2, 1) := by decide +kernel
theorem dX12_hurtAt_15 : decode cX12_hurtAt 15 = .ok (.iadd, 1) := by decide +kernel
theorem dX12_hurtAt_16 : decode cX12_hurtAt 16 = .ok (.iaload, 1) := by decide +kernel
theorem dX12_hurtAt_17 : decode cX12_hurtAt 17 = .ok (.aload_n 0, 1) := by decide +kernel
theorem dX12_hurtAt_18 : decode cX12_hurtAt 18 = .ok (.getfield 7, 3) := by decide +kernel
theorem dX12_hurtAt_21 : decode cX12_hurtAt 21 = .ok (.bipush 41, 2) := by decide +kernel
theorem dX12_hurtAt_23 : decode cX12_hurtAt 23 = .ok (.iload_n 2, 1) := by decide +kernel
theorem dX12_hurtAt_24 : decode cX12_hurtAt 24 = .ok (.iadd, 1) := by decide +kernel
theorem dX12_hurtAt_25 : decode cX12_hurtAt 25 = .ok (.iaload, 1) := by decide +kernel
theorem dX12_hurtAt_26 : decode cX12_hurtAt 26 = .ok (.iload 4, 2) := by decide +kernel
theorem dX12_hurtAt_28 : decode cX12_hurtAt 28 = .ok (.aload_n 0, 1) := by decide +kernel
theorem dX12_hurtAt_29 : decode cX12_hurtAt 29 = .ok (.getfield 7, 3) := by decide +kernel
theorem dX12_hurtAt_32 : decode cX12_hurtAt 32 = .ok (.bipush 64, 2) := by decide +kernel
theorem dX12_hurtAt_34 : decode cX12_hurtAt 34 = .ok (.iload_n 1, 1) := by decide +kernel
theorem dX12_hurtAt_35 : decode cX12_hurtAt 35 = .ok (.iadd, 1) := by decide +kernel
theorem dX12_hurtAt_36 : decode cX12_hurtAt 36 = .ok (.iaload, 1) := by decide +kernel
theorem dX12_hurtAt_37 : decode cX12_hurtAt 37 = .ok (.invokestatic 182, 3) := by decide +kernel
theorem dX12_hurtAt_40 : decode cX12_hurtAt 40 = .ok (.aload_n 0, 1) := by decide +kernel
theorem dX12_hurtAt_41 : decode cX12_hurtAt 41 = .ok (.getfield 7, 3) := by decide +kernel
theorem dX12_hurtAt_44 : decode cX12_hurtAt 44 = .ok (.bipush 48, 2) := by decide +kernel
theorem dX12_hurtAt_46 : decode cX12_hurtAt 46 = .ok (.iload_n 1, 1) := by decide +kernel
theorem dX12_hurtAt_47 : decode cX12_hurtAt 47 = .ok (.iadd, 1) := by decide +kernel
theorem dX12_hurtAt_48 : decode cX12_hurtAt 48 = .ok (.iaload, 1) := by decide +kernel
theorem dX12_hurtAt_49 : decode cX12_hurtAt 49 = .ok (.aload_n 0, 1) := by decide +kernel
theorem dX12_hurtAt_50 : decode cX12_hurtAt 50 = .ok (.getfield 7, 3) := by decide +kernel
theorem dX12_hurtAt_53 : decode cX12_hurtAt 53 = .ok (.bipush 52, 2) := by decide +kernel
theorem dX12_hurtAt_55 : decode cX12_hurtAt 55 = .ok (.iload_n 1, 1) := by decide +kernel
theorem dX12_hurtAt_56 : decode cX12_hurtAt 56 = .ok (.iadd, 1) := by decide +kernel
theorem dX12_hurtAt_57 : decode cX12_hurtAt 57 = .ok (.iaload, 1) := by decide +kernel
theorem dX12_hurtAt_58 : decode cX12_hurtAt 58 = .ok (.isub, 1) := by decide +kernel
theorem dX12_hurtAt_59 : decode cX12_hurtAt 59 = .ok (.invokestatic 75, 3) := by decide +kernel
theorem dX12_hurtAt_62 : decode cX12_hurtAt 62 = .ok (.istore 5, 2) := by decide +kernel
theorem dX12_hurtAt_64 : decode cX12_hurtAt 64 = .ok (.aload_n 0, 1) := by decide +kernel
theorem dX12_hurtAt_65 : decode cX12_hurtAt 65 = .ok (.getfield 7, 3) := by decide +kernel
theorem dX12_hurtAt_68 : decode cX12_hurtAt 68 = .ok (.bipush 44, 2) := by decide +kernel
theorem dX12_hurtAt_70 : decode cX12_hurtAt 70 = .ok (.iload_n 1, 1) := by decide +kernel
theorem dX12_hurtAt_71 : decode cX12_hurtAt 71 = .ok (.iadd, 1) := by decide +kernel
theorem dX12_hurtAt_72 : decode cX12_hurtAt 72 = .ok (.iaload, 1) := by decide +kernel
theorem dX12_hurtAt_73 : decode cX12_hurtAt 73 = .ok (.aload_n 0, 1) := by decide +kernel
theorem dX12_hurtAt_74 : decode cX12_hurtAt 74 = .ok (.getfield 7, 3) := by decide +kernel
theorem dX12_hurtAt_77 : decode cX12_hurtAt 77 = .ok (.bipush 48, 2) := by decide +kernel
theorem dX12_hurtAt_79 : decode cX12_hurtAt 79 = .ok (.iload_n 1, 1) := by decide +kernel
theorem dX12_hurtAt_80 : decode cX12_hurtAt 80 = .ok (.iadd, 1) := by decide +kernel
theorem dX12_hurtAt_81 : decode cX12_hurtAt 81 = .ok (.iaload, 1) := by decide +kernel
theorem dX12_hurtAt_82 : decode cX12_hurtAt 82 = .ok (.aload_n 0, 1) := by decide +kernel
theorem dX12_hurtAt_83 : decode cX12_hurtAt 83 = .ok (.getfield 7, 3) := by decide +kernel
theorem dX12_hurtAt_86 : decode cX12_hurtAt 86 = .ok (.bipush 52, 2) := by decide +kernel
theorem dX12_hurtAt_88 : decode cX12_hurtAt 88 = .ok (.iload_n 1, 1) := by decide +kernel
theorem dX12_hurtAt_89 : decode cX12_hurtAt 89 = .ok (.iadd, 1) := by decide +kernel
theorem dX12_hurtAt_90 : decode cX12_hurtAt 90 = .ok (.iaload, 1) := by decide +kernel
theorem dX12_hurtAt_91 : decode cX12_hurtAt 91 = .ok (.iload 5, 2) := by decide +kernel
theorem dX12_hurtAt_93 : decode cX12_hurtAt 93 = .ok (.iload 4, 2) := by decide +kernel
theorem dX12_hurtAt_95 : decode cX12_hurtAt 95 = .ok (.invokestatic 186, 3) := by decide +kernel
theorem dX12_hurtAt_98 : decode cX12_hurtAt 98 = .ok (.ireturn, 1) := by decide +kernel
theorem dX12_rests_0 : decode cX12_rests 0 = .ok (.aload_n 0, 1) := by decide +kernel
theorem dX12_rests_1 : decode cX12_rests 1 = .ok (.iload_n 1, 1) := by decide +kernel
theorem dX12_rests_2 : decode cX12_rests 2 = .ok (.iload_n 2, 1) := by decide +kernel
theorem dX12_rests_3 : decode cX12_rests 3 = .ok (.iload_n 3, 1) := by decide +kernel
theorem dX12_rests_4 : decode cX12_rests 4 = .ok (.iload 4, 2) := by decide +kernel
theorem dX12_rests_6 : decode cX12_rests 6 = .ok (.invokestatic 75, 3) := by decide +kernel
theorem dX12_rests_9 : decode cX12_rests 9 = .ok (.invokevirtual 277, 3) := by decide +kernel
theorem dX12_rests_12 : decode cX12_rests 12 = .ok (.istore 5, 2) := by decide +kernel
theorem dX12_rests_14 : decode cX12_rests 14 = .ok (.iconst 1, 1) := by decide +kernel
theorem dX12_rests_15 : decode cX12_rests 15 = .ok (.istore 6, 2) := by decide +kernel
theorem dX12_rests_17 : decode cX12_rests 17 = .ok (.iconst 0, 1) := by decide +kernel
theorem dX12_rests_18 : decode cX12_rests 18 = .ok (.istore 7, 2) := by decide +kernel
theorem dX12_rests_20 : decode cX12_rests 20 = .ok (.iload 7, 2) := by decide +kernel
theorem dX12_rests_22 : decode cX12_rests 22 = .ok (.iconst 4, 1) := by decide +kernel
theorem dX12_rests_23 : decode cX12_rests 23 = .ok (.if_icmp .ge 75, 3) := by decide +kernel
theorem dX12_rests_26 : decode cX12_rests 26 = .ok (.iload 6, 2) := by decide +kernel
theorem dX12_rests_28 : decode cX12_rests 28 = .ok (.ifCond .eq 61, 3) := by decide +kernel
theorem dX12_rests_31 : decode cX12_rests 31 = .ok (.aload_n 0, 1) := by decide +kernel
theorem dX12_rests_32 : decode cX12_rests 32 = .ok (.iload_n 1, 1) := by decide +kernel
theorem dX12_rests_33 : decode cX12_rests 33 = .ok (.iload_n 2, 1) := by decide +kernel
theorem dX12_rests_34 : decode cX12_rests 34 = .ok (.iload 7, 2) := by decide +kernel
theorem dX12_rests_36 : decode cX12_rests 36 = .ok (.iload 4, 2) := by decide +kernel
theorem dX12_rests_38 : decode cX12_rests 38 = .ok (.invokestatic 75, 3) := by decide +kernel
theorem dX12_rests_41 : decode cX12_rests 41 = .ok (.invokevirtual 277, 3) := by decide +kernel
theorem dX12_rests_44 : decode cX12_rests 44 = .ok (.ineg, 1) := by decide +kernel
theorem dX12_rests_45 : decode cX12_rests 45 = .ok (.iload 7, 2) := by decide +kernel
theorem dX12_rests_47 : decode cX12_rests 47 = .ok (.isub, 1) := by decide +kernel
theorem dX12_rests_48 : decode cX12_rests 48 = .ok (.iload 5, 2) := by decide +kernel
theorem dX12_rests_50 : decode cX12_rests 50 = .ok (.ineg, 1) := by decide +kernel
theorem dX12_rests_51 : decode cX12_rests 51 = .ok (.iload_n 3, 1) := by decide +kernel
theorem dX12_rests_52 : decode cX12_rests 52 = .ok (.isub, 1) := by decide +kernel
theorem dX12_rests_53 : decode cX12_rests 53 = .ok (.if_icmp .gt 36, 3) := by decide +kernel
theorem dX12_rests_56 : decode cX12_rests 56 = .ok (.aload_n 0, 1) := by decide +kernel
theorem dX12_rests_57 : decode cX12_rests 57 = .ok (.iload_n 1, 1) := by decide +kernel
theorem dX12_rests_58 : decode cX12_rests 58 = .ok (.iload_n 2, 1) := by decide +kernel
theorem dX12_rests_59 : decode cX12_rests 59 = .ok (.iload_n 3, 1) := by decide +kernel
theorem dX12_rests_60 : decode cX12_rests 60 = .ok (.iload 7, 2) := by decide +kernel
theorem dX12_rests_62 : decode cX12_rests 62 = .ok (.invokestatic 75, 3) := by decide +kernel
theorem dX12_rests_65 : decode cX12_rests 65 = .ok (.invokevirtual 277, 3) := by decide +kernel
theorem dX12_rests_68 : decode cX12_rests 68 = .ok (.ineg, 1) := by decide +kernel
theorem dX12_rests_69 : decode cX12_rests 69 = .ok (.iconst 2, 1) := by decide +kernel
theorem dX12_rests_70 : decode cX12_rests 70 = .ok (.iload 7, 2) := by decide +kernel
theorem dX12_rests_72 : decode cX12_rests 72 = .ok (.imul, 1) := by decide +kernel
theorem dX12_rests_73 : decode cX12_rests 73 = .ok (.isub, 1) := by decide +kernel
theorem dX12_rests_74 : decode cX12_rests 74 = .ok (.iload 5, 2) := by decide +kernel
theorem dX12_rests_76 : decode cX12_rests 76 = .ok (.ineg, 1) := by decide +kernel
theorem dX12_rests_77 : decode cX12_rests 77 = .ok (.iconst 2, 1) := by decide +kernel
theorem dX12_rests_78 : decode cX12_rests 78 = .ok (.iload 4, 2) := by decide +kernel
theorem dX12_rests_80 : decode cX12_rests 80 = .ok (.imul, 1) := by decide +kernel
theorem dX12_rests_81 : decode cX12_rests 81 = .ok (.isub, 1) := by decide +kernel
theorem dX12_rests_82 : decode cX12_rests 82 = .ok (.if_icmp .gt 7, 3) := by decide +kernel
theorem dX12_rests_85 : decode cX12_rests 85 = .ok (.iconst 1, 1) := by decide +kernel
theorem dX12_rests_86 : decode cX12_rests 86 = .ok (.goto 4, 3) := by decide +kernel
theorem dX12_rests_89 : decode cX12_rests 89 = .ok (.iconst 0, 1) := by decide +kernel
theorem dX12_rests_90 : decode cX12_rests 90 = .ok (.istore 6, 2) := by decide +kernel
theorem dX12_rests_92 : decode cX12_rests 92 = .ok (.iinc 7 1, 3) := by decide +kernel
theorem dX12_rests_95 : decode cX12_rests 95 = .ok (.goto (-75), 3) := by decide +kernel
theorem dX12_rests_98 : decode cX12_rests 98 = .ok (.iload 6, 2) := by decide +kernel
theorem dX12_rests_100 : decode cX12_rests 100 = .ok (.ireturn, 1) := by decide +kernel
theorem dX12_lamp_0 : decode cX12_lamp 0 = .ok (.aload_n 0, 1) := by decide +kernel
theorem dX12_lamp_1 : decode cX12_lamp 1 = .ok (.iload_n 1, 1) := by decide +kernel
theorem dX12_lamp_2 : decode cX12_lamp 2 = .ok (.invokevirtual 190, 3) := by decide +kernel
theorem dX12_lamp_5 : decode cX12_lamp 5 = .ok (.ifCond .eq 16, 3) := by decide +kernel
theorem dX12_lamp_8 : decode cX12_lamp 8 = .ok (.aload_n 0, 1) := by decide +kernel
theorem dX12_lamp_9 : decode cX12_lamp 9 = .ok (.iload_n 2, 1) := by decide +kernel
theorem dX12_lamp_10 : decode cX12_lamp 10 = .ok (.invokevirtual 193, 3) := by decide +kernel
theorem dX12_lamp_13 : decode cX12_lamp 13 = .ok (.ifCond .eq 8, 3) := by decide +kernel
theorem dX12_lamp_16 : decode cX12_lamp 16 = .ok (.iload_n 3, 1) := by decide +kernel
theorem dX12_lamp_17 : decode cX12_lamp 17 = .ok (.iconst (-1), 1) := by decide +kernel
theorem dX12_lamp_18 : decode cX12_lamp 18 = .ok (.if_icmp .ge 10, 3) := by decide +kernel
theorem dX12_lamp_21 : decode cX12_lamp 21 = .ok (.aload_n 0, 1) := by decide +kernel
theorem dX12_lamp_22 : decode cX12_lamp 22 = .ok (.bipush (-10), 2) := by decide +kernel
theorem dX12_lamp_24 : decode cX12_lamp 24 = .ok (.invokevirtual 84, 3) := by decide +kernel
theorem dX12_lamp_27 : decode cX12_lamp 27 = .ok (.ireturn, 1) := by decide +kernel
theorem dX12_lamp_28 : decode cX12_lamp 28 = .ok (.iconst 0, 1) := by decide +kernel
theorem dX12_lamp_29 : decode cX12_lamp 29 = .ok (.istore 4, 2) := by decide +kernel
theorem dX12_lamp_31 : decode cX12_lamp 31 = .ok (.iconst 0, 1) := by decide +kernel
theorem dX12_lamp_32 : decode cX12_lamp 32 = .ok (.istore 5, 2) := by decide +kernel
theorem dX12_lamp_34 : decode cX12_lamp 34 = .ok (.iload 5, 2) := by decide +kernel
theorem dX12_lamp_36 : decode cX12_lamp 36 = .ok (.iconst 4, 1) := by decide +kernel
theorem dX12_lamp_37 : decode cX12_lamp 37 = .ok (.if_icmp .ge 55, 3) := by decide +kernel
theorem dX12_lamp_40 : decode cX12_lamp 40 = .ok (.iconst 0, 1) := by decide +kernel
theorem dX12_lamp_41 : decode cX12_lamp 41 = .ok (.istore 6, 2) := by decide +kernel
theorem dX12_lamp_43 : decode cX12_lamp 43 = .ok (.iload 6, 2) := by decide +kernel
theorem dX12_lamp_45 : decode cX12_lamp 45 = .ok (.iconst 4, 1) := by decide +kernel
theorem dX12_lamp_46 : decode cX12_lamp 46 = .ok (.if_icmp .ge 40, 3) := by decide +kernel
theorem dX12_lamp_49 : decode cX12_lamp 49 = .ok (.aload_n 0, 1) := by decide +kernel
theorem dX12_lamp_50 : decode cX12_lamp 50 = .ok (.iload_n 1, 1) := by decide +kernel
theorem dX12_lamp_51 : decode cX12_lamp 51 = .ok (.iload_n 2, 1) := by decide +kernel
theorem dX12_lamp_52 : decode cX12_lamp 52 = .ok (.iload 5, 2) := by decide +kernel
theorem dX12_lamp_54 : decode cX12_lamp 54 = .ok (.iload 6, 2) := by decide +kernel
theorem dX12_lamp_56 : decode cX12_lamp 56 = .ok (.invokevirtual 281, 3) := by decide +kernel
theorem dX12_lamp_59 : decode cX12_lamp 59 = .ok (.ifCond .eq 21, 3) := by decide +kernel
theorem dX12_lamp_62 : decode cX12_lamp 62 = .ok (.iload 4, 2) := by decide +kernel
theorem dX12_lamp_64 : decode cX12_lamp 64 = .ok (.iload_n 3, 1) := by decide +kernel
theorem dX12_lamp_65 : decode cX12_lamp 65 = .ok (.if_icmp .ne 12, 3) := by decide +kernel
theorem dX12_lamp_68 : decode cX12_lamp 68 = .ok (.bipush 10, 2) := by decide +kernel
theorem dX12_lamp_70 : decode cX12_lamp 70 = .ok (.iload 5, 2) := by decide +kernel
theorem dX12_lamp_72 : decode cX12_lamp 72 = .ok (.imul, 1) := by decide +kernel
theorem dX12_lamp_73 : decode cX12_lamp 73 = .ok (.iload 6, 2) := by decide +kernel
theorem dX12_lamp_75 : decode cX12_lamp 75 = .ok (.iadd, 1) := by decide +kernel
theorem dX12_lamp_76 : decode cX12_lamp 76 = .ok (.ireturn, 1) := by decide +kernel
theorem dX12_lamp_77 : decode cX12_lamp 77 = .ok (.iinc 4 1, 3) := by decide +kernel
theorem dX12_lamp_80 : decode cX12_lamp 80 = .ok (.iinc 6 1, 3) := by decide +kernel
theorem dX12_lamp_83 : decode cX12_lamp 83 = .ok (.goto (-40), 3) := by decide +kernel
theorem dX12_lamp_86 : decode cX12_lamp 86 = .ok (.iinc 5 1, 3) := by decide +kernel
theorem dX12_lamp_89 : decode cX12_lamp 89 = .ok (.goto (-55), 3) := by decide +kernel
theorem dX12_lamp_92 : decode cX12_lamp 92 = .ok (.iload_n 3, 1) := by decide +kernel
theorem dX12_lamp_93 : decode cX12_lamp 93 = .ok (.ifCond .ge 8, 3) := by decide +kernel
theorem dX12_lamp_96 : decode cX12_lamp 96 = .ok (.iload 4, 2) := by decide +kernel
theorem dX12_lamp_98 : decode cX12_lamp 98 = .ok (.goto 5, 3) := by decide +kernel
theorem dX12_lamp_101 : decode cX12_lamp 101 = .ok (.bipush (-5), 2) := by decide +kernel
theorem dX12_lamp_103 : decode cX12_lamp 103 = .ok (.ireturn, 1) := by decide +kernel
theorem dX12_tellsPart_0 : decode cX12_tellsPart 0 = .ok (.lload_n 1, 1) := by decide +kernel
theorem dX12_tellsPart_1 : decode cX12_tellsPart 1 = .ok (.lstore 5, 2) := by decide +kernel
theorem dX12_tellsPart_3 : decode cX12_tellsPart 3 = .ok (.lload_n 3, 1) := by decide +kernel
theorem dX12_tellsPart_4 : decode cX12_tellsPart 4 = .ok (.lstore 7, 2) := by decide +kernel
theorem dX12_tellsPart_6 : decode cX12_tellsPart 6 = .ok (.lload 7, 2) := by decide +kernel
theorem dX12_tellsPart_8 : decode cX12_tellsPart 8 = .ok (.lconst 0, 1) := by decide +kernel
theorem dX12_tellsPart_9 : decode cX12_tellsPart 9 = .ok (.lcmp, 1) := by decide +kernel
theorem dX12_tellsPart_10 : decode cX12_tellsPart 10 = .ok (.ifCond .eq 21, 3) := by decide +kernel
theorem dX12_tellsPart_13 : decode cX12_tellsPart 13 = .ok (.lload 5, 2) := by decide +kernel
theorem dX12_tellsPart_15 : decode cX12_tellsPart 15 = .ok (.lload 7, 2) := by decide +kernel
theorem dX12_tellsPart_17 : decode cX12_tellsPart 17 = .ok (.lrem, 1) := by decide +kernel
theorem dX12_tellsPart_18 : decode cX12_tellsPart 18 = .ok (.lstore 9, 2) := by decide +kernel
theorem dX12_tellsPart_20 : decode cX12_tellsPart 20 = .ok (.lload 7, 2) := by decide +kernel
theorem dX12_tellsPart_22 : decode cX12_tellsPart 22 = .ok (.lstore 5, 2) := by decide +kernel
theorem dX12_tellsPart_24 : decode cX12_tellsPart 24 = .ok (.lload 9, 2) := by decide +kernel
theorem dX12_tellsPart_26 : decode cX12_tellsPart 26 = .ok (.lstore 7, 2) := by decide +kernel
theorem dX12_tellsPart_28 : decode cX12_tellsPart 28 = .ok (.goto (-22), 3) := by decide +kernel
theorem dX12_tellsPart_31 : decode cX12_tellsPart 31 = .ok (.aload_n 0, 1) := by decide +kernel
theorem dX12_tellsPart_32 : decode cX12_tellsPart 32 = .ok (.lload_n 1, 1) := by decide +kernel
theorem dX12_tellsPart_33 : decode cX12_tellsPart 33 = .ok (.lload 5, 2) := by decide +kernel
theorem dX12_tellsPart_35 : decode cX12_tellsPart 35 = .ok (.ldiv, 1) := by decide +kernel
theorem dX12_tellsPart_36 : decode cX12_tellsPart 36 = .ok (.putfield 285, 3) := by decide +kernel
theorem dX12_tellsPart_39 : decode cX12_tellsPart 39 = .ok (.aload_n 0, 1) := by decide +kernel
theorem dX12_tellsPart_40 : decode cX12_tellsPart 40 = .ok (.lload_n 3, 1) := by decide +kernel
theorem dX12_tellsPart_41 : decode cX12_tellsPart 41 = .ok (.lload 5, 2) := by decide +kernel
theorem dX12_tellsPart_43 : decode cX12_tellsPart 43 = .ok (.ldiv, 1) := by decide +kernel
theorem dX12_tellsPart_44 : decode cX12_tellsPart 44 = .ok (.putfield 26, 3) := by decide +kernel
theorem dX12_tellsPart_47 : decode cX12_tellsPart 47 = .ok (.return_, 1) := by decide +kernel
theorem dX12_weighs_0 : decode cX12_weighs 0 = .ok (.lconst 0, 1) := by decide +kernel
theorem dX12_weighs_1 : decode cX12_weighs 1 = .ok (.lstore 5, 2) := by decide +kernel
theorem dX12_weighs_3 : decode cX12_weighs 3 = .ok (.lconst 1, 1) := by decide +kernel
theorem dX12_weighs_4 : decode cX12_weighs 4 = .ok (.lstore 7, 2) := by decide +kernel
theorem dX12_weighs_6 : decode cX12_weighs 6 = .ok (.iconst 0, 1) := by decide +kernel
theorem dX12_weighs_7 : decode cX12_weighs 7 = .ok (.istore 9, 2) := by decide +kernel
theorem dX12_weighs_9 : decode cX12_weighs 9 = .ok (.iload 9, 2) := by decide +kernel
theorem dX12_weighs_11 : decode cX12_weighs 11 = .ok (.aload_n 0, 1) := by decide +kernel
theorem dX12_weighs_12 : decode cX12_weighs 12 = .ok (.getfield 207, 3) := by decide +kernel
theorem dX12_weighs_15 : decode cX12_weighs 15 = .ok (.if_icmp .ge 17, 3) := by decide +kernel
theorem dX12_weighs_18 : decode cX12_weighs 18 = .ok (.lload 7, 2) := by decide +kernel
theorem dX12_weighs_20 : decode cX12_weighs 20 = .ok (.ldc2_w 288, 3) := by decide +kernel
theorem dX12_weighs_23 : decode cX12_weighs 23 = .ok (.lmul, 1) := by decide +kernel
theorem dX12_weighs_24 : decode cX12_weighs 24 = .ok (.lstore 7, 2) := by decide +kernel
theorem dX12_weighs_26 : decode cX12_weighs 26 = .ok (.iinc 9 1, 3) := by decide +kernel
theorem dX12_weighs_29 : decode cX12_weighs 29 = .ok (.goto (-20), 3) := by decide +kernel
theorem dX12_weighs_32 : decode cX12_weighs 32 = .ok (.iconst 0, 1) := by decide +kernel
theorem dX12_weighs_33 : decode cX12_weighs 33 = .ok (.istore 9, 2) := by decide +kernel
theorem dX12_weighs_35 : decode cX12_weighs 35 = .ok (.iload 9, 2) := by decide +kernel
theorem dX12_weighs_37 : decode cX12_weighs 37 = .ok (.iconst 1, 1) := by decide +kernel
theorem dX12_weighs_38 : decode cX12_weighs 38 = .ok (.aload_n 0, 1) := by decide +kernel
theorem dX12_weighs_39 : decode cX12_weighs 39 = .ok (.getfield 207, 3) := by decide +kernel
theorem dX12_weighs_42 : decode cX12_weighs 42 = .ok (.ishl, 1) := by decide +kernel
theorem dX12_weighs_43 : decode cX12_weighs 43 = .ok (.if_icmp .ge 136, 3) := by decide +kernel
theorem dX12_weighs_46 : decode cX12_weighs 46 = .ok (.lconst 1, 1) := by decide +kernel
theorem dX12_weighs_47 : decode cX12_weighs 47 = .ok (.lstore 10, 2) := by decide +kernel
theorem dX12_weighs_49 : decode cX12_weighs 49 = .ok (.aload_n 0, 1) := by decide +kernel
theorem dX12_weighs_50 : decode cX12_weighs 50 = .ok (.iload_n 1, 1) := by decide +kernel
theorem dX12_weighs_51 : decode cX12_weighs 51 = .ok (.invokevirtual 225, 3) := by decide +kernel
theorem dX12_weighs_54 : decode cX12_weighs 54 = .ok (.iconst 0, 1) := by decide +kernel
theorem dX12_weighs_55 : decode cX12_weighs 55 = .ok (.istore 12, 2) := by decide +kernel
theorem dX12_weighs_57 : decode cX12_weighs 57 = .ok (.iload 12, 2) := by decide +kernel
theorem dX12_weighs_59 : decode cX12_weighs 59 = .ok (.aload_n 0, 1) := by decide +kernel
theorem dX12_weighs_60 : decode cX12_weighs 60 = .ok (.getfield 207, 3) := by decide +kernel
theorem dX12_weighs_63 : decode cX12_weighs 63 = .ok (.if_icmp .ge 66, 3) := by decide +kernel
theorem dX12_weighs_66 : decode cX12_weighs 66 = .ok (.lload 10, 2) := by decide +kernel
theorem dX12_weighs_68 : decode cX12_weighs 68 = .ok (.iload 9, 2) := by decide +kernel
theorem dX12_weighs_70 : decode cX12_weighs 70 = .ok (.iload 12, 2) := by decide +kernel
theorem dX12_weighs_72 : decode cX12_weighs 72 = .ok (.invokestatic 231, 3) := by decide +kernel
theorem dX12_weighs_75 : decode cX12_weighs 75 = .ok (.ifCond .eq 9, 3) := by decide +kernel
theorem dX12_weighs_78 : decode cX12_weighs 78 = .ok (.iload 4, 2) := by decide +kernel
theorem dX12_weighs_80 : decode cX12_weighs 80 = .ok (.i2l, 1) := by decide +kernel
theorem dX12_weighs_81 : decode cX12_weighs 81 = .ok (.goto 9, 3) := by decide +kernel
theorem dX12_weighs_84 : decode cX12_weighs 84 = .ok (.bipush 10, 2) := by decide +kernel
theorem dX12_weighs_86 : decode cX12_weighs 86 = .ok (.iload 4, 2) := by decide +kernel
theorem dX12_weighs_88 : decode cX12_weighs 88 = .ok (.isub, 1) := by decide +kernel
theorem dX12_weighs_89 : decode cX12_weighs 89 = .ok (.i2l, 1) := by decide +kernel
theorem dX12_weighs_90 : decode cX12_weighs 90 = .ok (.lmul, 1) := by decide +kernel
theorem dX12_weighs_91 : decode cX12_weighs 91 = .ok (.lstore 10, 2) := by decide +kernel
theorem dX12_weighs_93 : decode cX12_weighs 93 = .ok (.aload_n 0, 1) := by decide +kernel
theorem dX12_weighs_94 : decode cX12_weighs 94 = .ok (.iload_n 1, 1) := by decide +kernel
theorem dX12_weighs_95 : decode cX12_weighs 95 = .ok (.iload_n 2, 1) := by decide +kernel
theorem dX12_weighs_96 : decode cX12_weighs 96 = .ok (.iload 12, 2) := by decide +kernel
theorem dX12_weighs_98 : decode cX12_weighs 98 = .ok (.aload_n 0, 1) := by decide +kernel
theorem dX12_weighs_99 : decode cX12_weighs 99 = .ok (.getfield 57, 3) := by decide +kernel
theorem dX12_weighs_102 : decode cX12_weighs 102 = .ok (.iload 12, 2) := by decide +kernel
theorem dX12_weighs_104 : decode cX12_weighs 104 = .ok (.iaload, 1) := by decide +kernel
theorem dX12_weighs_105 : decode cX12_weighs 105 = .ok (.iload 9, 2) := by decide +kernel
theorem dX12_weighs_107 : decode cX12_weighs 107 = .ok (.iload 12, 2) := by decide +kernel
theorem dX12_weighs_109 : decode cX12_weighs 109 = .ok (.invokestatic 231, 3) := by decide +kernel
theorem dX12_weighs_112 : decode cX12_weighs 112 = .ok (.ifCond .ne 7, 3) := by decide +kernel
theorem dX12_weighs_115 : decode cX12_weighs 115 = .ok (.iconst 1, 1) := by decide +kernel
theorem dX12_weighs_116 : decode cX12_weighs 116 = .ok (.goto 4, 3) := by decide +kernel
theorem dX12_weighs_119 : decode cX12_weighs 119 = .ok (.iconst 0, 1) := by decide +kernel
theorem dX12_weighs_120 : decode cX12_weighs 120 = .ok (.invokevirtual 234, 3) := by decide +kernel
theorem dX12_weighs_123 : decode cX12_weighs 123 = .ok (.iinc 12 1, 3) := by decide +kernel
theorem dX12_weighs_126 : decode cX12_weighs 126 = .ok (.goto (-69), 3) := by decide +kernel
theorem dX12_weighs_129 : decode cX12_weighs 129 = .ok (.lload 5, 2) := by decide +kernel
theorem dX12_weighs_131 : decode cX12_weighs 131 = .ok (.iload_n 3, 1) := by decide +kernel
theorem dX12_weighs_132 : decode cX12_weighs 132 = .ok (.ifCond .ge 19, 3) := by decide +kernel
theorem dX12_weighs_135 : decode cX12_weighs 135 = .ok (.lload 10, 2) := by decide +kernel
theorem dX12_weighs_137 : decode cX12_weighs 137 = .ok (.aload_n 0, 1) := by decide +kernel
theorem dX12_weighs_138 : decode cX12_weighs 138 = .ok (.getfield 45, 3) := by decide +kernel
theorem dX12_weighs_141 : decode cX12_weighs 141 = .ok (.aload_n 0, 1) := by decide +kernel
theorem dX12_weighs_142 : decode cX12_weighs 142 = .ok (.getfield 207, 3) := by decide +kernel
theorem dX12_weighs_145 : decode cX12_weighs 145 = .ok (.iaload, 1) := by decide +kernel
theorem dX12_weighs_146 : decode cX12_weighs 146 = .ok (.i2l, 1) := by decide +kernel
theorem dX12_weighs_147 : decode cX12_weighs 147 = .ok (.lmul, 1) := by decide +kernel
theorem dX12_weighs_148 : decode cX12_weighs 148 = .ok (.goto 22, 3) := by decide +kernel
theorem dX12_weighs_151 : decode cX12_weighs 151 = .ok (.aload_n 0, 1) := by decide +kernel
theorem dX12_weighs_152 : decode cX12_weighs 152 = .ok (.getfield 42, 3) := by decide +kernel
theorem dX12_weighs_155 : decode cX12_weighs 155 = .ok (.aload_n 0, 1) := by decide +kernel
theorem dX12_weighs_156 : decode cX12_weighs 156 = .ok (.getfield 207, 3) := by decide +kernel
theorem dX12_weighs_159 : decode cX12_weighs 159 = .ok (.iaload, 1) := by decide +kernel
theorem dX12_weighs_160 : decode cX12_weighs 160 = .ok (.iload_n 3, 1) := by decide +kernel
theorem dX12_weighs_161 : decode cX12_weighs 161 = .ok (.if_icmp .lt 8, 3) := by decide +kernel
theorem dX12_weighs_164 : decode cX12_weighs 164 = .ok (.lload 10, 2) := by decide +kernel
theorem dX12_weighs_166 : decode cX12_weighs 166 = .ok (.goto 4, 3) := by decide +kernel
theorem dX12_weighs_169 : decode cX12_weighs 169 = .ok (.lconst 0, 1) := by decide +kernel
theorem dX12_weighs_170 : decode cX12_weighs 170 = .ok (.ladd, 1) := by decide +kernel
theorem dX12_weighs_171 : decode cX12_weighs 171 = .ok (.lstore 5, 2) := by decide +kernel
theorem dX12_weighs_173 : decode cX12_weighs 173 = .ok (.iinc 9 1, 3) := by decide +kernel
theorem dX12_weighs_176 : decode cX12_weighs 176 = .ok (.goto (-141), 3) := by decide +kernel
theorem dX12_weighs_179 : decode cX12_weighs 179 = .ok (.aload_n 0, 1) := by decide +kernel
theorem dX12_weighs_180 : decode cX12_weighs 180 = .ok (.lload 5, 2) := by decide +kernel
theorem dX12_weighs_182 : decode cX12_weighs 182 = .ok (.lload 7, 2) := by decide +kernel
theorem dX12_weighs_184 : decode cX12_weighs 184 = .ok (.invokevirtual 290, 3) := by decide +kernel
theorem dX12_weighs_187 : decode cX12_weighs 187 = .ok (.iconst 1, 1) := by decide +kernel
theorem dX12_weighs_188 : decode cX12_weighs 188 = .ok (.ireturn, 1) := by decide +kernel
theorem dX12_odds_0 : decode cX12_odds 0 = .ok (.aload_n 0, 1) := by decide +kernel
theorem dX12_odds_1 : decode cX12_odds 1 = .ok (.iload_n 1, 1) := by decide +kernel
theorem dX12_odds_2 : decode cX12_odds 2 = .ok (.invokevirtual 190, 3) := by decide +kernel
theorem dX12_odds_5 : decode cX12_odds 5 = .ok (.ifCond .eq 36, 3) := by decide +kernel
theorem dX12_odds_8 : decode cX12_odds 8 = .ok (.aload_n 0, 1) := by decide +kernel
theorem dX12_odds_9 : decode cX12_odds 9 = .ok (.iload_n 2, 1) := by decide +kernel
theorem dX12_odds_10 : decode cX12_odds 10 = .ok (.invokevirtual 193, 3) := by decide +kernel
theorem dX12_odds_13 : decode cX12_odds 13 = .ok (.ifCond .eq 28, 3) := by decide +kernel
theorem dX12_odds_16 : decode cX12_odds 16 = .ok (.iload_n 3, 1) := by decide +kernel
theorem dX12_odds_17 : decode cX12_odds 17 = .ok (.i2l, 1) := by decide +kernel
theorem dX12_odds_18 : decode cX12_odds 18 = .ok (.lconst 0, 1) := by decide +kernel
theorem dX12_odds_19 : decode cX12_odds 19 = .ok (.ldc2_w 109, 3) := by decide +kernel
theorem dX12_odds_22 : decode cX12_odds 22 = .ok (.invokestatic 69, 3) := by decide +kernel
theorem dX12_odds_25 : decode cX12_odds 25 = .ok (.ifCond .eq 16, 3) := by decide +kernel
theorem dX12_odds_28 : decode cX12_odds 28 = .ok (.iload 4, 2) := by decide +kernel
theorem dX12_odds_30 : decode cX12_odds 30 = .ok (.i2l, 1) := by decide +kernel
theorem dX12_odds_31 : decode cX12_odds 31 = .ok (.lconst 0, 1) := by decide +kernel
theorem dX12_odds_32 : decode cX12_odds 32 = .ok (.ldc2_w 288, 3) := by decide +kernel
theorem dX12_odds_35 : decode cX12_odds 35 = .ok (.invokestatic 69, 3) := by decide +kernel
theorem dX12_odds_38 : decode cX12_odds 38 = .ok (.ifCond .ne 10, 3) := by decide +kernel
theorem dX12_odds_41 : decode cX12_odds 41 = .ok (.aload_n 0, 1) := by decide +kernel
theorem dX12_odds_42 : decode cX12_odds 42 = .ok (.bipush (-2), 2) := by decide +kernel
theorem dX12_odds_44 : decode cX12_odds 44 = .ok (.invokevirtual 84, 3) := by decide +kernel
theorem dX12_odds_47 : decode cX12_odds 47 = .ok (.ireturn, 1) := by decide +kernel
theorem dX12_odds_48 : decode cX12_odds 48 = .ok (.aload_n 0, 1) := by decide +kernel
theorem dX12_odds_49 : decode cX12_odds 49 = .ok (.iload_n 1, 1) := by decide +kernel
theorem dX12_odds_50 : decode cX12_odds 50 = .ok (.iload_n 2, 1) := by decide +kernel
theorem dX12_odds_51 : decode cX12_odds 51 = .ok (.invokevirtual 238, 3) := by decide +kernel
theorem dX12_odds_54 : decode cX12_odds 54 = .ok (.aload_n 0, 1) := by decide +kernel
theorem dX12_odds_55 : decode cX12_odds 55 = .ok (.getfield 207, 3) := by decide +kernel
theorem dX12_odds_58 : decode cX12_odds 58 = .ok (.ifCond .ne 10, 3) := by decide +kernel
theorem dX12_odds_61 : decode cX12_odds 61 = .ok (.aload_n 0, 1) := by decide +kernel
theorem dX12_odds_62 : decode cX12_odds 62 = .ok (.invokevirtual 196, 3) := by decide +kernel
theorem dX12_odds_65 : decode cX12_odds 65 = .ok (.goto 12, 3) := by decide +kernel
theorem dX12_odds_68 : decode cX12_odds 68 = .ok (.aload_n 0, 1) := by decide +kernel
theorem dX12_odds_69 : decode cX12_odds 69 = .ok (.iload_n 1, 1) := by decide +kernel
theorem dX12_odds_70 : decode cX12_odds 70 = .ok (.iload_n 2, 1) := by decide +kernel
theorem dX12_odds_71 : decode cX12_odds 71 = .ok (.iload_n 3, 1) := by decide +kernel
theorem dX12_odds_72 : decode cX12_odds 72 = .ok (.iload 4, 2) := by decide +kernel
theorem dX12_odds_74 : decode cX12_odds 74 = .ok (.invokevirtual 294, 3) := by decide +kernel
theorem dX12_odds_77 : decode cX12_odds 77 = .ok (.ireturn, 1) := by decide +kernel
theorem dX12_mean_0 : decode cX12_mean 0 = .ok (.aload_n 0, 1) := by decide +kernel
theorem dX12_mean_1 : decode cX12_mean 1 = .ok (.iload_n 1, 1) := by decide +kernel
theorem dX12_mean_2 : decode cX12_mean 2 = .ok (.invokevirtual 190, 3) := by decide +kernel
theorem dX12_mean_5 : decode cX12_mean 5 = .ok (.ifCond .eq 23, 3) := by decide +kernel
theorem dX12_mean_8 : decode cX12_mean 8 = .ok (.aload_n 0, 1) := by decide +kernel
theorem dX12_mean_9 : decode cX12_mean 9 = .ok (.iload_n 2, 1) := by decide +kernel
theorem dX12_mean_10 : decode cX12_mean 10 = .ok (.invokevirtual 193, 3) := by decide +kernel
theorem dX12_mean_13 : decode cX12_mean 13 = .ok (.ifCond .eq 15, 3) := by decide +kernel
theorem dX12_mean_16 : decode cX12_mean 16 = .ok (.iload_n 3, 1) := by decide +kernel
theorem dX12_mean_17 : decode cX12_mean 17 = .ok (.i2l, 1) := by decide +kernel
theorem dX12_mean_18 : decode cX12_mean 18 = .ok (.lconst 0, 1) := by decide +kernel
theorem dX12_mean_19 : decode cX12_mean 19 = .ok (.ldc2_w 288, 3) := by decide +kernel
theorem dX12_mean_22 : decode cX12_mean 22 = .ok (.invokestatic 69, 3) := by decide +kernel
theorem dX12_mean_25 : decode cX12_mean 25 = .ok (.ifCond .ne 10, 3) := by decide +kernel
theorem dX12_mean_28 : decode cX12_mean 28 = .ok (.aload_n 0, 1) := by decide +kernel
theorem dX12_mean_29 : decode cX12_mean 29 = .ok (.bipush (-2), 2) := by decide +kernel
theorem dX12_mean_31 : decode cX12_mean 31 = .ok (.invokevirtual 84, 3) := by decide +kernel
theorem dX12_mean_34 : decode cX12_mean 34 = .ok (.ireturn, 1) := by decide +kernel
theorem dX12_mean_35 : decode cX12_mean 35 = .ok (.aload_n 0, 1) := by decide +kernel
theorem dX12_mean_36 : decode cX12_mean 36 = .ok (.iload_n 1, 1) := by decide +kernel
theorem dX12_mean_37 : decode cX12_mean 37 = .ok (.iload_n 2, 1) := by decide +kernel
theorem dX12_mean_38 : decode cX12_mean 38 = .ok (.invokevirtual 238, 3) := by decide +kernel
theorem dX12_mean_41 : decode cX12_mean 41 = .ok (.aload_n 0, 1) := by decide +kernel
theorem dX12_mean_42 : decode cX12_mean 42 = .ok (.getfield 207, 3) := by decide +kernel
theorem dX12_mean_45 : decode cX12_mean 45 = .ok (.ifCond .ne 10, 3) := by decide +kernel
theorem dX12_mean_48 : decode cX12_mean 48 = .ok (.aload_n 0, 1) := by decide +kernel
theorem dX12_mean_49 : decode cX12_mean 49 = .ok (.invokevirtual 196, 3) := by decide +kernel
theorem dX12_mean_52 : decode cX12_mean 52 = .ok (.goto 11, 3) := by decide +kernel
theorem dX12_mean_55 : decode cX12_mean 55 = .ok (.aload_n 0, 1) := by decide +kernel
theorem dX12_mean_56 : decode cX12_mean 56 = .ok (.iload_n 1, 1) := by decide +kernel
theorem dX12_mean_57 : decode cX12_mean 57 = .ok (.iload_n 2, 1) := by decide +kernel
theorem dX12_mean_58 : decode cX12_mean 58 = .ok (.iconst (-1), 1) := by decide +kernel
theorem dX12_mean_59 : decode cX12_mean 59 = .ok (.iload_n 3, 1) := by decide +kernel
theorem dX12_mean_60 : decode cX12_mean 60 = .ok (.invokevirtual 294, 3) := by decide +kernel
theorem dX12_mean_63 : decode cX12_mean 63 = .ok (.ireturn, 1) := by decide +kernel
theorem dX12_nights_0 : decode cX12_nights 0 = .ok (.iload_n 1, 1) := by decide +kernel
theorem dX12_nights_1 : decode cX12_nights 1 = .ok (.i2l, 1) := by decide +kernel
theorem dX12_nights_2 : decode cX12_nights 2 = .ok (.lconst 0, 1) := by decide +kernel
theorem dX12_nights_3 : decode cX12_nights 3 = .ok (.ldc2_w 297, 3) := by decide +kernel
theorem dX12_nights_6 : decode cX12_nights 6 = .ok (.invokestatic 69, 3) := by decide +kernel
theorem dX12_nights_9 : decode cX12_nights 9 = .ok (.ifCond .eq 15, 3) := by decide +kernel
theorem dX12_nights_12 : decode cX12_nights 12 = .ok (.iload_n 2, 1) := by decide +kernel
theorem dX12_nights_13 : decode cX12_nights 13 = .ok (.i2l, 1) := by decide +kernel
theorem dX12_nights_14 : decode cX12_nights 14 = .ok (.lconst 0, 1) := by decide +kernel
theorem dX12_nights_15 : decode cX12_nights 15 = .ok (.ldc2_w 269, 3) := by decide +kernel
theorem dX12_nights_18 : decode cX12_nights 18 = .ok (.invokestatic 69, 3) := by decide +kernel
theorem dX12_nights_21 : decode cX12_nights 21 = .ok (.ifCond .ne 10, 3) := by decide +kernel
theorem dX12_nights_24 : decode cX12_nights 24 = .ok (.aload_n 0, 1) := by decide +kernel
theorem dX12_nights_25 : decode cX12_nights 25 = .ok (.bipush (-2), 2) := by decide +kernel
theorem dX12_nights_27 : decode cX12_nights 27 = .ok (.invokevirtual 84, 3) := by decide +kernel
theorem dX12_nights_30 : decode cX12_nights 30 = .ok (.ireturn, 1) := by decide +kernel
theorem dX12_nights_31 : decode cX12_nights 31 = .ok (.aload_n 0, 1) := by decide +kernel
theorem dX12_nights_32 : decode cX12_nights 32 = .ok (.getfield 7, 3) := by decide +kernel
theorem dX12_nights_35 : decode cX12_nights 35 = .ok (.bipush 52, 2) := by decide +kernel
theorem dX12_nights_37 : decode cX12_nights 37 = .ok (.aload_n 0, 1) := by decide +kernel
theorem dX12_nights_38 : decode cX12_nights 38 = .ok (.getfield 13, 3) := by decide +kernel
theorem dX12_nights_41 : decode cX12_nights 41 = .ok (.iconst 0, 1) := by decide +kernel
theorem dX12_nights_42 : decode cX12_nights 42 = .ok (.bipush 16, 2) := by decide +kernel
theorem dX12_nights_44 : decode cX12_nights 44 = .ok (.invokestatic 175, 3) := by decide +kernel
theorem dX12_nights_47 : decode cX12_nights 47 = .ok (.iload_n 1, 1) := by decide +kernel
theorem dX12_nights_48 : decode cX12_nights 48 = .ok (.i2l, 1) := by decide +kernel
theorem dX12_nights_49 : decode cX12_nights 49 = .ok (.lstore_n 3, 1) := by decide +kernel
theorem dX12_nights_50 : decode cX12_nights 50 = .ok (.iconst 0, 1) := by decide +kernel
theorem dX12_nights_51 : decode cX12_nights 51 = .ok (.istore 5, 2) := by decide +kernel
theorem dX12_nights_53 : decode cX12_nights 53 = .ok (.iload 5, 2) := by decide +kernel
theorem dX12_nights_55 : decode cX12_nights 55 = .ok (.iload_n 2, 1) := by decide +kernel
theorem dX12_nights_56 : decode cX12_nights 56 = .ok (.if_icmp .ge 147, 3) := by decide +kernel
theorem dX12_nights_59 : decode cX12_nights 59 = .ok (.lload_n 3, 1) := by decide +kernel
theorem dX12_nights_60 : decode cX12_nights 60 = .ok (.ldc2_w 299, 3) := by decide +kernel
theorem dX12_nights_63 : decode cX12_nights 63 = .ok (.lmul, 1) := by decide +kernel
theorem dX12_nights_64 : decode cX12_nights 64 = .ok (.ldc2_w 301, 3) := by decide +kernel
theorem dX12_nights_67 : decode cX12_nights 67 = .ok (.ladd, 1) := by decide +kernel
theorem dX12_nights_68 : decode cX12_nights 68 = .ok (.ldc2_w 303, 3) := by decide +kernel
theorem dX12_nights_71 : decode cX12_nights 71 = .ok (.lrem, 1) := by decide +kernel
theorem dX12_nights_72 : decode cX12_nights 72 = .ok (.lstore_n 3, 1) := by decide +kernel
theorem dX12_nights_73 : decode cX12_nights 73 = .ok (.lload_n 3, 1) := by decide +kernel
theorem dX12_nights_74 : decode cX12_nights 74 = .ok (.ldc2_w 305, 3) := by decide +kernel
theorem dX12_nights_77 : decode cX12_nights 77 = .ok (.ldiv, 1) := by decide +kernel
theorem dX12_nights_78 : decode cX12_nights 78 = .ok (.ldc2_w 307, 3) := by decide +kernel
theorem dX12_nights_81 : decode cX12_nights 81 = .ok (.lrem, 1) := by decide +kernel
theorem dX12_nights_82 : decode cX12_nights 82 = .ok (.l2i, 1) := by decide +kernel
theorem dX12_nights_83 : decode cX12_nights 83 = .ok (.istore 6, 2) := by decide +kernel
theorem dX12_nights_85 : decode cX12_nights 85 = .ok (.lload_n 3, 1) := by decide +kernel
theorem dX12_nights_86 : decode cX12_nights 86 = .ok (.ldc2_w 309, 3) := by decide +kernel
theorem dX12_nights_89 : decode cX12_nights 89 = .ok (.ldiv, 1) := by decide +kernel
theorem dX12_nights_90 : decode cX12_nights 90 = .ok (.ldc2_w 311, 3) := by decide +kernel
theorem dX12_nights_93 : decode cX12_nights 93 = .ok (.lrem, 1) := by decide +kernel
theorem dX12_nights_94 : decode cX12_nights 94 = .ok (.l2i, 1) := by decide +kernel
theorem dX12_nights_95 : decode cX12_nights 95 = .ok (.istore 7, 2) := by decide +kernel
theorem dX12_nights_97 : decode cX12_nights 97 = .ok (.lload_n 3, 1) := by decide +kernel
theorem dX12_nights_98 : decode cX12_nights 98 = .ok (.ldc2_w 313, 3) := by decide +kernel
theorem dX12_nights_101 : decode cX12_nights 101 = .ok (.ldiv, 1) := by decide +kernel
theorem dX12_nights_102 : decode cX12_nights 102 = .ok (.ldc2_w 315, 3) := by decide +kernel
theorem dX12_nights_105 : decode cX12_nights 105 = .ok (.lrem, 1) := by decide +kernel
theorem dX12_nights_106 : decode cX12_nights 106 = .ok (.l2i, 1) := by decide +kernel
theorem dX12_nights_107 : decode cX12_nights 107 = .ok (.istore 8, 2) := by decide +kernel
theorem dX12_nights_109 : decode cX12_nights 109 = .ok (.aload_n 0, 1) := by decide +kernel
theorem dX12_nights_110 : decode cX12_nights 110 = .ok (.iload 6, 2) := by decide +kernel
theorem dX12_nights_112 : decode cX12_nights 112 = .ok (.invokevirtual 190, 3) := by decide +kernel
theorem dX12_nights_115 : decode cX12_nights 115 = .ok (.ifCond .eq 36, 3) := by decide +kernel
theorem dX12_nights_118 : decode cX12_nights 118 = .ok (.aload_n 0, 1) := by decide +kernel
theorem dX12_nights_119 : decode cX12_nights 119 = .ok (.iload 7, 2) := by decide +kernel
theorem dX12_nights_121 : decode cX12_nights 121 = .ok (.invokevirtual 193, 3) := by decide +kernel
theorem dX12_nights_124 : decode cX12_nights 124 = .ok (.ifCond .eq 27, 3) := by decide +kernel
theorem dX12_nights_127 : decode cX12_nights 127 = .ok (.aload_n 0, 1) := by decide +kernel
theorem dX12_nights_128 : decode cX12_nights 128 = .ok (.iload 6, 2) := by decide +kernel
theorem dX12_nights_130 : decode cX12_nights 130 = .ok (.iload 8, 2) := by decide +kernel
theorem dX12_nights_132 : decode cX12_nights 132 = .ok (.invokevirtual 161, 3) := by decide +kernel
theorem dX12_nights_135 : decode cX12_nights 135 = .ok (.ifCond .eq 16, 3) := by decide +kernel
theorem dX12_nights_138 : decode cX12_nights 138 = .ok (.aload_n 0, 1) := by decide +kernel
theorem dX12_nights_139 : decode cX12_nights 139 = .ok (.iload 6, 2) := by decide +kernel
theorem dX12_nights_141 : decode cX12_nights 141 = .ok (.iload 7, 2) := by decide +kernel
theorem dX12_nights_143 : decode cX12_nights 143 = .ok (.iload 8, 2) := by decide +kernel
theorem dX12_nights_145 : decode cX12_nights 145 = .ok (.invokevirtual 165, 3) := by decide +kernel
theorem dX12_nights_148 : decode cX12_nights 148 = .ok (.goto 49, 3) := by decide +kernel
theorem dX12_nights_151 : decode cX12_nights 151 = .ok (.aload_n 0, 1) := by decide +kernel
theorem dX12_nights_152 : decode cX12_nights 152 = .ok (.iload 6, 2) := by decide +kernel
theorem dX12_nights_154 : decode cX12_nights 154 = .ok (.invokevirtual 190, 3) := by decide +kernel
theorem dX12_nights_157 : decode cX12_nights 157 = .ok (.ifCond .eq 40, 3) := by decide +kernel
theorem dX12_nights_160 : decode cX12_nights 160 = .ok (.aload_n 0, 1) := by decide +kernel
theorem dX12_nights_161 : decode cX12_nights 161 = .ok (.getfield 7, 3) := by decide +kernel
theorem dX12_nights_164 : decode cX12_nights 164 = .ok (.bipush 60, 2) := by decide +kernel
theorem dX12_nights_166 : decode cX12_nights 166 = .ok (.iload 6, 2) := by decide +kernel
theorem dX12_nights_168 : decode cX12_nights 168 = .ok (.iadd, 1) := by decide +kernel
theorem dX12_nights_169 : decode cX12_nights 169 = .ok (.iaload, 1) := by decide +kernel
theorem dX12_nights_170 : decode cX12_nights 170 = .ok (.bipush 7, 2) := by decide +kernel
theorem dX12_nights_172 : decode cX12_nights 172 = .ok (.if_icmp .ne 25, 3) := by decide +kernel
theorem dX12_nights_175 : decode cX12_nights 175 = .ok (.aload_n 0, 1) := by decide +kernel
theorem dX12_nights_176 : decode cX12_nights 176 = .ok (.getfield 7, 3) := by decide +kernel
theorem dX12_nights_179 : decode cX12_nights 179 = .ok (.bipush 60, 2) := by decide +kernel
theorem dX12_nights_181 : decode cX12_nights 181 = .ok (.iload 6, 2) := by decide +kernel
theorem dX12_nights_183 : decode cX12_nights 183 = .ok (.iadd, 1) := by decide +kernel
theorem dX12_nights_184 : decode cX12_nights 184 = .ok (.iconst 0, 1) := by decide +kernel
theorem dX12_nights_185 : decode cX12_nights 185 = .ok (.iastore, 1) := by decide +kernel
theorem dX12_nights_186 : decode cX12_nights 186 = .ok (.aload_n 0, 1) := by decide +kernel
theorem dX12_nights_187 : decode cX12_nights 187 = .ok (.getfield 7, 3) := by decide +kernel
theorem dX12_nights_190 : decode cX12_nights 190 = .ok (.bipush 64, 2) := by decide +kernel
theorem dX12_nights_192 : decode cX12_nights 192 = .ok (.iload 6, 2) := by decide +kernel
theorem dX12_nights_194 : decode cX12_nights 194 = .ok (.iadd, 1) := by decide +kernel
theorem dX12_nights_195 : decode cX12_nights 195 = .ok (.iconst 0, 1) := by decide +kernel
theorem dX12_nights_196 : decode cX12_nights 196 = .ok (.iastore, 1) := by decide +kernel
theorem dX12_nights_197 : decode cX12_nights 197 = .ok (.iinc 5 1, 3) := by decide +kernel
theorem dX12_nights_200 : decode cX12_nights 200 = .ok (.goto (-147), 3) := by decide +kernel
theorem dX12_nights_203 : decode cX12_nights 203 = .ok (.iconst 0, 1) := by decide +kernel
theorem dX12_nights_204 : decode cX12_nights 204 = .ok (.istore 5, 2) := by decide +kernel
theorem dX12_nights_206 : decode cX12_nights 206 = .ok (.iconst 0, 1) := by decide +kernel
theorem dX12_nights_207 : decode cX12_nights 207 = .ok (.istore 6, 2) := by decide +kernel
theorem dX12_nights_209 : decode cX12_nights 209 = .ok (.iload 6, 2) := by decide +kernel
theorem dX12_nights_211 : decode cX12_nights 211 = .ok (.aload_n 0, 1) := by decide +kernel
theorem dX12_nights_212 : decode cX12_nights 212 = .ok (.getfield 7, 3) := by decide +kernel
theorem dX12_nights_215 : decode cX12_nights 215 = .ok (.bipush 37, 2) := by decide +kernel
theorem dX12_nights_217 : decode cX12_nights 217 = .ok (.iaload, 1) := by decide +kernel
theorem dX12_nights_218 : decode cX12_nights 218 = .ok (.if_icmp .ge 42, 3) := by decide +kernel
theorem dX12_nights_221 : decode cX12_nights 221 = .ok (.iload 5, 2) := by decide +kernel
theorem dX12_nights_223 : decode cX12_nights 223 = .ok (.aload_n 0, 1) := by decide +kernel
theorem dX12_nights_224 : decode cX12_nights 224 = .ok (.getfield 7, 3) := by decide +kernel
theorem dX12_nights_227 : decode cX12_nights 227 = .ok (.bipush 52, 2) := by decide +kernel
theorem dX12_nights_229 : decode cX12_nights 229 = .ok (.iload 6, 2) := by decide +kernel
theorem dX12_nights_231 : decode cX12_nights 231 = .ok (.iadd, 1) := by decide +kernel
theorem dX12_nights_232 : decode cX12_nights 232 = .ok (.iaload, 1) := by decide +kernel
theorem dX12_nights_233 : decode cX12_nights 233 = .ok (.aload_n 0, 1) := by decide +kernel
theorem dX12_nights_234 : decode cX12_nights 234 = .ok (.getfield 7, 3) := by decide +kernel
theorem dX12_nights_237 : decode cX12_nights 237 = .ok (.bipush 48, 2) := by decide +kernel
theorem dX12_nights_239 : decode cX12_nights 239 = .ok (.iload 6, 2) := by decide +kernel
theorem dX12_nights_241 : decode cX12_nights 241 = .ok (.iadd, 1) := by decide +kernel
theorem dX12_nights_242 : decode cX12_nights 242 = .ok (.iaload, 1) := by decide +kernel
theorem dX12_nights_243 : decode cX12_nights 243 = .ok (.if_icmp .ne 7, 3) := by decide +kernel
theorem dX12_nights_246 : decode cX12_nights 246 = .ok (.iconst 1, 1) := by decide +kernel
theorem dX12_nights_247 : decode cX12_nights 247 = .ok (.goto 4, 3) := by decide +kernel
theorem dX12_nights_250 : decode cX12_nights 250 = .ok (.iconst 0, 1) := by decide +kernel
theorem dX12_nights_251 : decode cX12_nights 251 = .ok (.iadd, 1) := by decide +kernel
theorem dX12_nights_252 : decode cX12_nights 252 = .ok (.istore 5, 2) := by decide +kernel
theorem dX12_nights_254 : decode cX12_nights 254 = .ok (.iinc 6 1, 3) := by decide +kernel
theorem dX12_nights_257 : decode cX12_nights 257 = .ok (.goto (-48), 3) := by decide +kernel
theorem dX12_nights_260 : decode cX12_nights 260 = .ok (.aload_n 0, 1) := by decide +kernel
theorem dX12_nights_261 : decode cX12_nights 261 = .ok (.getfield 13, 3) := by decide +kernel
theorem dX12_nights_264 : decode cX12_nights 264 = .ok (.iconst 0, 1) := by decide +kernel
theorem dX12_nights_265 : decode cX12_nights 265 = .ok (.aload_n 0, 1) := by decide +kernel
theorem dX12_nights_266 : decode cX12_nights 266 = .ok (.getfield 7, 3) := by decide +kernel
theorem dX12_nights_269 : decode cX12_nights 269 = .ok (.bipush 52, 2) := by decide +kernel
theorem dX12_nights_271 : decode cX12_nights 271 = .ok (.bipush 16, 2) := by decide +kernel
theorem dX12_nights_273 : decode cX12_nights 273 = .ok (.invokestatic 175, 3) := by decide +kernel
theorem dX12_nights_276 : decode cX12_nights 276 = .ok (.iload 5, 2) := by decide +kernel
theorem dX12_nights_278 : decode cX12_nights 278 = .ok (.ireturn, 1) := by decide +kernel
theorem dX12_part_0 : decode cX12_part 0 = .ok (.iload_n 1, 1) := by decide +kernel
theorem dX12_part_1 : decode cX12_part 1 = .ok (.ifCond .ne 10, 3) := by decide +kernel
theorem dX12_part_4 : decode cX12_part 4 = .ok (.aload_n 0, 1) := by decide +kernel
theorem dX12_part_5 : decode cX12_part 5 = .ok (.getfield 285, 3) := by decide +kernel
theorem dX12_part_8 : decode cX12_part 8 = .ok (.goto 22, 3) := by decide +kernel
theorem dX12_part_11 : decode cX12_part 11 = .ok (.iload_n 1, 1) := by decide +kernel
theorem dX12_part_12 : decode cX12_part 12 = .ok (.iconst 1, 1) := by decide +kernel
theorem dX12_part_13 : decode cX12_part 13 = .ok (.if_icmp .ne 10, 3) := by decide +kernel
theorem dX12_part_16 : decode cX12_part 16 = .ok (.aload_n 0, 1) := by decide +kernel
theorem dX12_part_17 : decode cX12_part 17 = .ok (.getfield 26, 3) := by decide +kernel
theorem dX12_part_20 : decode cX12_part 20 = .ok (.goto 10, 3) := by decide +kernel
theorem dX12_part_23 : decode cX12_part 23 = .ok (.aload_n 0, 1) := by decide +kernel
theorem dX12_part_24 : decode cX12_part 24 = .ok (.bipush (-2), 2) := by decide +kernel
theorem dX12_part_26 : decode cX12_part 26 = .ok (.invokevirtual 84, 3) := by decide +kernel
theorem dX12_part_29 : decode cX12_part 29 = .ok (.i2l, 1) := by decide +kernel
theorem dX12_part_30 : decode cX12_part 30 = .ok (.lreturn, 1) := by decide +kernel
theorem dX12_image_0 : decode cX12_image 0 = .ok (.iload_n 1, 1) := by decide +kernel
theorem dX12_image_1 : decode cX12_image 1 = .ok (.i2l, 1) := by decide +kernel
theorem dX12_image_2 : decode cX12_image 2 = .ok (.lconst 0, 1) := by decide +kernel
theorem dX12_image_3 : decode cX12_image 3 = .ok (.lconst 1, 1) := by decide +kernel
theorem dX12_image_4 : decode cX12_image 4 = .ok (.invokestatic 69, 3) := by decide +kernel
theorem dX12_image_7 : decode cX12_image 7 = .ok (.ifCond .ne 10, 3) := by decide +kernel
theorem dX12_image_10 : decode cX12_image 10 = .ok (.aload_n 0, 1) := by decide +kernel
theorem dX12_image_11 : decode cX12_image 11 = .ok (.bipush (-2), 2) := by decide +kernel
theorem dX12_image_13 : decode cX12_image 13 = .ok (.invokevirtual 84, 3) := by decide +kernel
theorem dX12_image_16 : decode cX12_image 16 = .ok (.ireturn, 1) := by decide +kernel
theorem dX12_image_17 : decode cX12_image 17 = .ok (.aload_n 0, 1) := by decide +kernel
theorem dX12_image_18 : decode cX12_image 18 = .ok (.getfield 7, 3) := by decide +kernel
theorem dX12_image_21 : decode cX12_image 21 = .ok (.iconst 0, 1) := by decide +kernel
theorem dX12_image_22 : decode cX12_image 22 = .ok (.aload_n 0, 1) := by decide +kernel
theorem dX12_image_23 : decode cX12_image 23 = .ok (.getfield 16, 3) := by decide +kernel
theorem dX12_image_26 : decode cX12_image 26 = .ok (.sipush 286, 3) := by decide +kernel
theorem dX12_image_29 : decode cX12_image 29 = .ok (.iload_n 1, 1) := by decide +kernel
theorem dX12_image_30 : decode cX12_image 30 = .ok (.imul, 1) := by decide +kernel
theorem dX12_image_31 : decode cX12_image 31 = .ok (.sipush 286, 3) := by decide +kernel
theorem dX12_image_34 : decode cX12_image 34 = .ok (.invokestatic 175, 3) := by decide +kernel
theorem dX12_image_37 : decode cX12_image 37 = .ok (.aload_n 0, 1) := by decide +kernel
theorem dX12_image_38 : decode cX12_image 38 = .ok (.getfield 19, 3) := by decide +kernel
theorem dX12_image_41 : decode cX12_image 41 = .ok (.iload_n 1, 1) := by decide +kernel
theorem dX12_image_42 : decode cX12_image 42 = .ok (.iconst 1, 1) := by decide +kernel
theorem dX12_image_43 : decode cX12_image 43 = .ok (.bastore, 1) := by decide +kernel
theorem dX12_image_44 : decode cX12_image 44 = .ok (.iconst 1, 1) := by decide +kernel
theorem dX12_image_45 : decode cX12_image 45 = .ok (.ireturn, 1) := by decide +kernel
theorem dX12_from_0 : decode cX12_from 0 = .ok (.iload_n 1, 1) := by decide +kernel
theorem dX12_from_1 : decode cX12_from 1 = .ok (.i2l, 1) := by decide +kernel
theorem dX12_from_2 : decode cX12_from 2 = .ok (.lconst 0, 1) := by decide +kernel
theorem dX12_from_3 : decode cX12_from 3 = .ok (.lconst 1, 1) := by decide +kernel
theorem dX12_from_4 : decode cX12_from 4 = .ok (.invokestatic 69, 3) := by decide +kernel
theorem dX12_from_7 : decode cX12_from 7 = .ok (.ifCond .ne 10, 3) := by decide +kernel
theorem dX12_from_10 : decode cX12_from 10 = .ok (.aload_n 0, 1) := by decide +kernel
theorem dX12_from_11 : decode cX12_from 11 = .ok (.bipush (-2), 2) := by decide +kernel
theorem dX12_from_13 : decode cX12_from 13 = .ok (.invokevirtual 84, 3) := by decide +kernel
theorem dX12_from_16 : decode cX12_from 16 = .ok (.ireturn, 1) := by decide +kernel
theorem dX12_from_17 : decode cX12_from 17 = .ok (.aload_n 0, 1) := by decide +kernel
theorem dX12_from_18 : decode cX12_from 18 = .ok (.getfield 19, 3) := by decide +kernel
theorem dX12_from_21 : decode cX12_from 21 = .ok (.iload_n 1, 1) := by decide +kernel
theorem dX12_from_22 : decode cX12_from 22 = .ok (.baload, 1) := by decide +kernel
theorem dX12_from_23 : decode cX12_from 23 = .ok (.ifCond .ne 8, 3) := by decide +kernel
theorem dX12_from_26 : decode cX12_from 26 = .ok (.aload_n 0, 1) := by decide +kernel
theorem dX12_from_27 : decode cX12_from 27 = .ok (.invokevirtual 196, 3) := by decide +kernel
theorem dX12_from_30 : decode cX12_from 30 = .ok (.ireturn, 1) := by decide +kernel
theorem dX12_from_31 : decode cX12_from 31 = .ok (.aload_n 0, 1) := by decide +kernel
theorem dX12_from_32 : decode cX12_from 32 = .ok (.getfield 16, 3) := by decide +kernel
theorem dX12_from_35 : decode cX12_from 35 = .ok (.sipush 286, 3) := by decide +kernel
theorem dX12_from_38 : decode cX12_from 38 = .ok (.iload_n 1, 1) := by decide +kernel
theorem dX12_from_39 : decode cX12_from 39 = .ok (.imul, 1) := by decide +kernel
theorem dX12_from_40 : decode cX12_from 40 = .ok (.aload_n 0, 1) := by decide +kernel
theorem dX12_from_41 : decode cX12_from 41 = .ok (.getfield 7, 3) := by decide +kernel
theorem dX12_from_44 : decode cX12_from 44 = .ok (.iconst 0, 1) := by decide +kernel
theorem dX12_from_45 : decode cX12_from 45 = .ok (.sipush 286, 3) := by decide +kernel
theorem dX12_from_48 : decode cX12_from 48 = .ok (.invokestatic 175, 3) := by decide +kernel
theorem dX12_from_51 : decode cX12_from 51 = .ok (.iconst 1, 1) := by decide +kernel
theorem dX12_from_52 : decode cX12_from 52 = .ok (.ireturn, 1) := by decide +kernel
theorem dX12_status_0 : decode cX12_status 0 = .ok (.iload_n 1, 1) := by decide +kernel
theorem dX12_status_1 : decode cX12_status 1 = .ok (.i2l, 1) := by decide +kernel
theorem dX12_status_2 : decode cX12_status 2 = .ok (.lconst 0, 1) := by decide +kernel
theorem dX12_status_3 : decode cX12_status 3 = .ok (.ldc2_w 202, 3) := by decide +kernel
theorem dX12_status_6 : decode cX12_status 6 = .ok (.invokestatic 69, 3) := by decide +kernel
theorem dX12_status_9 : decode cX12_status 9 = .ok (.ifCond .eq 12, 3) := by decide +kernel
theorem dX12_status_12 : decode cX12_status 12 = .ok (.aload_n 0, 1) := by decide +kernel
theorem dX12_status_13 : decode cX12_status 13 = .ok (.getfield 30, 3) := by decide +kernel
theorem dX12_status_16 : decode cX12_status 16 = .ok (.iload_n 1, 1) := by decide +kernel
theorem dX12_status_17 : decode cX12_status 17 = .ok (.iaload, 1) := by decide +kernel
theorem dX12_status_18 : decode cX12_status 18 = .ok (.goto 8, 3) := by decide +kernel
theorem dX12_status_21 : decode cX12_status 21 = .ok (.aload_n 0, 1) := by decide +kernel
theorem dX12_status_22 : decode cX12_status 22 = .ok (.iconst (-1), 1) := by decide +kernel
theorem dX12_status_23 : decode cX12_status 23 = .ok (.invokevirtual 84, 3) := by decide +kernel
theorem dX12_status_26 : decode cX12_status 26 = .ok (.ireturn, 1) := by decide +kernel
theorem dX12_sum_0 : decode cX12_sum 0 = .ok (.iconst 0, 1) := by decide +kernel
theorem dX12_sum_1 : decode cX12_sum 1 = .ok (.istore_n 3, 1) := by decide +kernel
theorem dX12_sum_2 : decode cX12_sum 2 = .ok (.iconst 0, 1) := by decide +kernel
theorem dX12_sum_3 : decode cX12_sum 3 = .ok (.istore 4, 2) := by decide +kernel
theorem dX12_sum_5 : decode cX12_sum 5 = .ok (.iload 4, 2) := by decide +kernel
theorem dX12_sum_7 : decode cX12_sum 7 = .ok (.iload_n 2, 1) := by decide +kernel
theorem dX12_sum_8 : decode cX12_sum 8 = .ok (.if_icmp .ge 21, 3) := by decide +kernel
theorem dX12_sum_11 : decode cX12_sum 11 = .ok (.iload_n 3, 1) := by decide +kernel
theorem dX12_sum_12 : decode cX12_sum 12 = .ok (.aload_n 0, 1) := by decide +kernel
theorem dX12_sum_13 : decode cX12_sum 13 = .ok (.getfield 7, 3) := by decide +kernel
theorem dX12_sum_16 : decode cX12_sum 16 = .ok (.iload_n 1, 1) := by decide +kernel
theorem dX12_sum_17 : decode cX12_sum 17 = .ok (.iload 4, 2) := by decide +kernel
theorem dX12_sum_19 : decode cX12_sum 19 = .ok (.iadd, 1) := by decide +kernel
theorem dX12_sum_20 : decode cX12_sum 20 = .ok (.iaload, 1) := by decide +kernel
theorem dX12_sum_21 : decode cX12_sum 21 = .ok (.iadd, 1) := by decide +kernel
theorem dX12_sum_22 : decode cX12_sum 22 = .ok (.istore_n 3, 1) := by decide +kernel
theorem dX12_sum_23 : decode cX12_sum 23 = .ok (.iinc 4 1, 3) := by decide +kernel
theorem dX12_sum_26 : decode cX12_sum 26 = .ok (.goto (-21), 3) := by decide +kernel
theorem dX12_sum_29 : decode cX12_sum 29 = .ok (.iload_n 3, 1) := by decide +kernel
theorem dX12_sum_30 : decode cX12_sum 30 = .ok (.ireturn, 1) := by decide +kernel
theorem dX12_counted_0 : decode cX12_counted 0 = .ok (.iconst 0, 1) := by decide +kernel
theorem dX12_counted_1 : decode cX12_counted 1 = .ok (.istore_n 2, 1) := by decide +kernel
theorem dX12_counted_2 : decode cX12_counted 2 = .ok (.iload_n 1, 1) := by decide +kernel
theorem dX12_counted_3 : decode cX12_counted 3 = .ok (.tableswitch 218 0 9 #[53, 89, 97, 105, 157, 171, 185, 193, 201, 209], 53) := by decide +kernel
theorem dX12_counted_56 : decode cX12_counted 56 = .ok (.iconst 0, 1) := by decide +kernel
theorem dX12_counted_57 : decode cX12_counted 57 = .ok (.istore_n 3, 1) := by decide +kernel
theorem dX12_counted_58 : decode cX12_counted 58 = .ok (.iload_n 3, 1) := by decide +kernel
theorem dX12_counted_59 : decode cX12_counted 59 = .ok (.bipush 28, 2) := by decide +kernel
theorem dX12_counted_61 : decode cX12_counted 61 = .ok (.if_icmp .ge 29, 3) := by decide +kernel
theorem dX12_counted_64 : decode cX12_counted 64 = .ok (.iload_n 2, 1) := by decide +kernel
theorem dX12_counted_65 : decode cX12_counted 65 = .ok (.aload_n 0, 1) := by decide +kernel
theorem dX12_counted_66 : decode cX12_counted 66 = .ok (.getfield 7, 3) := by decide +kernel
theorem dX12_counted_69 : decode cX12_counted 69 = .ok (.bipush 8, 2) := by decide +kernel
theorem dX12_counted_71 : decode cX12_counted 71 = .ok (.iload_n 3, 1) := by decide +kernel
theorem dX12_counted_72 : decode cX12_counted 72 = .ok (.iadd, 1) := by decide +kernel
theorem dX12_counted_73 : decode cX12_counted 73 = .ok (.iaload, 1) := by decide +kernel
theorem dX12_counted_74 : decode cX12_counted 74 = .ok (.ifCond .le 7, 3) := by decide +kernel
theorem dX12_counted_77 : decode cX12_counted 77 = .ok (.iconst 1, 1) := by decide +kernel
theorem dX12_counted_78 : decode cX12_counted 78 = .ok (.goto 4, 3) := by decide +kernel
theorem dX12_counted_81 : decode cX12_counted 81 = .ok (.iconst 0, 1) := by decide +kernel
theorem dX12_counted_82 : decode cX12_counted 82 = .ok (.iadd, 1) := by decide +kernel
theorem dX12_counted_83 : decode cX12_counted 83 = .ok (.istore_n 2, 1) := by decide +kernel
theorem dX12_counted_84 : decode cX12_counted 84 = .ok (.iinc 3 1, 3) := by decide +kernel
theorem dX12_counted_87 : decode cX12_counted 87 = .ok (.goto (-29), 3) := by decide +kernel
theorem dX12_counted_90 : decode cX12_counted 90 = .ok (.iload_n 2, 1) := by decide +kernel
theorem dX12_counted_91 : decode cX12_counted 91 = .ok (.ireturn, 1) := by decide +kernel
theorem dX12_counted_92 : decode cX12_counted 92 = .ok (.aload_n 0, 1) := by decide +kernel
theorem dX12_counted_93 : decode cX12_counted 93 = .ok (.getfield 7, 3) := by decide +kernel
theorem dX12_counted_96 : decode cX12_counted 96 = .ok (.bipush 36, 2) := by decide +kernel
theorem dX12_counted_98 : decode cX12_counted 98 = .ok (.iaload, 1) := by decide +kernel
theorem dX12_counted_99 : decode cX12_counted 99 = .ok (.ireturn, 1) := by decide +kernel
theorem dX12_counted_100 : decode cX12_counted 100 = .ok (.aload_n 0, 1) := by decide +kernel
theorem dX12_counted_101 : decode cX12_counted 101 = .ok (.getfield 7, 3) := by decide +kernel
theorem dX12_counted_104 : decode cX12_counted 104 = .ok (.bipush 37, 2) := by decide +kernel
theorem dX12_counted_106 : decode cX12_counted 106 = .ok (.iaload, 1) := by decide +kernel
theorem dX12_counted_107 : decode cX12_counted 107 = .ok (.ireturn, 1) := by decide +kernel
theorem dX12_counted_108 : decode cX12_counted 108 = .ok (.iconst 0, 1) := by decide +kernel
theorem dX12_counted_109 : decode cX12_counted 109 = .ok (.istore_n 3, 1) := by decide +kernel
theorem dX12_counted_110 : decode cX12_counted 110 = .ok (.iload_n 3, 1) := by decide +kernel
theorem dX12_counted_111 : decode cX12_counted 111 = .ok (.aload_n 0, 1) := by decide +kernel
theorem dX12_counted_112 : decode cX12_counted 112 = .ok (.getfield 7, 3) := by decide +kernel
theorem dX12_counted_115 : decode cX12_counted 115 = .ok (.bipush 37, 2) := by decide +kernel
theorem dX12_counted_117 : decode cX12_counted 117 = .ok (.iaload, 1) := by decide +kernel
theorem dX12_counted_118 : decode cX12_counted 118 = .ok (.if_icmp .ge 40, 3) := by decide +kernel
theorem dX12_counted_121 : decode cX12_counted 121 = .ok (.iload_n 2, 1) := by decide +kernel
theorem dX12_counted_122 : decode cX12_counted 122 = .ok (.aload_n 0, 1) := by decide +kernel
theorem dX12_counted_123 : decode cX12_counted 123 = .ok (.getfield 7, 3) := by decide +kernel
theorem dX12_counted_126 : decode cX12_counted 126 = .ok (.bipush 52, 2) := by decide +kernel
theorem dX12_counted_128 : decode cX12_counted 128 = .ok (.iload_n 3, 1) := by decide +kernel
theorem dX12_counted_129 : decode cX12_counted 129 = .ok (.iadd, 1) := by decide +kernel
theorem dX12_counted_130 : decode cX12_counted 130 = .ok (.iaload, 1) := by decide +kernel
theorem dX12_counted_131 : decode cX12_counted 131 = .ok (.aload_n 0, 1) := by decide +kernel
theorem dX12_counted_132 : decode cX12_counted 132 = .ok (.getfield 7, 3) := by decide +kernel
theorem dX12_counted_135 : decode cX12_counted 135 = .ok (.bipush 48, 2) := by decide +kernel
theorem dX12_counted_137 : decode cX12_counted 137 = .ok (.iload_n 3, 1) := by decide +kernel
theorem dX12_counted_138 : decode cX12_counted 138 = .ok (.iadd, 1) := by decide +kernel
theorem dX12_counted_139 : decode cX12_counted 139 = .ok (.iaload, 1) := by decide +kernel
theorem dX12_counted_140 : decode cX12_counted 140 = .ok (.if_icmp .ne 9, 3) := by decide +kernel
theorem dX12_counted_143 : decode cX12_counted 143 = .ok (.iconst 1, 1) := by decide +kernel
theorem dX12_counted_144 : decode cX12_counted 144 = .ok (.iload_n 3, 1) := by decide +kernel
theorem dX12_counted_145 : decode cX12_counted 145 = .ok (.ishl, 1) := by decide +kernel
theorem dX12_counted_146 : decode cX12_counted 146 = .ok (.goto 4, 3) := by decide +kernel
theorem dX12_counted_149 : decode cX12_counted 149 = .ok (.iconst 0, 1) := by decide +kernel
theorem dX12_counted_150 : decode cX12_counted 150 = .ok (.ior, 1) := by decide +kernel
theorem dX12_counted_151 : decode cX12_counted 151 = .ok (.istore_n 2, 1) := by decide +kernel
theorem dX12_counted_152 : decode cX12_counted 152 = .ok (.iinc 3 1, 3) := by decide +kernel
theorem dX12_counted_155 : decode cX12_counted 155 = .ok (.goto (-45), 3) := by decide +kernel
theorem dX12_counted_158 : decode cX12_counted 158 = .ok (.iload_n 2, 1) := by decide +kernel
theorem dX12_counted_159 : decode cX12_counted 159 = .ok (.ireturn, 1) := by decide +kernel
theorem dX12_counted_160 : decode cX12_counted 160 = .ok (.aload_n 0, 1) := by decide +kernel
theorem dX12_counted_161 : decode cX12_counted 161 = .ok (.bipush 52, 2) := by decide +kernel
theorem dX12_counted_163 : decode cX12_counted 163 = .ok (.aload_n 0, 1) := by decide +kernel
theorem dX12_counted_164 : decode cX12_counted 164 = .ok (.getfield 7, 3) := by decide +kernel
theorem dX12_counted_167 : decode cX12_counted 167 = .ok (.bipush 37, 2) := by decide +kernel
theorem dX12_counted_169 : decode cX12_counted 169 = .ok (.iaload, 1) := by decide +kernel
theorem dX12_counted_170 : decode cX12_counted 170 = .ok (.invokevirtual 317, 3) := by decide +kernel
theorem dX12_counted_173 : decode cX12_counted 173 = .ok (.ireturn, 1) := by decide +kernel
theorem dX12_counted_174 : decode cX12_counted 174 = .ok (.aload_n 0, 1) := by decide +kernel
theorem dX12_counted_175 : decode cX12_counted 175 = .ok (.bipush 56, 2) := by decide +kernel
theorem dX12_counted_177 : decode cX12_counted 177 = .ok (.aload_n 0, 1) := by decide +kernel
theorem dX12_counted_178 : decode cX12_counted 178 = .ok (.getfield 7, 3) := by decide +kernel
theorem dX12_counted_181 : decode cX12_counted 181 = .ok (.bipush 37, 2) := by decide +kernel
theorem dX12_counted_183 : decode cX12_counted 183 = .ok (.iaload, 1) := by decide +kernel
theorem dX12_counted_184 : decode cX12_counted 184 = .ok (.invokevirtual 317, 3) := by decide +kernel
theorem dX12_counted_187 : decode cX12_counted 187 = .ok (.ireturn, 1) := by decide +kernel
theorem dX12_counted_188 : decode cX12_counted 188 = .ok (.aload_n 0, 1) := by decide +kernel
theorem dX12_counted_189 : decode cX12_counted 189 = .ok (.getfield 7, 3) := by decide +kernel
theorem dX12_counted_192 : decode cX12_counted 192 = .ok (.bipush 68, 2) := by decide +kernel
theorem dX12_counted_194 : decode cX12_counted 194 = .ok (.iaload, 1) := by decide +kernel
theorem dX12_counted_195 : decode cX12_counted 195 = .ok (.ireturn, 1) := by decide +kernel
theorem dX12_counted_196 : decode cX12_counted 196 = .ok (.aload_n 0, 1) := by decide +kernel
theorem dX12_counted_197 : decode cX12_counted 197 = .ok (.getfield 7, 3) := by decide +kernel
theorem dX12_counted_200 : decode cX12_counted 200 = .ok (.bipush 89, 2) := by decide +kernel
theorem dX12_counted_202 : decode cX12_counted 202 = .ok (.iaload, 1) := by decide +kernel
theorem dX12_counted_203 : decode cX12_counted 203 = .ok (.ireturn, 1) := by decide +kernel
theorem dX12_counted_204 : decode cX12_counted 204 = .ok (.aload_n 0, 1) := by decide +kernel
theorem dX12_counted_205 : decode cX12_counted 205 = .ok (.getfield 7, 3) := by decide +kernel
theorem dX12_counted_208 : decode cX12_counted 208 = .ok (.bipush 126, 2) := by decide +kernel
theorem dX12_counted_210 : decode cX12_counted 210 = .ok (.iaload, 1) := by decide +kernel
theorem dX12_counted_211 : decode cX12_counted 211 = .ok (.ireturn, 1) := by decide +kernel
theorem dX12_counted_212 : decode cX12_counted 212 = .ok (.aload_n 0, 1) := by decide +kernel
theorem dX12_counted_213 : decode cX12_counted 213 = .ok (.getfield 7, 3) := by decide +kernel
theorem dX12_counted_216 : decode cX12_counted 216 = .ok (.sipush 157, 3) := by decide +kernel
theorem dX12_counted_219 : decode cX12_counted 219 = .ok (.iaload, 1) := by decide +kernel
theorem dX12_counted_220 : decode cX12_counted 220 = .ok (.ireturn, 1) := by decide +kernel
theorem dX12_counted_221 : decode cX12_counted 221 = .ok (.aload_n 0, 1) := by decide +kernel
theorem dX12_counted_222 : decode cX12_counted 222 = .ok (.getfield 116, 3) := by decide +kernel
theorem dX12_counted_225 : decode cX12_counted 225 = .ok (.ireturn, 1) := by decide +kernel
theorem dX12_count_0 : decode cX12_count 0 = .ok (.iload_n 1, 1) := by decide +kernel
theorem dX12_count_1 : decode cX12_count 1 = .ok (.i2l, 1) := by decide +kernel
theorem dX12_count_2 : decode cX12_count 2 = .ok (.lconst 0, 1) := by decide +kernel
theorem dX12_count_3 : decode cX12_count 3 = .ok (.ldc2_w 288, 3) := by decide +kernel
theorem dX12_count_6 : decode cX12_count 6 = .ok (.invokestatic 69, 3) := by decide +kernel
theorem dX12_count_9 : decode cX12_count 9 = .ok (.ifCond .eq 11, 3) := by decide +kernel
theorem dX12_count_12 : decode cX12_count 12 = .ok (.aload_n 0, 1) := by decide +kernel
theorem dX12_count_13 : decode cX12_count 13 = .ok (.iload_n 1, 1) := by decide +kernel
theorem dX12_count_14 : decode cX12_count 14 = .ok (.invokevirtual 320, 3) := by decide +kernel
theorem dX12_count_17 : decode cX12_count 17 = .ok (.goto 9, 3) := by decide +kernel
theorem dX12_count_20 : decode cX12_count 20 = .ok (.aload_n 0, 1) := by decide +kernel
theorem dX12_count_21 : decode cX12_count 21 = .ok (.bipush (-2), 2) := by decide +kernel
theorem dX12_count_23 : decode cX12_count 23 = .ok (.invokevirtual 84, 3) := by decide +kernel
theorem dX12_count_26 : decode cX12_count 26 = .ok (.ireturn, 1) := by decide +kernel
theorem dX12_adds_0 : decode cX12_adds 0 = .ok (.lload_n 1, 1) := by decide +kernel
theorem dX12_adds_1 : decode cX12_adds 1 = .ok (.lstore 5, 2) := by decide +kernel
theorem dX12_adds_3 : decode cX12_adds 3 = .ok (.iconst 0, 1) := by decide +kernel
theorem dX12_adds_4 : decode cX12_adds 4 = .ok (.istore 7, 2) := by decide +kernel
theorem dX12_adds_6 : decode cX12_adds 6 = .ok (.iload 7, 2) := by decide +kernel
theorem dX12_adds_8 : decode cX12_adds 8 = .ok (.iload 4, 2) := by decide +kernel
theorem dX12_adds_10 : decode cX12_adds 10 = .ok (.if_icmp .ge 28, 3) := by decide +kernel
theorem dX12_adds_13 : decode cX12_adds 13 = .ok (.ldc2_w 323, 3) := by decide +kernel
theorem dX12_adds_16 : decode cX12_adds 16 = .ok (.lload 5, 2) := by decide +kernel
theorem dX12_adds_18 : decode cX12_adds 18 = .ok (.lmul, 1) := by decide +kernel
theorem dX12_adds_19 : decode cX12_adds 19 = .ok (.aload_n 0, 1) := by decide +kernel
theorem dX12_adds_20 : decode cX12_adds 20 = .ok (.getfield 7, 3) := by decide +kernel
theorem dX12_adds_23 : decode cX12_adds 23 = .ok (.iload_n 3, 1) := by decide +kernel
theorem dX12_adds_24 : decode cX12_adds 24 = .ok (.iload 7, 2) := by decide +kernel
theorem dX12_adds_26 : decode cX12_adds 26 = .ok (.iadd, 1) := by decide +kernel
theorem dX12_adds_27 : decode cX12_adds 27 = .ok (.iaload, 1) := by decide +kernel
theorem dX12_adds_28 : decode cX12_adds 28 = .ok (.i2l, 1) := by decide +kernel
theorem dX12_adds_29 : decode cX12_adds 29 = .ok (.ladd, 1) := by decide +kernel
theorem dX12_adds_30 : decode cX12_adds 30 = .ok (.lstore 5, 2) := by decide +kernel
theorem dX12_adds_32 : decode cX12_adds 32 = .ok (.iinc 7 1, 3) := by decide +kernel
theorem dX12_adds_35 : decode cX12_adds 35 = .ok (.goto (-29), 3) := by decide +kernel
theorem dX12_adds_38 : decode cX12_adds 38 = .ok (.lload 5, 2) := by decide +kernel
theorem dX12_adds_40 : decode cX12_adds 40 = .ok (.lreturn, 1) := by decide +kernel
theorem dX12_digest_0 : decode cX12_digest 0 = .ok (.ldc2_w 325, 3) := by decide +kernel
theorem dX12_digest_3 : decode cX12_digest 3 = .ok (.lstore_n 1, 1) := by decide +kernel
theorem dX12_digest_4 : decode cX12_digest 4 = .ok (.iconst 0, 1) := by decide +kernel
theorem dX12_digest_5 : decode cX12_digest 5 = .ok (.istore_n 3, 1) := by decide +kernel
theorem dX12_digest_6 : decode cX12_digest 6 = .ok (.iload_n 3, 1) := by decide +kernel
theorem dX12_digest_7 : decode cX12_digest 7 = .ok (.bipush 11, 2) := by decide +kernel
theorem dX12_digest_9 : decode cX12_digest 9 = .ok (.if_icmp .ge 22, 3) := by decide +kernel
theorem dX12_digest_12 : decode cX12_digest 12 = .ok (.ldc2_w 323, 3) := by decide +kernel
theorem dX12_digest_15 : decode cX12_digest 15 = .ok (.lload_n 1, 1) := by decide +kernel
theorem dX12_digest_16 : decode cX12_digest 16 = .ok (.lmul, 1) := by decide +kernel
theorem dX12_digest_17 : decode cX12_digest 17 = .ok (.aload_n 0, 1) := by decide +kernel
theorem dX12_digest_18 : decode cX12_digest 18 = .ok (.iload_n 3, 1) := by decide +kernel
theorem dX12_digest_19 : decode cX12_digest 19 = .ok (.invokevirtual 320, 3) := by decide +kernel
theorem dX12_digest_22 : decode cX12_digest 22 = .ok (.i2l, 1) := by decide +kernel
theorem dX12_digest_23 : decode cX12_digest 23 = .ok (.ladd, 1) := by decide +kernel
theorem dX12_digest_24 : decode cX12_digest 24 = .ok (.lstore_n 1, 1) := by decide +kernel
theorem dX12_digest_25 : decode cX12_digest 25 = .ok (.iinc 3 1, 3) := by decide +kernel
theorem dX12_digest_28 : decode cX12_digest 28 = .ok (.goto (-22), 3) := by decide +kernel
theorem dX12_digest_31 : decode cX12_digest 31 = .ok (.aload_n 0, 1) := by decide +kernel
theorem dX12_digest_32 : decode cX12_digest 32 = .ok (.lload_n 1, 1) := by decide +kernel
theorem dX12_digest_33 : decode cX12_digest 33 = .ok (.iconst 0, 1) := by decide +kernel
theorem dX12_digest_34 : decode cX12_digest 34 = .ok (.bipush 8, 2) := by decide +kernel
theorem dX12_digest_36 : decode cX12_digest 36 = .ok (.invokevirtual 327, 3) := by decide +kernel
theorem dX12_digest_39 : decode cX12_digest 39 = .ok (.lstore_n 1, 1) := by decide +kernel
theorem dX12_digest_40 : decode cX12_digest 40 = .ok (.aload_n 0, 1) := by decide +kernel
theorem dX12_digest_41 : decode cX12_digest 41 = .ok (.lload_n 1, 1) := by decide +kernel
theorem dX12_digest_42 : decode cX12_digest 42 = .ok (.bipush 8, 2) := by decide +kernel
theorem dX12_digest_44 : decode cX12_digest 44 = .ok (.bipush 28, 2) := by decide +kernel
theorem dX12_digest_46 : decode cX12_digest 46 = .ok (.invokevirtual 327, 3) := by decide +kernel
theorem dX12_digest_49 : decode cX12_digest 49 = .ok (.lstore_n 1, 1) := by decide +kernel
theorem dX12_digest_50 : decode cX12_digest 50 = .ok (.iconst 0, 1) := by decide +kernel
theorem dX12_digest_51 : decode cX12_digest 51 = .ok (.istore_n 3, 1) := by decide +kernel
theorem dX12_digest_52 : decode cX12_digest 52 = .ok (.iload_n 3, 1) := by decide +kernel
theorem dX12_digest_53 : decode cX12_digest 53 = .ok (.aload_n 0, 1) := by decide +kernel
theorem dX12_digest_54 : decode cX12_digest 54 = .ok (.getfield 7, 3) := by decide +kernel
theorem dX12_digest_57 : decode cX12_digest 57 = .ok (.bipush 36, 2) := by decide +kernel
theorem dX12_digest_59 : decode cX12_digest 59 = .ok (.iaload, 1) := by decide +kernel
theorem dX12_digest_60 : decode cX12_digest 60 = .ok (.if_icmp .ge 41, 3) := by decide +kernel
theorem dX12_digest_63 : decode cX12_digest 63 = .ok (.ldc2_w 323, 3) := by decide +kernel
theorem dX12_digest_66 : decode cX12_digest 66 = .ok (.ldc2_w 323, 3) := by decide +kernel
theorem dX12_digest_69 : decode cX12_digest 69 = .ok (.lload_n 1, 1) := by decide +kernel
theorem dX12_digest_70 : decode cX12_digest 70 = .ok (.lmul, 1) := by decide +kernel
theorem dX12_digest_71 : decode cX12_digest 71 = .ok (.aload_n 0, 1) := by decide +kernel
theorem dX12_digest_72 : decode cX12_digest 72 = .ok (.getfield 7, 3) := by decide +kernel
theorem dX12_digest_75 : decode cX12_digest 75 = .ok (.bipush 38, 2) := by decide +kernel
theorem dX12_digest_77 : decode cX12_digest 77 = .ok (.iload_n 3, 1) := by decide +kernel
theorem dX12_digest_78 : decode cX12_digest 78 = .ok (.iadd, 1) := by decide +kernel
theorem dX12_digest_79 : decode cX12_digest 79 = .ok (.iaload, 1) := by decide +kernel
theorem dX12_digest_80 : decode cX12_digest 80 = .ok (.i2l, 1) := by decide +kernel
theorem dX12_digest_81 : decode cX12_digest 81 = .ok (.ladd, 1) := by decide +kernel
theorem dX12_digest_82 : decode cX12_digest 82 = .ok (.lmul, 1) := by decide +kernel
theorem dX12_digest_83 : decode cX12_digest 83 = .ok (.aload_n 0, 1) := by decide +kernel
theorem dX12_digest_84 : decode cX12_digest 84 = .ok (.getfield 7, 3) := by decide +kernel
theorem dX12_digest_87 : decode cX12_digest 87 = .ok (.bipush 41, 2) := by decide +kernel
theorem dX12_digest_89 : decode cX12_digest 89 = .ok (.iload_n 3, 1) := by decide +kernel
theorem dX12_digest_90 : decode cX12_digest 90 = .ok (.iadd, 1) := by decide +kernel
theorem dX12_digest_91 : decode cX12_digest 91 = .ok (.iaload, 1) := by decide +kernel
theorem dX12_digest_92 : decode cX12_digest 92 = .ok (.i2l, 1) := by decide +kernel
theorem dX12_digest_93 : decode cX12_digest 93 = .ok (.ladd, 1) := by decide +kernel
theorem dX12_digest_94 : decode cX12_digest 94 = .ok (.lstore_n 1, 1) := by decide +kernel
theorem dX12_digest_95 : decode cX12_digest 95 = .ok (.iinc 3 1, 3) := by decide +kernel
theorem dX12_digest_98 : decode cX12_digest 98 = .ok (.goto (-46), 3) := by decide +kernel
theorem dX12_digest_101 : decode cX12_digest 101 = .ok (.iconst 0, 1) := by decide +kernel
theorem dX12_digest_102 : decode cX12_digest 102 = .ok (.istore_n 3, 1) := by decide +kernel
theorem dX12_digest_103 : decode cX12_digest 103 = .ok (.iload_n 3, 1) := by decide +kernel
theorem dX12_digest_104 : decode cX12_digest 104 = .ok (.aload_n 0, 1) := by decide +kernel
theorem dX12_digest_105 : decode cX12_digest 105 = .ok (.getfield 7, 3) := by decide +kernel
theorem dX12_digest_108 : decode cX12_digest 108 = .ok (.bipush 37, 2) := by decide +kernel
theorem dX12_digest_110 : decode cX12_digest 110 = .ok (.iaload, 1) := by decide +kernel
theorem dX12_digest_111 : decode cX12_digest 111 = .ok (.if_icmp .ge 47, 3) := by decide +kernel
theorem dX12_digest_114 : decode cX12_digest 114 = .ok (.iconst 0, 1) := by decide +kernel
theorem dX12_digest_115 : decode cX12_digest 115 = .ok (.istore 4, 2) := by decide +kernel
theorem dX12_digest_117 : decode cX12_digest 117 = .ok (.iload 4, 2) := by decide +kernel
theorem dX12_digest_119 : decode cX12_digest 119 = .ok (.bipush 6, 2) := by decide +kernel
theorem dX12_digest_121 : decode cX12_digest 121 = .ok (.if_icmp .ge 31, 3) := by decide +kernel
theorem dX12_digest_124 : decode cX12_digest 124 = .ok (.ldc2_w 323, 3) := by decide +kernel
theorem dX12_digest_127 : decode cX12_digest 127 = .ok (.lload_n 1, 1) := by decide +kernel
theorem dX12_digest_128 : decode cX12_digest 128 = .ok (.lmul, 1) := by decide +kernel
theorem dX12_digest_129 : decode cX12_digest 129 = .ok (.aload_n 0, 1) := by decide +kernel
theorem dX12_digest_130 : decode cX12_digest 130 = .ok (.getfield 7, 3) := by decide +kernel
theorem dX12_digest_133 : decode cX12_digest 133 = .ok (.bipush 44, 2) := by decide +kernel
theorem dX12_digest_135 : decode cX12_digest 135 = .ok (.iconst 4, 1) := by decide +kernel
theorem dX12_digest_136 : decode cX12_digest 136 = .ok (.iload 4, 2) := by decide +kernel
theorem dX12_digest_138 : decode cX12_digest 138 = .ok (.imul, 1) := by decide +kernel
theorem dX12_digest_139 : decode cX12_digest 139 = .ok (.iadd, 1) := by decide +kernel
theorem dX12_digest_140 : decode cX12_digest 140 = .ok (.iload_n 3, 1) := by decide +kernel
theorem dX12_digest_141 : decode cX12_digest 141 = .ok (.iadd, 1) := by decide +kernel
theorem dX12_digest_142 : decode cX12_digest 142 = .ok (.iaload, 1) := by decide +kernel
theorem dX12_digest_143 : decode cX12_digest 143 = .ok (.i2l, 1) := by decide +kernel
theorem dX12_digest_144 : decode cX12_digest 144 = .ok (.ladd, 1) := by decide +kernel
theorem dX12_digest_145 : decode cX12_digest 145 = .ok (.lstore_n 1, 1) := by decide +kernel
theorem dX12_digest_146 : decode cX12_digest 146 = .ok (.iinc 4 1, 3) := by decide +kernel
theorem dX12_digest_149 : decode cX12_digest 149 = .ok (.goto (-32), 3) := by decide +kernel
theorem dX12_digest_152 : decode cX12_digest 152 = .ok (.iinc 3 1, 3) := by decide +kernel
theorem dX12_digest_155 : decode cX12_digest 155 = .ok (.goto (-52), 3) := by decide +kernel
theorem dX12_digest_158 : decode cX12_digest 158 = .ok (.aload_n 0, 1) := by decide +kernel
theorem dX12_digest_159 : decode cX12_digest 159 = .ok (.lload_n 1, 1) := by decide +kernel
theorem dX12_digest_160 : decode cX12_digest 160 = .ok (.bipush 69, 2) := by decide +kernel
theorem dX12_digest_162 : decode cX12_digest 162 = .ok (.iconst 4, 1) := by decide +kernel
theorem dX12_digest_163 : decode cX12_digest 163 = .ok (.aload_n 0, 1) := by decide +kernel
theorem dX12_digest_164 : decode cX12_digest 164 = .ok (.getfield 7, 3) := by decide +kernel
theorem dX12_digest_167 : decode cX12_digest 167 = .ok (.bipush 68, 2) := by decide +kernel
theorem dX12_digest_169 : decode cX12_digest 169 = .ok (.iaload, 1) := by decide +kernel
theorem dX12_digest_170 : decode cX12_digest 170 = .ok (.imul, 1) := by decide +kernel
theorem dX12_digest_171 : decode cX12_digest 171 = .ok (.invokevirtual 327, 3) := by decide +kernel
theorem dX12_digest_174 : decode cX12_digest 174 = .ok (.lstore_n 1, 1) := by decide +kernel
theorem dX12_digest_175 : decode cX12_digest 175 = .ok (.aload_n 0, 1) := by decide +kernel
theorem dX12_digest_176 : decode cX12_digest 176 = .ok (.lload_n 1, 1) := by decide +kernel
theorem dX12_digest_177 : decode cX12_digest 177 = .ok (.bipush 90, 2) := by decide +kernel
theorem dX12_digest_179 : decode cX12_digest 179 = .ok (.bipush 6, 2) := by decide +kernel
theorem dX12_digest_181 : decode cX12_digest 181 = .ok (.aload_n 0, 1) := by decide +kernel
theorem dX12_digest_182 : decode cX12_digest 182 = .ok (.getfield 7, 3) := by decide +kernel
theorem dX12_digest_185 : decode cX12_digest 185 = .ok (.bipush 89, 2) := by decide +kernel
theorem dX12_digest_187 : decode cX12_digest 187 = .ok (.iaload, 1) := by decide +kernel
theorem dX12_digest_188 : decode cX12_digest 188 = .ok (.imul, 1) := by decide +kernel
theorem dX12_digest_189 : decode cX12_digest 189 = .ok (.invokevirtual 327, 3) := by decide +kernel
theorem dX12_digest_192 : decode cX12_digest 192 = .ok (.lstore_n 1, 1) := by decide +kernel
theorem dX12_digest_193 : decode cX12_digest 193 = .ok (.aload_n 0, 1) := by decide +kernel
theorem dX12_digest_194 : decode cX12_digest 194 = .ok (.lload_n 1, 1) := by decide +kernel
theorem dX12_digest_195 : decode cX12_digest 195 = .ok (.bipush 127, 2) := by decide +kernel
theorem dX12_digest_197 : decode cX12_digest 197 = .ok (.iconst 5, 1) := by decide +kernel
theorem dX12_digest_198 : decode cX12_digest 198 = .ok (.aload_n 0, 1) := by decide +kernel
theorem dX12_digest_199 : decode cX12_digest 199 = .ok (.getfield 7, 3) := by decide +kernel
theorem dX12_digest_202 : decode cX12_digest 202 = .ok (.bipush 126, 2) := by decide +kernel
theorem dX12_digest_204 : decode cX12_digest 204 = .ok (.iaload, 1) := by decide +kernel
theorem dX12_digest_205 : decode cX12_digest 205 = .ok (.imul, 1) := by decide +kernel
theorem dX12_digest_206 : decode cX12_digest 206 = .ok (.invokevirtual 327, 3) := by decide +kernel
theorem dX12_digest_209 : decode cX12_digest 209 = .ok (.lstore_n 1, 1) := by decide +kernel
theorem dX12_digest_210 : decode cX12_digest 210 = .ok (.ldc2_w 323, 3) := by decide +kernel
theorem dX12_digest_213 : decode cX12_digest 213 = .ok (.ldc2_w 323, 3) := by decide +kernel
theorem dX12_digest_216 : decode cX12_digest 216 = .ok (.lload_n 1, 1) := by decide +kernel
theorem dX12_digest_217 : decode cX12_digest 217 = .ok (.lmul, 1) := by decide +kernel
theorem dX12_digest_218 : decode cX12_digest 218 = .ok (.aload_n 0, 1) := by decide +kernel
theorem dX12_digest_219 : decode cX12_digest 219 = .ok (.getfield 285, 3) := by decide +kernel
theorem dX12_digest_222 : decode cX12_digest 222 = .ok (.ladd, 1) := by decide +kernel
theorem dX12_digest_223 : decode cX12_digest 223 = .ok (.lmul, 1) := by decide +kernel
theorem dX12_digest_224 : decode cX12_digest 224 = .ok (.aload_n 0, 1) := by decide +kernel
theorem dX12_digest_225 : decode cX12_digest 225 = .ok (.getfield 26, 3) := by decide +kernel
theorem dX12_digest_228 : decode cX12_digest 228 = .ok (.ladd, 1) := by decide +kernel
theorem dX12_digest_229 : decode cX12_digest 229 = .ok (.lreturn, 1) := by decide +kernel
theorem dJ6_bitCount_0f7a4_0 : decode cJ6_bitCount_0f7a4 0 = .ok (.iload_n 0, 1) := by decide +kernel
theorem dJ6_bitCount_0f7a4_1 : decode cJ6_bitCount_0f7a4 1 = .ok (.iload_n 0, 1) := by decide +kernel
theorem dJ6_bitCount_0f7a4_2 : decode cJ6_bitCount_0f7a4 2 = .ok (.iconst 1, 1) := by decide +kernel
theorem dJ6_bitCount_0f7a4_3 : decode cJ6_bitCount_0f7a4 3 = .ok (.iushr, 1) := by decide +kernel
theorem dJ6_bitCount_0f7a4_4 : decode cJ6_bitCount_0f7a4 4 = .ok (.ldc_w 265, 3) := by decide +kernel
theorem dJ6_bitCount_0f7a4_7 : decode cJ6_bitCount_0f7a4 7 = .ok (.iand, 1) := by decide +kernel
theorem dJ6_bitCount_0f7a4_8 : decode cJ6_bitCount_0f7a4 8 = .ok (.isub, 1) := by decide +kernel
theorem dJ6_bitCount_0f7a4_9 : decode cJ6_bitCount_0f7a4 9 = .ok (.istore_n 0, 1) := by decide +kernel
theorem dJ6_bitCount_0f7a4_10 : decode cJ6_bitCount_0f7a4 10 = .ok (.iload_n 0, 1) := by decide +kernel
theorem dJ6_bitCount_0f7a4_11 : decode cJ6_bitCount_0f7a4 11 = .ok (.ldc_w 266, 3) := by decide +kernel
theorem dJ6_bitCount_0f7a4_14 : decode cJ6_bitCount_0f7a4 14 = .ok (.iand, 1) := by decide +kernel
theorem dJ6_bitCount_0f7a4_15 : decode cJ6_bitCount_0f7a4 15 = .ok (.iload_n 0, 1) := by decide +kernel
theorem dJ6_bitCount_0f7a4_16 : decode cJ6_bitCount_0f7a4 16 = .ok (.iconst 2, 1) := by decide +kernel
theorem dJ6_bitCount_0f7a4_17 : decode cJ6_bitCount_0f7a4 17 = .ok (.iushr, 1) := by decide +kernel
theorem dJ6_bitCount_0f7a4_18 : decode cJ6_bitCount_0f7a4 18 = .ok (.ldc_w 266, 3) := by decide +kernel
theorem dJ6_bitCount_0f7a4_21 : decode cJ6_bitCount_0f7a4 21 = .ok (.iand, 1) := by decide +kernel
theorem dJ6_bitCount_0f7a4_22 : decode cJ6_bitCount_0f7a4 22 = .ok (.iadd, 1) := by decide +kernel
theorem dJ6_bitCount_0f7a4_23 : decode cJ6_bitCount_0f7a4 23 = .ok (.istore_n 0, 1) := by decide +kernel
theorem dJ6_bitCount_0f7a4_24 : decode cJ6_bitCount_0f7a4 24 = .ok (.iload_n 0, 1) := by decide +kernel
theorem dJ6_bitCount_0f7a4_25 : decode cJ6_bitCount_0f7a4 25 = .ok (.iload_n 0, 1) := by decide +kernel
theorem dJ6_bitCount_0f7a4_26 : decode cJ6_bitCount_0f7a4 26 = .ok (.iconst 4, 1) := by decide +kernel
theorem dJ6_bitCount_0f7a4_27 : decode cJ6_bitCount_0f7a4 27 = .ok (.iushr, 1) := by decide +kernel
theorem dJ6_bitCount_0f7a4_28 : decode cJ6_bitCount_0f7a4 28 = .ok (.iadd, 1) := by decide +kernel
theorem dJ6_bitCount_0f7a4_29 : decode cJ6_bitCount_0f7a4 29 = .ok (.ldc_w 267, 3) := by decide +kernel
theorem dJ6_bitCount_0f7a4_32 : decode cJ6_bitCount_0f7a4 32 = .ok (.iand, 1) := by decide +kernel
theorem dJ6_bitCount_0f7a4_33 : decode cJ6_bitCount_0f7a4 33 = .ok (.istore_n 0, 1) := by decide +kernel
theorem dJ6_bitCount_0f7a4_34 : decode cJ6_bitCount_0f7a4 34 = .ok (.iload_n 0, 1) := by decide +kernel
theorem dJ6_bitCount_0f7a4_35 : decode cJ6_bitCount_0f7a4 35 = .ok (.iload_n 0, 1) := by decide +kernel
theorem dJ6_bitCount_0f7a4_36 : decode cJ6_bitCount_0f7a4 36 = .ok (.bipush 8, 2) := by decide +kernel
theorem dJ6_bitCount_0f7a4_38 : decode cJ6_bitCount_0f7a4 38 = .ok (.iushr, 1) := by decide +kernel
theorem dJ6_bitCount_0f7a4_39 : decode cJ6_bitCount_0f7a4 39 = .ok (.iadd, 1) := by decide +kernel
theorem dJ6_bitCount_0f7a4_40 : decode cJ6_bitCount_0f7a4 40 = .ok (.istore_n 0, 1) := by decide +kernel
theorem dJ6_bitCount_0f7a4_41 : decode cJ6_bitCount_0f7a4 41 = .ok (.iload_n 0, 1) := by decide +kernel
theorem dJ6_bitCount_0f7a4_42 : decode cJ6_bitCount_0f7a4 42 = .ok (.iload_n 0, 1) := by decide +kernel
theorem dJ6_bitCount_0f7a4_43 : decode cJ6_bitCount_0f7a4 43 = .ok (.bipush 16, 2) := by decide +kernel
theorem dJ6_bitCount_0f7a4_45 : decode cJ6_bitCount_0f7a4 45 = .ok (.iushr, 1) := by decide +kernel
theorem dJ6_bitCount_0f7a4_46 : decode cJ6_bitCount_0f7a4 46 = .ok (.iadd, 1) := by decide +kernel
theorem dJ6_bitCount_0f7a4_47 : decode cJ6_bitCount_0f7a4 47 = .ok (.istore_n 0, 1) := by decide +kernel
theorem dJ6_bitCount_0f7a4_48 : decode cJ6_bitCount_0f7a4 48 = .ok (.iload_n 0, 1) := by decide +kernel
theorem dJ6_bitCount_0f7a4_49 : decode cJ6_bitCount_0f7a4 49 = .ok (.bipush 63, 2) := by decide +kernel
theorem dJ6_bitCount_0f7a4_51 : decode cJ6_bitCount_0f7a4 51 = .ok (.iand, 1) := by decide +kernel
theorem dJ6_bitCount_0f7a4_52 : decode cJ6_bitCount_0f7a4 52 = .ok (.ireturn, 1) := by decide +kernel
theorem dJ9_max_7cf53_0 : decode cJ9_max_7cf53 0 = .ok (.iload_n 0, 1) := by decide +kernel
theorem dJ9_max_7cf53_1 : decode cJ9_max_7cf53 1 = .ok (.iload_n 1, 1) := by decide +kernel
theorem dJ9_max_7cf53_2 : decode cJ9_max_7cf53 2 = .ok (.if_icmp .lt 7, 3) := by decide +kernel
theorem dJ9_max_7cf53_5 : decode cJ9_max_7cf53 5 = .ok (.iload_n 0, 1) := by decide +kernel
theorem dJ9_max_7cf53_6 : decode cJ9_max_7cf53 6 = .ok (.goto 4, 3) := by decide +kernel
theorem dJ9_max_7cf53_9 : decode cJ9_max_7cf53 9 = .ok (.iload_n 1, 1) := by decide +kernel
theorem dJ9_max_7cf53_10 : decode cJ9_max_7cf53 10 = .ok (.ireturn, 1) := by decide +kernel
theorem dJ9_min_7cf53_0 : decode cJ9_min_7cf53 0 = .ok (.iload_n 0, 1) := by decide +kernel
theorem dJ9_min_7cf53_1 : decode cJ9_min_7cf53 1 = .ok (.iload_n 1, 1) := by decide +kernel
theorem dJ9_min_7cf53_2 : decode cJ9_min_7cf53 2 = .ok (.if_icmp .gt 7, 3) := by decide +kernel
theorem dJ9_min_7cf53_5 : decode cJ9_min_7cf53 5 = .ok (.iload_n 0, 1) := by decide +kernel
theorem dJ9_min_7cf53_6 : decode cJ9_min_7cf53 6 = .ok (.goto 4, 3) := by decide +kernel
theorem dJ9_min_7cf53_9 : decode cJ9_min_7cf53 9 = .ok (.iload_n 1, 1) := by decide +kernel
theorem dJ9_min_7cf53_10 : decode cJ9_min_7cf53 10 = .ok (.ireturn, 1) := by decide +kernel
theorem dJ0_length_8abf5_0 : decode cJ0_length_8abf5 0 = .ok (.aload_n 0, 1) := by decide +kernel
theorem dJ0_length_8abf5_1 : decode cJ0_length_8abf5 1 = .ok (.getfield 9, 3) := by decide +kernel
theorem dJ0_length_8abf5_4 : decode cJ0_length_8abf5 4 = .ok (.arraylength, 1) := by decide +kernel
theorem dJ0_length_8abf5_5 : decode cJ0_length_8abf5 5 = .ok (.aload_n 0, 1) := by decide +kernel
theorem dJ0_length_8abf5_6 : decode cJ0_length_8abf5 6 = .ok (.invokevirtual 335, 3) := by decide +kernel
theorem dJ0_length_8abf5_9 : decode cJ0_length_8abf5 9 = .ok (.ishr, 1) := by decide +kernel
theorem dJ0_length_8abf5_10 : decode cJ0_length_8abf5 10 = .ok (.ireturn, 1) := by decide +kernel
theorem dJ0_charAt_5068e_0 : decode cJ0_charAt_5068e 0 = .ok (.aload_n 0, 1) := by decide +kernel
theorem dJ0_charAt_5068e_1 : decode cJ0_charAt_5068e 1 = .ok (.invokevirtual 492, 3) := by decide +kernel
theorem dJ0_charAt_5068e_4 : decode cJ0_charAt_5068e 4 = .ok (.ifCond .eq 12, 3) := by decide +kernel
theorem dJ0_charAt_5068e_7 : decode cJ0_charAt_5068e 7 = .ok (.aload_n 0, 1) := by decide +kernel
theorem dJ0_charAt_5068e_8 : decode cJ0_charAt_5068e 8 = .ok (.getfield 9, 3) := by decide +kernel
theorem dJ0_charAt_5068e_11 : decode cJ0_charAt_5068e 11 = .ok (.iload_n 1, 1) := by decide +kernel
theorem dJ0_charAt_5068e_12 : decode cJ0_charAt_5068e 12 = .ok (.invokestatic 495, 3) := by decide +kernel
theorem dJ0_charAt_5068e_15 : decode cJ0_charAt_5068e 15 = .ok (.ireturn, 1) := by decide +kernel
theorem dJ0_charAt_5068e_16 : decode cJ0_charAt_5068e 16 = .ok (.aload_n 0, 1) := by decide +kernel
theorem dJ0_charAt_5068e_17 : decode cJ0_charAt_5068e 17 = .ok (.getfield 9, 3) := by decide +kernel
theorem dJ0_charAt_5068e_20 : decode cJ0_charAt_5068e 20 = .ok (.iload_n 1, 1) := by decide +kernel
theorem dJ0_charAt_5068e_21 : decode cJ0_charAt_5068e 21 = .ok (.invokestatic 498, 3) := by decide +kernel
theorem dJ0_charAt_5068e_24 : decode cJ0_charAt_5068e 24 = .ok (.ireturn, 1) := by decide +kernel
theorem dJ0_coder_7d493_0 : decode cJ0_coder_7d493 0 = .ok (.getstatic 38, 3) := by decide +kernel
theorem dJ0_coder_7d493_3 : decode cJ0_coder_7d493 3 = .ok (.ifCond .eq 10, 3) := by decide +kernel
theorem dJ0_coder_7d493_6 : decode cJ0_coder_7d493 6 = .ok (.aload_n 0, 1) := by decide +kernel
theorem dJ0_coder_7d493_7 : decode cJ0_coder_7d493 7 = .ok (.getfield 15, 3) := by decide +kernel
theorem dJ0_coder_7d493_10 : decode cJ0_coder_7d493 10 = .ok (.goto 4, 3) := by decide +kernel
theorem dJ0_coder_7d493_13 : decode cJ0_coder_7d493 13 = .ok (.iconst 1, 1) := by decide +kernel
theorem dJ0_coder_7d493_14 : decode cJ0_coder_7d493 14 = .ok (.ireturn, 1) := by decide +kernel
theorem dJ0_isLatin1_aae02_0 : decode cJ0_isLatin1_aae02 0 = .ok (.getstatic 38, 3) := by decide +kernel
theorem dJ0_isLatin1_aae02_3 : decode cJ0_isLatin1_aae02 3 = .ok (.ifCond .eq 14, 3) := by decide +kernel
theorem dJ0_isLatin1_aae02_6 : decode cJ0_isLatin1_aae02 6 = .ok (.aload_n 0, 1) := by decide +kernel
theorem dJ0_isLatin1_aae02_7 : decode cJ0_isLatin1_aae02 7 = .ok (.getfield 15, 3) := by decide +kernel
theorem dJ0_isLatin1_aae02_10 : decode cJ0_isLatin1_aae02 10 = .ok (.ifCond .ne 7, 3) := by decide +kernel
theorem dJ0_isLatin1_aae02_13 : decode cJ0_isLatin1_aae02 13 = .ok (.iconst 1, 1) := by decide +kernel
theorem dJ0_isLatin1_aae02_14 : decode cJ0_isLatin1_aae02 14 = .ok (.goto 4, 3) := by decide +kernel
theorem dJ0_isLatin1_aae02_17 : decode cJ0_isLatin1_aae02 17 = .ok (.iconst 0, 1) := by decide +kernel
theorem dJ0_isLatin1_aae02_18 : decode cJ0_isLatin1_aae02 18 = .ok (.ireturn, 1) := by decide +kernel
theorem dJ0_checkIndex_df160_0 : decode cJ0_checkIndex_df160 0 = .ok (.iload_n 0, 1) := by decide +kernel
theorem dJ0_checkIndex_df160_1 : decode cJ0_checkIndex_df160 1 = .ok (.iload_n 1, 1) := by decide +kernel
theorem dJ0_checkIndex_df160_2 : decode cJ0_checkIndex_df160 2 = .ok (.getstatic 1053, 3) := by decide +kernel
theorem dJ0_checkIndex_df160_5 : decode cJ0_checkIndex_df160 5 = .ok (.invokestatic 1059, 3) := by decide +kernel
theorem dJ0_checkIndex_df160_8 : decode cJ0_checkIndex_df160 8 = .ok (.pop, 1) := by decide +kernel
theorem dJ0_checkIndex_df160_9 : decode cJ0_checkIndex_df160 9 = .ok (.return_, 1) := by decide +kernel
theorem dJ1_charAt_3b067_0 : decode cJ1_charAt_3b067 0 = .ok (.iload_n 1, 1) := by decide +kernel
theorem dJ1_charAt_3b067_1 : decode cJ1_charAt_3b067 1 = .ok (.aload_n 0, 1) := by decide +kernel
theorem dJ1_charAt_3b067_2 : decode cJ1_charAt_3b067 2 = .ok (.arraylength, 1) := by decide +kernel
theorem dJ1_charAt_3b067_3 : decode cJ1_charAt_3b067 3 = .ok (.invokestatic 9, 3) := by decide +kernel
theorem dJ1_charAt_3b067_6 : decode cJ1_charAt_3b067 6 = .ok (.aload_n 0, 1) := by decide +kernel
theorem dJ1_charAt_3b067_7 : decode cJ1_charAt_3b067 7 = .ok (.iload_n 1, 1) := by decide +kernel
theorem dJ1_charAt_3b067_8 : decode cJ1_charAt_3b067 8 = .ok (.baload, 1) := by decide +kernel
theorem dJ1_charAt_3b067_9 : decode cJ1_charAt_3b067 9 = .ok (.sipush 255, 3) := by decide +kernel
theorem dJ1_charAt_3b067_12 : decode cJ1_charAt_3b067 12 = .ok (.iand, 1) := by decide +kernel
theorem dJ1_charAt_3b067_13 : decode cJ1_charAt_3b067 13 = .ok (.i2c, 1) := by decide +kernel
theorem dJ1_charAt_3b067_14 : decode cJ1_charAt_3b067 14 = .ok (.ireturn, 1) := by decide +kernel
theorem dJ2_getChar_3b067_0 : decode cJ2_getChar_3b067 0 = .ok (.getstatic 44, 3) := by decide +kernel
theorem dJ2_getChar_3b067_3 : decode cJ2_getChar_3b067 3 = .ok (.ifCond .ne 25, 3) := by decide +kernel
theorem dJ2_getChar_3b067_6 : decode cJ2_getChar_3b067 6 = .ok (.iload_n 1, 1) := by decide +kernel
theorem dJ2_getChar_3b067_7 : decode cJ2_getChar_3b067 7 = .ok (.ifCond .lt 11, 3) := by decide +kernel
theorem dJ2_getChar_3b067_10 : decode cJ2_getChar_3b067 10 = .ok (.iload_n 1, 1) := by decide +kernel
theorem dJ2_getChar_3b067_11 : decode cJ2_getChar_3b067 11 = .ok (.aload_n 0, 1) := by decide +kernel
theorem dJ2_getChar_3b067_12 : decode cJ2_getChar_3b067 12 = .ok (.invokestatic 48, 3) := by decide +kernel
theorem dJ2_getChar_3b067_15 : decode cJ2_getChar_3b067 15 = .ok (.if_icmp .lt 13, 3) := by decide +kernel
theorem dJ2_getChar_3b067_18 : decode cJ2_getChar_3b067 18 = .ok (.new 52, 3) := by decide +kernel
theorem dJ2_getChar_3b067_21 : decode cJ2_getChar_3b067 21 = .ok (.dup, 1) := by decide +kernel
theorem dJ2_getChar_3b067_22 : decode cJ2_getChar_3b067 22 = .ok (.ldc 54, 2) := by decide +kernel
theorem dJ2_getChar_3b067_24 : decode cJ2_getChar_3b067 24 = .ok (.invokespecial 56, 3) := by decide +kernel
theorem dJ2_getChar_3b067_27 : decode cJ2_getChar_3b067 27 = .ok (.athrow, 1) := by decide +kernel
theorem dJ2_getChar_3b067_28 : decode cJ2_getChar_3b067 28 = .ok (.iload_n 1, 1) := by decide +kernel
theorem dJ2_getChar_3b067_29 : decode cJ2_getChar_3b067 29 = .ok (.iconst 1, 1) := by decide +kernel
theorem dJ2_getChar_3b067_30 : decode cJ2_getChar_3b067 30 = .ok (.ishl, 1) := by decide +kernel
theorem dJ2_getChar_3b067_31 : decode cJ2_getChar_3b067 31 = .ok (.istore_n 1, 1) := by decide +kernel
theorem dJ2_getChar_3b067_32 : decode cJ2_getChar_3b067 32 = .ok (.aload_n 0, 1) := by decide +kernel
theorem dJ2_getChar_3b067_33 : decode cJ2_getChar_3b067 33 = .ok (.iload_n 1, 1) := by decide +kernel
theorem dJ2_getChar_3b067_34 : decode cJ2_getChar_3b067 34 = .ok (.iinc 1 1, 3) := by decide +kernel
theorem dJ2_getChar_3b067_37 : decode cJ2_getChar_3b067 37 = .ok (.baload, 1) := by decide +kernel
theorem dJ2_getChar_3b067_38 : decode cJ2_getChar_3b067 38 = .ok (.sipush 255, 3) := by decide +kernel
theorem dJ2_getChar_3b067_41 : decode cJ2_getChar_3b067 41 = .ok (.iand, 1) := by decide +kernel
theorem dJ2_getChar_3b067_42 : decode cJ2_getChar_3b067 42 = .ok (.getstatic 59, 3) := by decide +kernel
theorem dJ2_getChar_3b067_45 : decode cJ2_getChar_3b067 45 = .ok (.ishl, 1) := by decide +kernel
theorem dJ2_getChar_3b067_46 : decode cJ2_getChar_3b067 46 = .ok (.aload_n 0, 1) := by decide +kernel
theorem dJ2_getChar_3b067_47 : decode cJ2_getChar_3b067 47 = .ok (.iload_n 1, 1) := by decide +kernel
theorem dJ2_getChar_3b067_48 : decode cJ2_getChar_3b067 48 = .ok (.baload, 1) := by decide +kernel
theorem dJ2_getChar_3b067_49 : decode cJ2_getChar_3b067 49 = .ok (.sipush 255, 3) := by decide +kernel
theorem dJ2_getChar_3b067_52 : decode cJ2_getChar_3b067 52 = .ok (.iand, 1) := by decide +kernel
theorem dJ2_getChar_3b067_53 : decode cJ2_getChar_3b067 53 = .ok (.getstatic 63, 3) := by decide +kernel
theorem dJ2_getChar_3b067_56 : decode cJ2_getChar_3b067 56 = .ok (.ishl, 1) := by decide +kernel
theorem dJ2_getChar_3b067_57 : decode cJ2_getChar_3b067 57 = .ok (.ior, 1) := by decide +kernel
theorem dJ2_getChar_3b067_58 : decode cJ2_getChar_3b067 58 = .ok (.i2c, 1) := by decide +kernel
theorem dJ2_getChar_3b067_59 : decode cJ2_getChar_3b067 59 = .ok (.ireturn, 1) := by decide +kernel
theorem dJ2_length_9d52b_0 : decode cJ2_length_9d52b 0 = .ok (.aload_n 0, 1) := by decide +kernel
theorem dJ2_length_9d52b_1 : decode cJ2_length_9d52b 1 = .ok (.arraylength, 1) := by decide +kernel
theorem dJ2_length_9d52b_2 : decode cJ2_length_9d52b 2 = .ok (.iconst 1, 1) := by decide +kernel
theorem dJ2_length_9d52b_3 : decode cJ2_length_9d52b 3 = .ok (.ishr, 1) := by decide +kernel
theorem dJ2_length_9d52b_4 : decode cJ2_length_9d52b 4 = .ok (.ireturn, 1) := by decide +kernel
theorem dJ2_charAt_3b067_0 : decode cJ2_charAt_3b067 0 = .ok (.iload_n 1, 1) := by decide +kernel
theorem dJ2_charAt_3b067_1 : decode cJ2_charAt_3b067 1 = .ok (.aload_n 0, 1) := by decide +kernel
theorem dJ2_charAt_3b067_2 : decode cJ2_charAt_3b067 2 = .ok (.invokestatic 67, 3) := by decide +kernel
theorem dJ2_charAt_3b067_5 : decode cJ2_charAt_3b067 5 = .ok (.aload_n 0, 1) := by decide +kernel
theorem dJ2_charAt_3b067_6 : decode cJ2_charAt_3b067 6 = .ok (.iload_n 1, 1) := by decide +kernel
theorem dJ2_charAt_3b067_7 : decode cJ2_charAt_3b067 7 = .ok (.invokestatic 71, 3) := by decide +kernel
theorem dJ2_charAt_3b067_10 : decode cJ2_charAt_3b067 10 = .ok (.ireturn, 1) := by decide +kernel
theorem dJ2_checkIndex_2214a_0 : decode cJ2_checkIndex_2214a 0 = .ok (.iload_n 0, 1) := by decide +kernel
theorem dJ2_checkIndex_2214a_1 : decode cJ2_checkIndex_2214a 1 = .ok (.aload_n 1, 1) := by decide +kernel
theorem dJ2_checkIndex_2214a_2 : decode cJ2_checkIndex_2214a 2 = .ok (.invokestatic 48, 3) := by decide +kernel
theorem dJ2_checkIndex_2214a_5 : decode cJ2_checkIndex_2214a 5 = .ok (.invokestatic 414, 3) := by decide +kernel
theorem dJ2_checkIndex_2214a_8 : decode cJ2_checkIndex_2214a 8 = .ok (.return_, 1) := by decide +kernel
theorem dJ3_checkIndex_8e157_0 : decode cJ3_checkIndex_8e157 0 = .ok (.iload_n 0, 1) := by decide +kernel
theorem dJ3_checkIndex_8e157_1 : decode cJ3_checkIndex_8e157 1 = .ok (.ifCond .lt 8, 3) := by decide +kernel
theorem dJ3_checkIndex_8e157_4 : decode cJ3_checkIndex_8e157 4 = .ok (.iload_n 0, 1) := by decide +kernel
theorem dJ3_checkIndex_8e157_5 : decode cJ3_checkIndex_8e157 5 = .ok (.iload_n 1, 1) := by decide +kernel
theorem dJ3_checkIndex_8e157_6 : decode cJ3_checkIndex_8e157 6 = .ok (.if_icmp .lt 10, 3) := by decide +kernel
theorem dJ3_checkIndex_8e157_9 : decode cJ3_checkIndex_8e157 9 = .ok (.aload_n 2, 1) := by decide +kernel
theorem dJ3_checkIndex_8e157_10 : decode cJ3_checkIndex_8e157 10 = .ok (.iload_n 0, 1) := by decide +kernel
theorem dJ3_checkIndex_8e157_11 : decode cJ3_checkIndex_8e157 11 = .ok (.iload_n 1, 1) := by decide +kernel
theorem dJ3_checkIndex_8e157_12 : decode cJ3_checkIndex_8e157 12 = .ok (.invokestatic 95, 3) := by decide +kernel
theorem dJ3_checkIndex_8e157_15 : decode cJ3_checkIndex_8e157 15 = .ok (.athrow, 1) := by decide +kernel
theorem dJ3_checkIndex_8e157_16 : decode cJ3_checkIndex_8e157 16 = .ok (.iload_n 0, 1) := by decide +kernel
theorem dJ3_checkIndex_8e157_17 : decode cJ3_checkIndex_8e157 17 = .ok (.ireturn, 1) := by decide +kernel
theorem dL_law_0 : decode cL_law 0 = .ok (.new 7, 3) := by decide +kernel
theorem dL_law_3 : decode cL_law 3 = .ok (.dup, 1) := by decide +kernel
theorem dL_law_4 : decode cL_law 4 = .ok (.invokespecial 9, 3) := by decide +kernel
theorem dL_law_7 : decode cL_law 7 = .ok (.astore_n 1, 1) := by decide +kernel
theorem dL_law_8 : decode cL_law 8 = .ok (.new 10, 3) := by decide +kernel
theorem dL_law_11 : decode cL_law 11 = .ok (.dup, 1) := by decide +kernel
theorem dL_law_12 : decode cL_law 12 = .ok (.invokespecial 12, 3) := by decide +kernel
theorem dL_law_15 : decode cL_law 15 = .ok (.astore_n 2, 1) := by decide +kernel
theorem dL_law_16 : decode cL_law 16 = .ok (.iconst 0, 1) := by decide +kernel
theorem dL_law_17 : decode cL_law 17 = .ok (.istore_n 3, 1) := by decide +kernel
theorem dL_law_18 : decode cL_law 18 = .ok (.iload_n 3, 1) := by decide +kernel
theorem dL_law_19 : decode cL_law 19 = .ok (.aload_n 0, 1) := by decide +kernel
theorem dL_law_20 : decode cL_law 20 = .ok (.arraylength, 1) := by decide +kernel
theorem dL_law_21 : decode cL_law 21 = .ok (.bipush 7, 2) := by decide +kernel
theorem dL_law_23 : decode cL_law 23 = .ok (.isub, 1) := by decide +kernel
theorem dL_law_24 : decode cL_law 24 = .ok (.if_icmp .gt 1491, 3) := by decide +kernel
theorem dL_law_27 : decode cL_law 27 = .ok (.aload_n 0, 1) := by decide +kernel
theorem dL_law_28 : decode cL_law 28 = .ok (.iload_n 3, 1) := by decide +kernel
theorem dL_law_29 : decode cL_law 29 = .ok (.iaload, 1) := by decide +kernel
theorem dL_law_30 : decode cL_law 30 = .ok (.bipush 63, 2) := by decide +kernel
theorem dL_law_32 : decode cL_law 32 = .ok (.iand, 1) := by decide +kernel
theorem dL_law_33 : decode cL_law 33 = .ok (.tableswitch 1476 0 40 #[179, 202, 235, 278, 311, 344, 367, 380, 393, 436, 459, 472, 505, 538, 571, 604, 637, 690, 733, 766, 799, 822, 875, 898, 921, 996, 1059, 1082, 1105, 1128, 1151, 1174, 1217, 1270, 1313, 1346, 1370, 1393, 1416, 1439, 1462], 179) := by decide +kernel
theorem dL_law_212 : decode cL_law 212 = .ok (.aload_n 1, 1) := by decide +kernel
theorem dL_law_213 : decode cL_law 213 = .ok (.aload_n 0, 1) := by decide +kernel
theorem dL_law_214 : decode cL_law 214 = .ok (.iload_n 3, 1) := by decide +kernel
theorem dL_law_215 : decode cL_law 215 = .ok (.iconst 1, 1) := by decide +kernel
theorem dL_law_216 : decode cL_law 216 = .ok (.iadd, 1) := by decide +kernel
theorem dL_law_217 : decode cL_law 217 = .ok (.iaload, 1) := by decide +kernel
theorem dL_law_218 : decode cL_law 218 = .ok (.invokevirtual 13, 3) := by decide +kernel
theorem dL_law_221 : decode cL_law 221 = .ok (.aload_n 2, 1) := by decide +kernel
theorem dL_law_222 : decode cL_law 222 = .ok (.aload_n 0, 1) := by decide +kernel
theorem dL_law_223 : decode cL_law 223 = .ok (.iload_n 3, 1) := by decide +kernel
theorem dL_law_224 : decode cL_law 224 = .ok (.iconst 1, 1) := by decide +kernel
theorem dL_law_225 : decode cL_law 225 = .ok (.iadd, 1) := by decide +kernel
theorem dL_law_226 : decode cL_law 226 = .ok (.iaload, 1) := by decide +kernel
theorem dL_law_227 : decode cL_law 227 = .ok (.invokevirtual 17, 3) := by decide +kernel
theorem dL_law_230 : decode cL_law 230 = .ok (.if_icmp .eq 1279, 3) := by decide +kernel
theorem dL_law_233 : decode cL_law 233 = .ok (.iconst 0, 1) := by decide +kernel
theorem dL_law_234 : decode cL_law 234 = .ok (.ireturn, 1) := by decide +kernel
theorem dL_law_235 : decode cL_law 235 = .ok (.aload_n 1, 1) := by decide +kernel
theorem dL_law_236 : decode cL_law 236 = .ok (.aload_n 0, 1) := by decide +kernel
theorem dL_law_237 : decode cL_law 237 = .ok (.iload_n 3, 1) := by decide +kernel
theorem dL_law_238 : decode cL_law 238 = .ok (.iconst 1, 1) := by decide +kernel
theorem dL_law_239 : decode cL_law 239 = .ok (.iadd, 1) := by decide +kernel
theorem dL_law_240 : decode cL_law 240 = .ok (.iaload, 1) := by decide +kernel
theorem dL_law_241 : decode cL_law 241 = .ok (.aload_n 0, 1) := by decide +kernel
theorem dL_law_242 : decode cL_law 242 = .ok (.iload_n 3, 1) := by decide +kernel
theorem dL_law_243 : decode cL_law 243 = .ok (.iconst 2, 1) := by decide +kernel
theorem dL_law_244 : decode cL_law 244 = .ok (.iadd, 1) := by decide +kernel
theorem dL_law_245 : decode cL_law 245 = .ok (.iaload, 1) := by decide +kernel
theorem dL_law_246 : decode cL_law 246 = .ok (.invokevirtual 18, 3) := by decide +kernel
theorem dL_law_249 : decode cL_law 249 = .ok (.aload_n 2, 1) := by decide +kernel
theorem dL_law_250 : decode cL_law 250 = .ok (.aload_n 0, 1) := by decide +kernel
theorem dL_law_251 : decode cL_law 251 = .ok (.iload_n 3, 1) := by decide +kernel
theorem dL_law_252 : decode cL_law 252 = .ok (.iconst 1, 1) := by decide +kernel
theorem dL_law_253 : decode cL_law 253 = .ok (.iadd, 1) := by decide +kernel
theorem dL_law_254 : decode cL_law 254 = .ok (.iaload, 1) := by decide +kernel
theorem dL_law_255 : decode cL_law 255 = .ok (.aload_n 0, 1) := by decide +kernel
theorem dL_law_256 : decode cL_law 256 = .ok (.iload_n 3, 1) := by decide +kernel
theorem dL_law_257 : decode cL_law 257 = .ok (.iconst 2, 1) := by decide +kernel
theorem dL_law_258 : decode cL_law 258 = .ok (.iadd, 1) := by decide +kernel
theorem dL_law_259 : decode cL_law 259 = .ok (.iaload, 1) := by decide +kernel
theorem dL_law_260 : decode cL_law 260 = .ok (.invokevirtual 22, 3) := by decide +kernel
theorem dL_law_263 : decode cL_law 263 = .ok (.if_icmp .eq 1246, 3) := by decide +kernel
theorem dL_law_266 : decode cL_law 266 = .ok (.iconst 0, 1) := by decide +kernel
theorem dL_law_267 : decode cL_law 267 = .ok (.ireturn, 1) := by decide +kernel
theorem dL_law_268 : decode cL_law 268 = .ok (.aload_n 1, 1) := by decide +kernel
theorem dL_law_269 : decode cL_law 269 = .ok (.aload_n 0, 1) := by decide +kernel
theorem dL_law_270 : decode cL_law 270 = .ok (.iload_n 3, 1) := by decide +kernel
theorem dL_law_271 : decode cL_law 271 = .ok (.iconst 1, 1) := by decide +kernel
theorem dL_law_272 : decode cL_law 272 = .ok (.iadd, 1) := by decide +kernel
theorem dL_law_273 : decode cL_law 273 = .ok (.iaload, 1) := by decide +kernel
theorem dL_law_274 : decode cL_law 274 = .ok (.aload_n 0, 1) := by decide +kernel
theorem dL_law_275 : decode cL_law 275 = .ok (.iload_n 3, 1) := by decide +kernel
theorem dL_law_276 : decode cL_law 276 = .ok (.iconst 2, 1) := by decide +kernel
theorem dL_law_277 : decode cL_law 277 = .ok (.iadd, 1) := by decide +kernel
theorem dL_law_278 : decode cL_law 278 = .ok (.iaload, 1) := by decide +kernel
theorem dL_law_279 : decode cL_law 279 = .ok (.aload_n 0, 1) := by decide +kernel
theorem dL_law_280 : decode cL_law 280 = .ok (.iload_n 3, 1) := by decide +kernel
theorem dL_law_281 : decode cL_law 281 = .ok (.iconst 3, 1) := by decide +kernel
theorem dL_law_282 : decode cL_law 282 = .ok (.iadd, 1) := by decide +kernel
theorem dL_law_283 : decode cL_law 283 = .ok (.iaload, 1) := by decide +kernel
theorem dL_law_284 : decode cL_law 284 = .ok (.invokevirtual 23, 3) := by decide +kernel
theorem dL_law_287 : decode cL_law 287 = .ok (.aload_n 2, 1) := by decide +kernel
theorem dL_law_288 : decode cL_law 288 = .ok (.aload_n 0, 1) := by decide +kernel
theorem dL_law_289 : decode cL_law 289 = .ok (.iload_n 3, 1) := by decide +kernel
theorem dL_law_290 : decode cL_law 290 = .ok (.iconst 1, 1) := by decide +kernel
theorem dL_law_291 : decode cL_law 291 = .ok (.iadd, 1) := by decide +kernel
theorem dL_law_292 : decode cL_law 292 = .ok (.iaload, 1) := by decide +kernel
theorem dL_law_293 : decode cL_law 293 = .ok (.aload_n 0, 1) := by decide +kernel
theorem dL_law_294 : decode cL_law 294 = .ok (.iload_n 3, 1) := by decide +kernel
theorem dL_law_295 : decode cL_law 295 = .ok (.iconst 2, 1) := by decide +kernel
theorem dL_law_296 : decode cL_law 296 = .ok (.iadd, 1) := by decide +kernel
theorem dL_law_297 : decode cL_law 297 = .ok (.iaload, 1) := by decide +kernel
theorem dL_law_298 : decode cL_law 298 = .ok (.aload_n 0, 1) := by decide +kernel
theorem dL_law_299 : decode cL_law 299 = .ok (.iload_n 3, 1) := by decide +kernel
theorem dL_law_300 : decode cL_law 300 = .ok (.iconst 3, 1) := by decide +kernel
theorem dL_law_301 : decode cL_law 301 = .ok (.iadd, 1) := by decide +kernel
theorem dL_law_302 : decode cL_law 302 = .ok (.iaload, 1) := by decide +kernel
theorem dL_law_303 : decode cL_law 303 = .ok (.invokevirtual 27, 3) := by decide +kernel
theorem dL_law_306 : decode cL_law 306 = .ok (.if_icmp .eq 1203, 3) := by decide +kernel
theorem dL_law_309 : decode cL_law 309 = .ok (.iconst 0, 1) := by decide +kernel
theorem dL_law_310 : decode cL_law 310 = .ok (.ireturn, 1) := by decide +kernel
theorem dL_law_311 : decode cL_law 311 = .ok (.aload_n 1, 1) := by decide +kernel
theorem dL_law_312 : decode cL_law 312 = .ok (.aload_n 0, 1) := by decide +kernel
theorem dL_law_313 : decode cL_law 313 = .ok (.iload_n 3, 1) := by decide +kernel
theorem dL_law_314 : decode cL_law 314 = .ok (.iconst 1, 1) := by decide +kernel
theorem dL_law_315 : decode cL_law 315 = .ok (.iadd, 1) := by decide +kernel
theorem dL_law_316 : decode cL_law 316 = .ok (.iaload, 1) := by decide +kernel
theorem dL_law_317 : decode cL_law 317 = .ok (.aload_n 0, 1) := by decide +kernel
theorem dL_law_318 : decode cL_law 318 = .ok (.iload_n 3, 1) := by decide +kernel
theorem dL_law_319 : decode cL_law 319 = .ok (.iconst 2, 1) := by decide +kernel
theorem dL_law_320 : decode cL_law 320 = .ok (.iadd, 1) := by decide +kernel
theorem dL_law_321 : decode cL_law 321 = .ok (.iaload, 1) := by decide +kernel
theorem dL_law_322 : decode cL_law 322 = .ok (.invokevirtual 28, 3) := by decide +kernel
theorem dL_law_325 : decode cL_law 325 = .ok (.aload_n 2, 1) := by decide +kernel
theorem dL_law_326 : decode cL_law 326 = .ok (.aload_n 0, 1) := by decide +kernel
theorem dL_law_327 : decode cL_law 327 = .ok (.iload_n 3, 1) := by decide +kernel
theorem dL_law_328 : decode cL_law 328 = .ok (.iconst 1, 1) := by decide +kernel
theorem dL_law_329 : decode cL_law 329 = .ok (.iadd, 1) := by decide +kernel
theorem dL_law_330 : decode cL_law 330 = .ok (.iaload, 1) := by decide +kernel
theorem dL_law_331 : decode cL_law 331 = .ok (.aload_n 0, 1) := by decide +kernel
theorem dL_law_332 : decode cL_law 332 = .ok (.iload_n 3, 1) := by decide +kernel
theorem dL_law_333 : decode cL_law 333 = .ok (.iconst 2, 1) := by decide +kernel
theorem dL_law_334 : decode cL_law 334 = .ok (.iadd, 1) := by decide +kernel
theorem dL_law_335 : decode cL_law 335 = .ok (.iaload, 1) := by decide +kernel
theorem dL_law_336 : decode cL_law 336 = .ok (.invokevirtual 31, 3) := by decide +kernel
theorem dL_law_339 : decode cL_law 339 = .ok (.if_icmp .eq 1170, 3) := by decide +kernel
theorem dL_law_342 : decode cL_law 342 = .ok (.iconst 0, 1) := by decide +kernel
theorem dL_law_343 : decode cL_law 343 = .ok (.ireturn, 1) := by decide +kernel
theorem dL_law_344 : decode cL_law 344 = .ok (.aload_n 1, 1) := by decide +kernel
theorem dL_law_345 : decode cL_law 345 = .ok (.aload_n 0, 1) := by decide +kernel
theorem dL_law_346 : decode cL_law 346 = .ok (.iload_n 3, 1) := by decide +kernel
theorem dL_law_347 : decode cL_law 347 = .ok (.iconst 1, 1) := by decide +kernel
theorem dL_law_348 : decode cL_law 348 = .ok (.iadd, 1) := by decide +kernel
theorem dL_law_349 : decode cL_law 349 = .ok (.iaload, 1) := by decide +kernel
theorem dL_law_350 : decode cL_law 350 = .ok (.aload_n 0, 1) := by decide +kernel
theorem dL_law_351 : decode cL_law 351 = .ok (.iload_n 3, 1) := by decide +kernel
theorem dL_law_352 : decode cL_law 352 = .ok (.iconst 2, 1) := by decide +kernel
theorem dL_law_353 : decode cL_law 353 = .ok (.iadd, 1) := by decide +kernel
theorem dL_law_354 : decode cL_law 354 = .ok (.iaload, 1) := by decide +kernel
theorem dL_law_355 : decode cL_law 355 = .ok (.invokevirtual 32, 3) := by decide +kernel
theorem dL_law_358 : decode cL_law 358 = .ok (.aload_n 2, 1) := by decide +kernel
theorem dL_law_359 : decode cL_law 359 = .ok (.aload_n 0, 1) := by decide +kernel
theorem dL_law_360 : decode cL_law 360 = .ok (.iload_n 3, 1) := by decide +kernel
theorem dL_law_361 : decode cL_law 361 = .ok (.iconst 1, 1) := by decide +kernel
theorem dL_law_362 : decode cL_law 362 = .ok (.iadd, 1) := by decide +kernel
theorem dL_law_363 : decode cL_law 363 = .ok (.iaload, 1) := by decide +kernel
theorem dL_law_364 : decode cL_law 364 = .ok (.aload_n 0, 1) := by decide +kernel
theorem dL_law_365 : decode cL_law 365 = .ok (.iload_n 3, 1) := by decide +kernel
theorem dL_law_366 : decode cL_law 366 = .ok (.iconst 2, 1) := by decide +kernel
theorem dL_law_367 : decode cL_law 367 = .ok (.iadd, 1) := by decide +kernel
theorem dL_law_368 : decode cL_law 368 = .ok (.iaload, 1) := by decide +kernel
theorem dL_law_369 : decode cL_law 369 = .ok (.invokevirtual 35, 3) := by decide +kernel
theorem dL_law_372 : decode cL_law 372 = .ok (.if_icmp .eq 1137, 3) := by decide +kernel
theorem dL_law_375 : decode cL_law 375 = .ok (.iconst 0, 1) := by decide +kernel
theorem dL_law_376 : decode cL_law 376 = .ok (.ireturn, 1) := by decide +kernel
theorem dL_law_377 : decode cL_law 377 = .ok (.aload_n 1, 1) := by decide +kernel
theorem dL_law_378 : decode cL_law 378 = .ok (.aload_n 0, 1) := by decide +kernel
theorem dL_law_379 : decode cL_law 379 = .ok (.iload_n 3, 1) := by decide +kernel
theorem dL_law_380 : decode cL_law 380 = .ok (.iconst 1, 1) := by decide +kernel
theorem dL_law_381 : decode cL_law 381 = .ok (.iadd, 1) := by decide +kernel
theorem dL_law_382 : decode cL_law 382 = .ok (.iaload, 1) := by decide +kernel
theorem dL_law_383 : decode cL_law 383 = .ok (.invokevirtual 36, 3) := by decide +kernel
theorem dL_law_386 : decode cL_law 386 = .ok (.aload_n 2, 1) := by decide +kernel
theorem dL_law_387 : decode cL_law 387 = .ok (.aload_n 0, 1) := by decide +kernel
theorem dL_law_388 : decode cL_law 388 = .ok (.iload_n 3, 1) := by decide +kernel
theorem dL_law_389 : decode cL_law 389 = .ok (.iconst 1, 1) := by decide +kernel
theorem dL_law_390 : decode cL_law 390 = .ok (.iadd, 1) := by decide +kernel
theorem dL_law_391 : decode cL_law 391 = .ok (.iaload, 1) := by decide +kernel
theorem dL_law_392 : decode cL_law 392 = .ok (.invokevirtual 39, 3) := by decide +kernel
theorem dL_law_395 : decode cL_law 395 = .ok (.if_icmp .eq 1114, 3) := by decide +kernel
theorem dL_law_398 : decode cL_law 398 = .ok (.iconst 0, 1) := by decide +kernel
theorem dL_law_399 : decode cL_law 399 = .ok (.ireturn, 1) := by decide +kernel
theorem dL_law_400 : decode cL_law 400 = .ok (.aload_n 1, 1) := by decide +kernel
theorem dL_law_401 : decode cL_law 401 = .ok (.invokevirtual 40, 3) := by decide +kernel
theorem dL_law_404 : decode cL_law 404 = .ok (.aload_n 2, 1) := by decide +kernel
theorem dL_law_405 : decode cL_law 405 = .ok (.invokevirtual 44, 3) := by decide +kernel
theorem dL_law_408 : decode cL_law 408 = .ok (.if_icmp .eq 1101, 3) := by decide +kernel
theorem dL_law_411 : decode cL_law 411 = .ok (.iconst 0, 1) := by decide +kernel
theorem dL_law_412 : decode cL_law 412 = .ok (.ireturn, 1) := by decide +kernel
theorem dL_law_413 : decode cL_law 413 = .ok (.aload_n 1, 1) := by decide +kernel
theorem dL_law_414 : decode cL_law 414 = .ok (.invokevirtual 45, 3) := by decide +kernel
theorem dL_law_417 : decode cL_law 417 = .ok (.aload_n 2, 1) := by decide +kernel
theorem dL_law_418 : decode cL_law 418 = .ok (.invokevirtual 48, 3) := by decide +kernel
theorem dL_law_421 : decode cL_law 421 = .ok (.if_icmp .eq 1088, 3) := by decide +kernel
theorem dL_law_424 : decode cL_law 424 = .ok (.iconst 0, 1) := by decide +kernel
theorem dL_law_425 : decode cL_law 425 = .ok (.ireturn, 1) := by decide +kernel
theorem dL_law_426 : decode cL_law 426 = .ok (.aload_n 1, 1) := by decide +kernel
theorem dL_law_427 : decode cL_law 427 = .ok (.aload_n 0, 1) := by decide +kernel
theorem dL_law_428 : decode cL_law 428 = .ok (.iload_n 3, 1) := by decide +kernel
theorem dL_law_429 : decode cL_law 429 = .ok (.iconst 1, 1) := by decide +kernel
theorem dL_law_430 : decode cL_law 430 = .ok (.iadd, 1) := by decide +kernel
theorem dL_law_431 : decode cL_law 431 = .ok (.iaload, 1) := by decide +kernel
theorem dL_law_432 : decode cL_law 432 = .ok (.aload_n 0, 1) := by decide +kernel
theorem dL_law_433 : decode cL_law 433 = .ok (.iload_n 3, 1) := by decide +kernel
theorem dL_law_434 : decode cL_law 434 = .ok (.iconst 2, 1) := by decide +kernel
theorem dL_law_435 : decode cL_law 435 = .ok (.iadd, 1) := by decide +kernel
theorem dL_law_436 : decode cL_law 436 = .ok (.iaload, 1) := by decide +kernel
theorem dL_law_437 : decode cL_law 437 = .ok (.aload_n 0, 1) := by decide +kernel
theorem dL_law_438 : decode cL_law 438 = .ok (.iload_n 3, 1) := by decide +kernel
theorem dL_law_439 : decode cL_law 439 = .ok (.iconst 3, 1) := by decide +kernel
theorem dL_law_440 : decode cL_law 440 = .ok (.iadd, 1) := by decide +kernel
theorem dL_law_441 : decode cL_law 441 = .ok (.iaload, 1) := by decide +kernel
theorem dL_law_442 : decode cL_law 442 = .ok (.invokevirtual 49, 3) := by decide +kernel
theorem dL_law_445 : decode cL_law 445 = .ok (.aload_n 2, 1) := by decide +kernel
theorem dL_law_446 : decode cL_law 446 = .ok (.aload_n 0, 1) := by decide +kernel
theorem dL_law_447 : decode cL_law 447 = .ok (.iload_n 3, 1) := by decide +kernel
theorem dL_law_448 : decode cL_law 448 = .ok (.iconst 1, 1) := by decide +kernel
theorem dL_law_449 : decode cL_law 449 = .ok (.iadd, 1) := by decide +kernel
theorem dL_law_450 : decode cL_law 450 = .ok (.iaload, 1) := by decide +kernel
theorem dL_law_451 : decode cL_law 451 = .ok (.aload_n 0, 1) := by decide +kernel
theorem dL_law_452 : decode cL_law 452 = .ok (.iload_n 3, 1) := by decide +kernel
theorem dL_law_453 : decode cL_law 453 = .ok (.iconst 2, 1) := by decide +kernel
theorem dL_law_454 : decode cL_law 454 = .ok (.iadd, 1) := by decide +kernel
theorem dL_law_455 : decode cL_law 455 = .ok (.iaload, 1) := by decide +kernel
theorem dL_law_456 : decode cL_law 456 = .ok (.aload_n 0, 1) := by decide +kernel
theorem dL_law_457 : decode cL_law 457 = .ok (.iload_n 3, 1) := by decide +kernel
theorem dL_law_458 : decode cL_law 458 = .ok (.iconst 3, 1) := by decide +kernel
theorem dL_law_459 : decode cL_law 459 = .ok (.iadd, 1) := by decide +kernel
theorem dL_law_460 : decode cL_law 460 = .ok (.iaload, 1) := by decide +kernel
theorem dL_law_461 : decode cL_law 461 = .ok (.invokevirtual 52, 3) := by decide +kernel
theorem dL_law_464 : decode cL_law 464 = .ok (.if_icmp .eq 1045, 3) := by decide +kernel
theorem dL_law_467 : decode cL_law 467 = .ok (.iconst 0, 1) := by decide +kernel
theorem dL_law_468 : decode cL_law 468 = .ok (.ireturn, 1) := by decide +kernel
theorem dL_law_469 : decode cL_law 469 = .ok (.aload_n 1, 1) := by decide +kernel
theorem dL_law_470 : decode cL_law 470 = .ok (.aload_n 0, 1) := by decide +kernel
theorem dL_law_471 : decode cL_law 471 = .ok (.iload_n 3, 1) := by decide +kernel
theorem dL_law_472 : decode cL_law 472 = .ok (.iconst 1, 1) := by decide +kernel
theorem dL_law_473 : decode cL_law 473 = .ok (.iadd, 1) := by decide +kernel
theorem dL_law_474 : decode cL_law 474 = .ok (.iaload, 1) := by decide +kernel
theorem dL_law_475 : decode cL_law 475 = .ok (.invokevirtual 53, 3) := by decide +kernel
theorem dL_law_478 : decode cL_law 478 = .ok (.aload_n 2, 1) := by decide +kernel
theorem dL_law_479 : decode cL_law 479 = .ok (.aload_n 0, 1) := by decide +kernel
theorem dL_law_480 : decode cL_law 480 = .ok (.iload_n 3, 1) := by decide +kernel
theorem dL_law_481 : decode cL_law 481 = .ok (.iconst 1, 1) := by decide +kernel
theorem dL_law_482 : decode cL_law 482 = .ok (.iadd, 1) := by decide +kernel
theorem dL_law_483 : decode cL_law 483 = .ok (.iaload, 1) := by decide +kernel
theorem dL_law_484 : decode cL_law 484 = .ok (.invokevirtual 56, 3) := by decide +kernel
theorem dL_law_487 : decode cL_law 487 = .ok (.if_icmp .eq 1022, 3) := by decide +kernel
theorem dL_law_490 : decode cL_law 490 = .ok (.iconst 0, 1) := by decide +kernel
theorem dL_law_491 : decode cL_law 491 = .ok (.ireturn, 1) := by decide +kernel
theorem dL_law_492 : decode cL_law 492 = .ok (.aload_n 1, 1) := by decide +kernel
theorem dL_law_493 : decode cL_law 493 = .ok (.invokevirtual 57, 3) := by decide +kernel
theorem dL_law_496 : decode cL_law 496 = .ok (.aload_n 2, 1) := by decide +kernel
theorem dL_law_497 : decode cL_law 497 = .ok (.invokevirtual 60, 3) := by decide +kernel
theorem dL_law_500 : decode cL_law 500 = .ok (.if_icmp .eq 1009, 3) := by decide +kernel
theorem dL_law_503 : decode cL_law 503 = .ok (.iconst 0, 1) := by decide +kernel
theorem dL_law_504 : decode cL_law 504 = .ok (.ireturn, 1) := by decide +kernel
theorem dL_law_505 : decode cL_law 505 = .ok (.aload_n 1, 1) := by decide +kernel
theorem dL_law_506 : decode cL_law 506 = .ok (.aload_n 0, 1) := by decide +kernel
theorem dL_law_507 : decode cL_law 507 = .ok (.iload_n 3, 1) := by decide +kernel
theorem dL_law_508 : decode cL_law 508 = .ok (.iconst 1, 1) := by decide +kernel
theorem dL_law_509 : decode cL_law 509 = .ok (.iadd, 1) := by decide +kernel
theorem dL_law_510 : decode cL_law 510 = .ok (.iaload, 1) := by decide +kernel
theorem dL_law_511 : decode cL_law 511 = .ok (.aload_n 0, 1) := by decide +kernel
theorem dL_law_512 : decode cL_law 512 = .ok (.iload_n 3, 1) := by decide +kernel
theorem dL_law_513 : decode cL_law 513 = .ok (.iconst 2, 1) := by decide +kernel
theorem dL_law_514 : decode cL_law 514 = .ok (.iadd, 1) := by decide +kernel
theorem dL_law_515 : decode cL_law 515 = .ok (.iaload, 1) := by decide +kernel
theorem dL_law_516 : decode cL_law 516 = .ok (.invokevirtual 61, 3) := by decide +kernel
theorem dL_law_519 : decode cL_law 519 = .ok (.aload_n 2, 1) := by decide +kernel
theorem dL_law_520 : decode cL_law 520 = .ok (.aload_n 0, 1) := by decide +kernel
theorem dL_law_521 : decode cL_law 521 = .ok (.iload_n 3, 1) := by decide +kernel
theorem dL_law_522 : decode cL_law 522 = .ok (.iconst 1, 1) := by decide +kernel
theorem dL_law_523 : decode cL_law 523 = .ok (.iadd, 1) := by decide +kernel
theorem dL_law_524 : decode cL_law 524 = .ok (.iaload, 1) := by decide +kernel
theorem dL_law_525 : decode cL_law 525 = .ok (.aload_n 0, 1) := by decide +kernel
theorem dL_law_526 : decode cL_law 526 = .ok (.iload_n 3, 1) := by decide +kernel
theorem dL_law_527 : decode cL_law 527 = .ok (.iconst 2, 1) := by decide +kernel
theorem dL_law_528 : decode cL_law 528 = .ok (.iadd, 1) := by decide +kernel
theorem dL_law_529 : decode cL_law 529 = .ok (.iaload, 1) := by decide +kernel
theorem dL_law_530 : decode cL_law 530 = .ok (.invokevirtual 64, 3) := by decide +kernel
theorem dL_law_533 : decode cL_law 533 = .ok (.if_icmp .eq 976, 3) := by decide +kernel
theorem dL_law_536 : decode cL_law 536 = .ok (.iconst 0, 1) := by decide +kernel
theorem dL_law_537 : decode cL_law 537 = .ok (.ireturn, 1) := by decide +kernel
theorem dL_law_538 : decode cL_law 538 = .ok (.aload_n 1, 1) := by decide +kernel
theorem dL_law_539 : decode cL_law 539 = .ok (.aload_n 0, 1) := by decide +kernel
theorem dL_law_540 : decode cL_law 540 = .ok (.iload_n 3, 1) := by decide +kernel
theorem dL_law_541 : decode cL_law 541 = .ok (.iconst 1, 1) := by decide +kernel
theorem dL_law_542 : decode cL_law 542 = .ok (.iadd, 1) := by decide +kernel
theorem dL_law_543 : decode cL_law 543 = .ok (.iaload, 1) := by decide +kernel
theorem dL_law_544 : decode cL_law 544 = .ok (.aload_n 0, 1) := by decide +kernel
theorem dL_law_545 : decode cL_law 545 = .ok (.iload_n 3, 1) := by decide +kernel
theorem dL_law_546 : decode cL_law 546 = .ok (.iconst 2, 1) := by decide +kernel
theorem dL_law_547 : decode cL_law 547 = .ok (.iadd, 1) := by decide +kernel
theorem dL_law_548 : decode cL_law 548 = .ok (.iaload, 1) := by decide +kernel
theorem dL_law_549 : decode cL_law 549 = .ok (.invokevirtual 65, 3) := by decide +kernel
theorem dL_law_552 : decode cL_law 552 = .ok (.aload_n 2, 1) := by decide +kernel
theorem dL_law_553 : decode cL_law 553 = .ok (.aload_n 0, 1) := by decide +kernel
theorem dL_law_554 : decode cL_law 554 = .ok (.iload_n 3, 1) := by decide +kernel
theorem dL_law_555 : decode cL_law 555 = .ok (.iconst 1, 1) := by decide +kernel
theorem dL_law_556 : decode cL_law 556 = .ok (.iadd, 1) := by decide +kernel
theorem dL_law_557 : decode cL_law 557 = .ok (.iaload, 1) := by decide +kernel
theorem dL_law_558 : decode cL_law 558 = .ok (.aload_n 0, 1) := by decide +kernel
theorem dL_law_559 : decode cL_law 559 = .ok (.iload_n 3, 1) := by decide +kernel
theorem dL_law_560 : decode cL_law 560 = .ok (.iconst 2, 1) := by decide +kernel
theorem dL_law_561 : decode cL_law 561 = .ok (.iadd, 1) := by decide +kernel
theorem dL_law_562 : decode cL_law 562 = .ok (.iaload, 1) := by decide +kernel
theorem dL_law_563 : decode cL_law 563 = .ok (.invokevirtual 68, 3) := by decide +kernel
theorem dL_law_566 : decode cL_law 566 = .ok (.if_icmp .eq 943, 3) := by decide +kernel
theorem dL_law_569 : decode cL_law 569 = .ok (.iconst 0, 1) := by decide +kernel
theorem dL_law_570 : decode cL_law 570 = .ok (.ireturn, 1) := by decide +kernel
theorem dL_law_571 : decode cL_law 571 = .ok (.aload_n 1, 1) := by decide +kernel
theorem dL_law_572 : decode cL_law 572 = .ok (.aload_n 0, 1) := by decide +kernel
theorem dL_law_573 : decode cL_law 573 = .ok (.iload_n 3, 1) := by decide +kernel
theorem dL_law_574 : decode cL_law 574 = .ok (.iconst 1, 1) := by decide +kernel
theorem dL_law_575 : decode cL_law 575 = .ok (.iadd, 1) := by decide +kernel
theorem dL_law_576 : decode cL_law 576 = .ok (.iaload, 1) := by decide +kernel
theorem dL_law_577 : decode cL_law 577 = .ok (.aload_n 0, 1) := by decide +kernel
theorem dL_law_578 : decode cL_law 578 = .ok (.iload_n 3, 1) := by decide +kernel
theorem dL_law_579 : decode cL_law 579 = .ok (.iconst 2, 1) := by decide +kernel
theorem dL_law_580 : decode cL_law 580 = .ok (.iadd, 1) := by decide +kernel
theorem dL_law_581 : decode cL_law 581 = .ok (.iaload, 1) := by decide +kernel
theorem dL_law_582 : decode cL_law 582 = .ok (.invokevirtual 69, 3) := by decide +kernel
theorem dL_law_585 : decode cL_law 585 = .ok (.aload_n 2, 1) := by decide +kernel
theorem dL_law_586 : decode cL_law 586 = .ok (.aload_n 0, 1) := by decide +kernel
theorem dL_law_587 : decode cL_law 587 = .ok (.iload_n 3, 1) := by decide +kernel
theorem dL_law_588 : decode cL_law 588 = .ok (.iconst 1, 1) := by decide +kernel
theorem dL_law_589 : decode cL_law 589 = .ok (.iadd, 1) := by decide +kernel
theorem dL_law_590 : decode cL_law 590 = .ok (.iaload, 1) := by decide +kernel
theorem dL_law_591 : decode cL_law 591 = .ok (.aload_n 0, 1) := by decide +kernel
theorem dL_law_592 : decode cL_law 592 = .ok (.iload_n 3, 1) := by decide +kernel
theorem dL_law_593 : decode cL_law 593 = .ok (.iconst 2, 1) := by decide +kernel
theorem dL_law_594 : decode cL_law 594 = .ok (.iadd, 1) := by decide +kernel
theorem dL_law_595 : decode cL_law 595 = .ok (.iaload, 1) := by decide +kernel
theorem dL_law_596 : decode cL_law 596 = .ok (.invokevirtual 72, 3) := by decide +kernel
theorem dL_law_599 : decode cL_law 599 = .ok (.if_icmp .eq 910, 3) := by decide +kernel
theorem dL_law_602 : decode cL_law 602 = .ok (.iconst 0, 1) := by decide +kernel
theorem dL_law_603 : decode cL_law 603 = .ok (.ireturn, 1) := by decide +kernel
theorem dL_law_604 : decode cL_law 604 = .ok (.aload_n 1, 1) := by decide +kernel
theorem dL_law_605 : decode cL_law 605 = .ok (.aload_n 0, 1) := by decide +kernel
theorem dL_law_606 : decode cL_law 606 = .ok (.iload_n 3, 1) := by decide +kernel
theorem dL_law_607 : decode cL_law 607 = .ok (.iconst 1, 1) := by decide +kernel
theorem dL_law_608 : decode cL_law 608 = .ok (.iadd, 1) := by decide +kernel
theorem dL_law_609 : decode cL_law 609 = .ok (.iaload, 1) := by decide +kernel
theorem dL_law_610 : decode cL_law 610 = .ok (.aload_n 0, 1) := by decide +kernel
theorem dL_law_611 : decode cL_law 611 = .ok (.iload_n 3, 1) := by decide +kernel
theorem dL_law_612 : decode cL_law 612 = .ok (.iconst 2, 1) := by decide +kernel
theorem dL_law_613 : decode cL_law 613 = .ok (.iadd, 1) := by decide +kernel
theorem dL_law_614 : decode cL_law 614 = .ok (.iaload, 1) := by decide +kernel
theorem dL_law_615 : decode cL_law 615 = .ok (.invokevirtual 73, 3) := by decide +kernel
theorem dL_law_618 : decode cL_law 618 = .ok (.aload_n 2, 1) := by decide +kernel
theorem dL_law_619 : decode cL_law 619 = .ok (.aload_n 0, 1) := by decide +kernel
theorem dL_law_620 : decode cL_law 620 = .ok (.iload_n 3, 1) := by decide +kernel
theorem dL_law_621 : decode cL_law 621 = .ok (.iconst 1, 1) := by decide +kernel
theorem dL_law_622 : decode cL_law 622 = .ok (.iadd, 1) := by decide +kernel
theorem dL_law_623 : decode cL_law 623 = .ok (.iaload, 1) := by decide +kernel
theorem dL_law_624 : decode cL_law 624 = .ok (.aload_n 0, 1) := by decide +kernel
theorem dL_law_625 : decode cL_law 625 = .ok (.iload_n 3, 1) := by decide +kernel
theorem dL_law_626 : decode cL_law 626 = .ok (.iconst 2, 1) := by decide +kernel
theorem dL_law_627 : decode cL_law 627 = .ok (.iadd, 1) := by decide +kernel
theorem dL_law_628 : decode cL_law 628 = .ok (.iaload, 1) := by decide +kernel
theorem dL_law_629 : decode cL_law 629 = .ok (.invokevirtual 76, 3) := by decide +kernel
theorem dL_law_632 : decode cL_law 632 = .ok (.if_icmp .eq 877, 3) := by decide +kernel
theorem dL_law_635 : decode cL_law 635 = .ok (.iconst 0, 1) := by decide +kernel
theorem dL_law_636 : decode cL_law 636 = .ok (.ireturn, 1) := by decide +kernel
theorem dL_law_637 : decode cL_law 637 = .ok (.aload_n 1, 1) := by decide +kernel
theorem dL_law_638 : decode cL_law 638 = .ok (.aload_n 0, 1) := by decide +kernel
theorem dL_law_639 : decode cL_law 639 = .ok (.iload_n 3, 1) := by decide +kernel
theorem dL_law_640 : decode cL_law 640 = .ok (.iconst 1, 1) := by decide +kernel
theorem dL_law_641 : decode cL_law 641 = .ok (.iadd, 1) := by decide +kernel
theorem dL_law_642 : decode cL_law 642 = .ok (.iaload, 1) := by decide +kernel
theorem dL_law_643 : decode cL_law 643 = .ok (.aload_n 0, 1) := by decide +kernel
theorem dL_law_644 : decode cL_law 644 = .ok (.iload_n 3, 1) := by decide +kernel
theorem dL_law_645 : decode cL_law 645 = .ok (.iconst 2, 1) := by decide +kernel
theorem dL_law_646 : decode cL_law 646 = .ok (.iadd, 1) := by decide +kernel
theorem dL_law_647 : decode cL_law 647 = .ok (.iaload, 1) := by decide +kernel
theorem dL_law_648 : decode cL_law 648 = .ok (.invokevirtual 77, 3) := by decide +kernel
theorem dL_law_651 : decode cL_law 651 = .ok (.aload_n 2, 1) := by decide +kernel
theorem dL_law_652 : decode cL_law 652 = .ok (.aload_n 0, 1) := by decide +kernel
theorem dL_law_653 : decode cL_law 653 = .ok (.iload_n 3, 1) := by decide +kernel
theorem dL_law_654 : decode cL_law 654 = .ok (.iconst 1, 1) := by decide +kernel
theorem dL_law_655 : decode cL_law 655 = .ok (.iadd, 1) := by decide +kernel
theorem dL_law_656 : decode cL_law 656 = .ok (.iaload, 1) := by decide +kernel
theorem dL_law_657 : decode cL_law 657 = .ok (.aload_n 0, 1) := by decide +kernel
theorem dL_law_658 : decode cL_law 658 = .ok (.iload_n 3, 1) := by decide +kernel
theorem dL_law_659 : decode cL_law 659 = .ok (.iconst 2, 1) := by decide +kernel
theorem dL_law_660 : decode cL_law 660 = .ok (.iadd, 1) := by decide +kernel
theorem dL_law_661 : decode cL_law 661 = .ok (.iaload, 1) := by decide +kernel
theorem dL_law_662 : decode cL_law 662 = .ok (.invokevirtual 80, 3) := by decide +kernel
theorem dL_law_665 : decode cL_law 665 = .ok (.if_icmp .eq 844, 3) := by decide +kernel
theorem dL_law_668 : decode cL_law 668 = .ok (.iconst 0, 1) := by decide +kernel
theorem dL_law_669 : decode cL_law 669 = .ok (.ireturn, 1) := by decide +kernel
theorem dL_law_670 : decode cL_law 670 = .ok (.aload_n 1, 1) := by decide +kernel
theorem dL_law_671 : decode cL_law 671 = .ok (.aload_n 0, 1) := by decide +kernel
theorem dL_law_672 : decode cL_law 672 = .ok (.iload_n 3, 1) := by decide +kernel
theorem dL_law_673 : decode cL_law 673 = .ok (.iconst 1, 1) := by decide +kernel
theorem dL_law_674 : decode cL_law 674 = .ok (.iadd, 1) := by decide +kernel
theorem dL_law_675 : decode cL_law 675 = .ok (.iaload, 1) := by decide +kernel
theorem dL_law_676 : decode cL_law 676 = .ok (.aload_n 0, 1) := by decide +kernel
theorem dL_law_677 : decode cL_law 677 = .ok (.iload_n 3, 1) := by decide +kernel
theorem dL_law_678 : decode cL_law 678 = .ok (.iconst 2, 1) := by decide +kernel
theorem dL_law_679 : decode cL_law 679 = .ok (.iadd, 1) := by decide +kernel
theorem dL_law_680 : decode cL_law 680 = .ok (.iaload, 1) := by decide +kernel
theorem dL_law_681 : decode cL_law 681 = .ok (.aload_n 0, 1) := by decide +kernel
theorem dL_law_682 : decode cL_law 682 = .ok (.iload_n 3, 1) := by decide +kernel
theorem dL_law_683 : decode cL_law 683 = .ok (.iconst 3, 1) := by decide +kernel
theorem dL_law_684 : decode cL_law 684 = .ok (.iadd, 1) := by decide +kernel
theorem dL_law_685 : decode cL_law 685 = .ok (.iaload, 1) := by decide +kernel
theorem dL_law_686 : decode cL_law 686 = .ok (.aload_n 0, 1) := by decide +kernel
theorem dL_law_687 : decode cL_law 687 = .ok (.iload_n 3, 1) := by decide +kernel
theorem dL_law_688 : decode cL_law 688 = .ok (.iconst 4, 1) := by decide +kernel
theorem dL_law_689 : decode cL_law 689 = .ok (.iadd, 1) := by decide +kernel
theorem dL_law_690 : decode cL_law 690 = .ok (.iaload, 1) := by decide +kernel
theorem dL_law_691 : decode cL_law 691 = .ok (.invokevirtual 81, 3) := by decide +kernel
theorem dL_law_694 : decode cL_law 694 = .ok (.aload_n 2, 1) := by decide +kernel
theorem dL_law_695 : decode cL_law 695 = .ok (.aload_n 0, 1) := by decide +kernel
theorem dL_law_696 : decode cL_law 696 = .ok (.iload_n 3, 1) := by decide +kernel
theorem dL_law_697 : decode cL_law 697 = .ok (.iconst 1, 1) := by decide +kernel
theorem dL_law_698 : decode cL_law 698 = .ok (.iadd, 1) := by decide +kernel
theorem dL_law_699 : decode cL_law 699 = .ok (.iaload, 1) := by decide +kernel
theorem dL_law_700 : decode cL_law 700 = .ok (.aload_n 0, 1) := by decide +kernel
theorem dL_law_701 : decode cL_law 701 = .ok (.iload_n 3, 1) := by decide +kernel
theorem dL_law_702 : decode cL_law 702 = .ok (.iconst 2, 1) := by decide +kernel
theorem dL_law_703 : decode cL_law 703 = .ok (.iadd, 1) := by decide +kernel
theorem dL_law_704 : decode cL_law 704 = .ok (.iaload, 1) := by decide +kernel
theorem dL_law_705 : decode cL_law 705 = .ok (.aload_n 0, 1) := by decide +kernel
theorem dL_law_706 : decode cL_law 706 = .ok (.iload_n 3, 1) := by decide +kernel
theorem dL_law_707 : decode cL_law 707 = .ok (.iconst 3, 1) := by decide +kernel
theorem dL_law_708 : decode cL_law 708 = .ok (.iadd, 1) := by decide +kernel
theorem dL_law_709 : decode cL_law 709 = .ok (.iaload, 1) := by decide +kernel
theorem dL_law_710 : decode cL_law 710 = .ok (.aload_n 0, 1) := by decide +kernel
theorem dL_law_711 : decode cL_law 711 = .ok (.iload_n 3, 1) := by decide +kernel
theorem dL_law_712 : decode cL_law 712 = .ok (.iconst 4, 1) := by decide +kernel
theorem dL_law_713 : decode cL_law 713 = .ok (.iadd, 1) := by decide +kernel
theorem dL_law_714 : decode cL_law 714 = .ok (.iaload, 1) := by decide +kernel
theorem dL_law_715 : decode cL_law 715 = .ok (.invokevirtual 85, 3) := by decide +kernel
theorem dL_law_718 : decode cL_law 718 = .ok (.if_icmp .eq 791, 3) := by decide +kernel
theorem dL_law_721 : decode cL_law 721 = .ok (.iconst 0, 1) := by decide +kernel
theorem dL_law_722 : decode cL_law 722 = .ok (.ireturn, 1) := by decide +kernel
theorem dL_law_723 : decode cL_law 723 = .ok (.aload_n 1, 1) := by decide +kernel
theorem dL_law_724 : decode cL_law 724 = .ok (.aload_n 0, 1) := by decide +kernel
theorem dL_law_725 : decode cL_law 725 = .ok (.iload_n 3, 1) := by decide +kernel
theorem dL_law_726 : decode cL_law 726 = .ok (.iconst 1, 1) := by decide +kernel
theorem dL_law_727 : decode cL_law 727 = .ok (.iadd, 1) := by decide +kernel
theorem dL_law_728 : decode cL_law 728 = .ok (.iaload, 1) := by decide +kernel
theorem dL_law_729 : decode cL_law 729 = .ok (.aload_n 0, 1) := by decide +kernel
theorem dL_law_730 : decode cL_law 730 = .ok (.iload_n 3, 1) := by decide +kernel
theorem dL_law_731 : decode cL_law 731 = .ok (.iconst 2, 1) := by decide +kernel
theorem dL_law_732 : decode cL_law 732 = .ok (.iadd, 1) := by decide +kernel
theorem dL_law_733 : decode cL_law 733 = .ok (.iaload, 1) := by decide +kernel
theorem dL_law_734 : decode cL_law 734 = .ok (.aload_n 0, 1) := by decide +kernel
theorem dL_law_735 : decode cL_law 735 = .ok (.iload_n 3, 1) := by decide +kernel
theorem dL_law_736 : decode cL_law 736 = .ok (.iconst 3, 1) := by decide +kernel
theorem dL_law_737 : decode cL_law 737 = .ok (.iadd, 1) := by decide +kernel
theorem dL_law_738 : decode cL_law 738 = .ok (.iaload, 1) := by decide +kernel
theorem dL_law_739 : decode cL_law 739 = .ok (.invokevirtual 86, 3) := by decide +kernel
theorem dL_law_742 : decode cL_law 742 = .ok (.aload_n 2, 1) := by decide +kernel
theorem dL_law_743 : decode cL_law 743 = .ok (.aload_n 0, 1) := by decide +kernel
theorem dL_law_744 : decode cL_law 744 = .ok (.iload_n 3, 1) := by decide +kernel
theorem dL_law_745 : decode cL_law 745 = .ok (.iconst 1, 1) := by decide +kernel
theorem dL_law_746 : decode cL_law 746 = .ok (.iadd, 1) := by decide +kernel
theorem dL_law_747 : decode cL_law 747 = .ok (.iaload, 1) := by decide +kernel
theorem dL_law_748 : decode cL_law 748 = .ok (.aload_n 0, 1) := by decide +kernel
theorem dL_law_749 : decode cL_law 749 = .ok (.iload_n 3, 1) := by decide +kernel
theorem dL_law_750 : decode cL_law 750 = .ok (.iconst 2, 1) := by decide +kernel
theorem dL_law_751 : decode cL_law 751 = .ok (.iadd, 1) := by decide +kernel
theorem dL_law_752 : decode cL_law 752 = .ok (.iaload, 1) := by decide +kernel
theorem dL_law_753 : decode cL_law 753 = .ok (.aload_n 0, 1) := by decide +kernel
theorem dL_law_754 : decode cL_law 754 = .ok (.iload_n 3, 1) := by decide +kernel
theorem dL_law_755 : decode cL_law 755 = .ok (.iconst 3, 1) := by decide +kernel
theorem dL_law_756 : decode cL_law 756 = .ok (.iadd, 1) := by decide +kernel
theorem dL_law_757 : decode cL_law 757 = .ok (.iaload, 1) := by decide +kernel
theorem dL_law_758 : decode cL_law 758 = .ok (.invokevirtual 89, 3) := by decide +kernel
theorem dL_law_761 : decode cL_law 761 = .ok (.if_icmp .eq 748, 3) := by decide +kernel
theorem dL_law_764 : decode cL_law 764 = .ok (.iconst 0, 1) := by decide +kernel
theorem dL_law_765 : decode cL_law 765 = .ok (.ireturn, 1) := by decide +kernel
theorem dL_law_766 : decode cL_law 766 = .ok (.aload_n 1, 1) := by decide +kernel
theorem dL_law_767 : decode cL_law 767 = .ok (.aload_n 0, 1) := by decide +kernel
theorem dL_law_768 : decode cL_law 768 = .ok (.iload_n 3, 1) := by decide +kernel
theorem dL_law_769 : decode cL_law 769 = .ok (.iconst 1, 1) := by decide +kernel
theorem dL_law_770 : decode cL_law 770 = .ok (.iadd, 1) := by decide +kernel
theorem dL_law_771 : decode cL_law 771 = .ok (.iaload, 1) := by decide +kernel
theorem dL_law_772 : decode cL_law 772 = .ok (.aload_n 0, 1) := by decide +kernel
theorem dL_law_773 : decode cL_law 773 = .ok (.iload_n 3, 1) := by decide +kernel
theorem dL_law_774 : decode cL_law 774 = .ok (.iconst 2, 1) := by decide +kernel
theorem dL_law_775 : decode cL_law 775 = .ok (.iadd, 1) := by decide +kernel
theorem dL_law_776 : decode cL_law 776 = .ok (.iaload, 1) := by decide +kernel
theorem dL_law_777 : decode cL_law 777 = .ok (.invokevirtual 90, 3) := by decide +kernel
theorem dL_law_780 : decode cL_law 780 = .ok (.aload_n 2, 1) := by decide +kernel
theorem dL_law_781 : decode cL_law 781 = .ok (.aload_n 0, 1) := by decide +kernel
theorem dL_law_782 : decode cL_law 782 = .ok (.iload_n 3, 1) := by decide +kernel
theorem dL_law_783 : decode cL_law 783 = .ok (.iconst 1, 1) := by decide +kernel
theorem dL_law_784 : decode cL_law 784 = .ok (.iadd, 1) := by decide +kernel
theorem dL_law_785 : decode cL_law 785 = .ok (.iaload, 1) := by decide +kernel
theorem dL_law_786 : decode cL_law 786 = .ok (.aload_n 0, 1) := by decide +kernel
theorem dL_law_787 : decode cL_law 787 = .ok (.iload_n 3, 1) := by decide +kernel
theorem dL_law_788 : decode cL_law 788 = .ok (.iconst 2, 1) := by decide +kernel
theorem dL_law_789 : decode cL_law 789 = .ok (.iadd, 1) := by decide +kernel
theorem dL_law_790 : decode cL_law 790 = .ok (.iaload, 1) := by decide +kernel
theorem dL_law_791 : decode cL_law 791 = .ok (.invokevirtual 93, 3) := by decide +kernel
theorem dL_law_794 : decode cL_law 794 = .ok (.if_icmp .eq 715, 3) := by decide +kernel
theorem dL_law_797 : decode cL_law 797 = .ok (.iconst 0, 1) := by decide +kernel
theorem dL_law_798 : decode cL_law 798 = .ok (.ireturn, 1) := by decide +kernel
theorem dL_law_799 : decode cL_law 799 = .ok (.aload_n 1, 1) := by decide +kernel
theorem dL_law_800 : decode cL_law 800 = .ok (.aload_n 0, 1) := by decide +kernel
theorem dL_law_801 : decode cL_law 801 = .ok (.iload_n 3, 1) := by decide +kernel
theorem dL_law_802 : decode cL_law 802 = .ok (.iconst 1, 1) := by decide +kernel
theorem dL_law_803 : decode cL_law 803 = .ok (.iadd, 1) := by decide +kernel
theorem dL_law_804 : decode cL_law 804 = .ok (.iaload, 1) := by decide +kernel
theorem dL_law_805 : decode cL_law 805 = .ok (.aload_n 0, 1) := by decide +kernel
theorem dL_law_806 : decode cL_law 806 = .ok (.iload_n 3, 1) := by decide +kernel
theorem dL_law_807 : decode cL_law 807 = .ok (.iconst 2, 1) := by decide +kernel
theorem dL_law_808 : decode cL_law 808 = .ok (.iadd, 1) := by decide +kernel
theorem dL_law_809 : decode cL_law 809 = .ok (.iaload, 1) := by decide +kernel
theorem dL_law_810 : decode cL_law 810 = .ok (.invokevirtual 94, 3) := by decide +kernel
theorem dL_law_813 : decode cL_law 813 = .ok (.aload_n 2, 1) := by decide +kernel
theorem dL_law_814 : decode cL_law 814 = .ok (.aload_n 0, 1) := by decide +kernel
theorem dL_law_815 : decode cL_law 815 = .ok (.iload_n 3, 1) := by decide +kernel
theorem dL_law_816 : decode cL_law 816 = .ok (.iconst 1, 1) := by decide +kernel
theorem dL_law_817 : decode cL_law 817 = .ok (.iadd, 1) := by decide +kernel
theorem dL_law_818 : decode cL_law 818 = .ok (.iaload, 1) := by decide +kernel
theorem dL_law_819 : decode cL_law 819 = .ok (.aload_n 0, 1) := by decide +kernel
theorem dL_law_820 : decode cL_law 820 = .ok (.iload_n 3, 1) := by decide +kernel
theorem dL_law_821 : decode cL_law 821 = .ok (.iconst 2, 1) := by decide +kernel
theorem dL_law_822 : decode cL_law 822 = .ok (.iadd, 1) := by decide +kernel
theorem dL_law_823 : decode cL_law 823 = .ok (.iaload, 1) := by decide +kernel
theorem dL_law_824 : decode cL_law 824 = .ok (.invokevirtual 97, 3) := by decide +kernel
theorem dL_law_827 : decode cL_law 827 = .ok (.if_icmp .eq 682, 3) := by decide +kernel
theorem dL_law_830 : decode cL_law 830 = .ok (.iconst 0, 1) := by decide +kernel
theorem dL_law_831 : decode cL_law 831 = .ok (.ireturn, 1) := by decide +kernel
theorem dL_law_832 : decode cL_law 832 = .ok (.aload_n 1, 1) := by decide +kernel
theorem dL_law_833 : decode cL_law 833 = .ok (.aload_n 0, 1) := by decide +kernel
theorem dL_law_834 : decode cL_law 834 = .ok (.iload_n 3, 1) := by decide +kernel
theorem dL_law_835 : decode cL_law 835 = .ok (.iconst 1, 1) := by decide +kernel
theorem dL_law_836 : decode cL_law 836 = .ok (.iadd, 1) := by decide +kernel
theorem dL_law_837 : decode cL_law 837 = .ok (.iaload, 1) := by decide +kernel
theorem dL_law_838 : decode cL_law 838 = .ok (.invokevirtual 98, 3) := by decide +kernel
theorem dL_law_841 : decode cL_law 841 = .ok (.aload_n 2, 1) := by decide +kernel
theorem dL_law_842 : decode cL_law 842 = .ok (.aload_n 0, 1) := by decide +kernel
theorem dL_law_843 : decode cL_law 843 = .ok (.iload_n 3, 1) := by decide +kernel
theorem dL_law_844 : decode cL_law 844 = .ok (.iconst 1, 1) := by decide +kernel
theorem dL_law_845 : decode cL_law 845 = .ok (.iadd, 1) := by decide +kernel
theorem dL_law_846 : decode cL_law 846 = .ok (.iaload, 1) := by decide +kernel
theorem dL_law_847 : decode cL_law 847 = .ok (.invokevirtual 101, 3) := by decide +kernel
theorem dL_law_850 : decode cL_law 850 = .ok (.if_icmp .eq 659, 3) := by decide +kernel
theorem dL_law_853 : decode cL_law 853 = .ok (.iconst 0, 1) := by decide +kernel
theorem dL_law_854 : decode cL_law 854 = .ok (.ireturn, 1) := by decide +kernel
theorem dL_law_855 : decode cL_law 855 = .ok (.aload_n 1, 1) := by decide +kernel
theorem dL_law_856 : decode cL_law 856 = .ok (.aload_n 0, 1) := by decide +kernel
theorem dL_law_857 : decode cL_law 857 = .ok (.iload_n 3, 1) := by decide +kernel
theorem dL_law_858 : decode cL_law 858 = .ok (.iconst 1, 1) := by decide +kernel
theorem dL_law_859 : decode cL_law 859 = .ok (.iadd, 1) := by decide +kernel
theorem dL_law_860 : decode cL_law 860 = .ok (.iaload, 1) := by decide +kernel
theorem dL_law_861 : decode cL_law 861 = .ok (.aload_n 0, 1) := by decide +kernel
theorem dL_law_862 : decode cL_law 862 = .ok (.iload_n 3, 1) := by decide +kernel
theorem dL_law_863 : decode cL_law 863 = .ok (.iconst 2, 1) := by decide +kernel
theorem dL_law_864 : decode cL_law 864 = .ok (.iadd, 1) := by decide +kernel
theorem dL_law_865 : decode cL_law 865 = .ok (.iaload, 1) := by decide +kernel
theorem dL_law_866 : decode cL_law 866 = .ok (.aload_n 0, 1) := by decide +kernel
theorem dL_law_867 : decode cL_law 867 = .ok (.iload_n 3, 1) := by decide +kernel
theorem dL_law_868 : decode cL_law 868 = .ok (.iconst 3, 1) := by decide +kernel
theorem dL_law_869 : decode cL_law 869 = .ok (.iadd, 1) := by decide +kernel
theorem dL_law_870 : decode cL_law 870 = .ok (.iaload, 1) := by decide +kernel
theorem dL_law_871 : decode cL_law 871 = .ok (.aload_n 0, 1) := by decide +kernel
theorem dL_law_872 : decode cL_law 872 = .ok (.iload_n 3, 1) := by decide +kernel
theorem dL_law_873 : decode cL_law 873 = .ok (.iconst 4, 1) := by decide +kernel
theorem dL_law_874 : decode cL_law 874 = .ok (.iadd, 1) := by decide +kernel
theorem dL_law_875 : decode cL_law 875 = .ok (.iaload, 1) := by decide +kernel
theorem dL_law_876 : decode cL_law 876 = .ok (.invokevirtual 102, 3) := by decide +kernel
theorem dL_law_879 : decode cL_law 879 = .ok (.aload_n 2, 1) := by decide +kernel
theorem dL_law_880 : decode cL_law 880 = .ok (.aload_n 0, 1) := by decide +kernel
theorem dL_law_881 : decode cL_law 881 = .ok (.iload_n 3, 1) := by decide +kernel
theorem dL_law_882 : decode cL_law 882 = .ok (.iconst 1, 1) := by decide +kernel
theorem dL_law_883 : decode cL_law 883 = .ok (.iadd, 1) := by decide +kernel
theorem dL_law_884 : decode cL_law 884 = .ok (.iaload, 1) := by decide +kernel
theorem dL_law_885 : decode cL_law 885 = .ok (.aload_n 0, 1) := by decide +kernel
theorem dL_law_886 : decode cL_law 886 = .ok (.iload_n 3, 1) := by decide +kernel
theorem dL_law_887 : decode cL_law 887 = .ok (.iconst 2, 1) := by decide +kernel
theorem dL_law_888 : decode cL_law 888 = .ok (.iadd, 1) := by decide +kernel
theorem dL_law_889 : decode cL_law 889 = .ok (.iaload, 1) := by decide +kernel
theorem dL_law_890 : decode cL_law 890 = .ok (.aload_n 0, 1) := by decide +kernel
theorem dL_law_891 : decode cL_law 891 = .ok (.iload_n 3, 1) := by decide +kernel
theorem dL_law_892 : decode cL_law 892 = .ok (.iconst 3, 1) := by decide +kernel
theorem dL_law_893 : decode cL_law 893 = .ok (.iadd, 1) := by decide +kernel
theorem dL_law_894 : decode cL_law 894 = .ok (.iaload, 1) := by decide +kernel
theorem dL_law_895 : decode cL_law 895 = .ok (.aload_n 0, 1) := by decide +kernel
theorem dL_law_896 : decode cL_law 896 = .ok (.iload_n 3, 1) := by decide +kernel
theorem dL_law_897 : decode cL_law 897 = .ok (.iconst 4, 1) := by decide +kernel
theorem dL_law_898 : decode cL_law 898 = .ok (.iadd, 1) := by decide +kernel
theorem dL_law_899 : decode cL_law 899 = .ok (.iaload, 1) := by decide +kernel
theorem dL_law_900 : decode cL_law 900 = .ok (.invokevirtual 105, 3) := by decide +kernel
theorem dL_law_903 : decode cL_law 903 = .ok (.if_icmp .eq 606, 3) := by decide +kernel
theorem dL_law_906 : decode cL_law 906 = .ok (.iconst 0, 1) := by decide +kernel
theorem dL_law_907 : decode cL_law 907 = .ok (.ireturn, 1) := by decide +kernel
theorem dL_law_908 : decode cL_law 908 = .ok (.aload_n 1, 1) := by decide +kernel
theorem dL_law_909 : decode cL_law 909 = .ok (.aload_n 0, 1) := by decide +kernel
theorem dL_law_910 : decode cL_law 910 = .ok (.iload_n 3, 1) := by decide +kernel
theorem dL_law_911 : decode cL_law 911 = .ok (.iconst 1, 1) := by decide +kernel
theorem dL_law_912 : decode cL_law 912 = .ok (.iadd, 1) := by decide +kernel
theorem dL_law_913 : decode cL_law 913 = .ok (.iaload, 1) := by decide +kernel
theorem dL_law_914 : decode cL_law 914 = .ok (.invokevirtual 106, 3) := by decide +kernel
theorem dL_law_917 : decode cL_law 917 = .ok (.aload_n 2, 1) := by decide +kernel
theorem dL_law_918 : decode cL_law 918 = .ok (.aload_n 0, 1) := by decide +kernel
theorem dL_law_919 : decode cL_law 919 = .ok (.iload_n 3, 1) := by decide +kernel
theorem dL_law_920 : decode cL_law 920 = .ok (.iconst 1, 1) := by decide +kernel
theorem dL_law_921 : decode cL_law 921 = .ok (.iadd, 1) := by decide +kernel
theorem dL_law_922 : decode cL_law 922 = .ok (.iaload, 1) := by decide +kernel
theorem dL_law_923 : decode cL_law 923 = .ok (.invokevirtual 109, 3) := by decide +kernel
theorem dL_law_926 : decode cL_law 926 = .ok (.if_icmp .eq 583, 3) := by decide +kernel
theorem dL_law_929 : decode cL_law 929 = .ok (.iconst 0, 1) := by decide +kernel
theorem dL_law_930 : decode cL_law 930 = .ok (.ireturn, 1) := by decide +kernel
theorem dL_law_931 : decode cL_law 931 = .ok (.aload_n 1, 1) := by decide +kernel
theorem dL_law_932 : decode cL_law 932 = .ok (.aload_n 0, 1) := by decide +kernel
theorem dL_law_933 : decode cL_law 933 = .ok (.iload_n 3, 1) := by decide +kernel
theorem dL_law_934 : decode cL_law 934 = .ok (.iconst 1, 1) := by decide +kernel
theorem dL_law_935 : decode cL_law 935 = .ok (.iadd, 1) := by decide +kernel
theorem dL_law_936 : decode cL_law 936 = .ok (.iaload, 1) := by decide +kernel
theorem dL_law_937 : decode cL_law 937 = .ok (.invokevirtual 110, 3) := by decide +kernel
theorem dL_law_940 : decode cL_law 940 = .ok (.aload_n 2, 1) := by decide +kernel
theorem dL_law_941 : decode cL_law 941 = .ok (.aload_n 0, 1) := by decide +kernel
theorem dL_law_942 : decode cL_law 942 = .ok (.iload_n 3, 1) := by decide +kernel
theorem dL_law_943 : decode cL_law 943 = .ok (.iconst 1, 1) := by decide +kernel
theorem dL_law_944 : decode cL_law 944 = .ok (.iadd, 1) := by decide +kernel
theorem dL_law_945 : decode cL_law 945 = .ok (.iaload, 1) := by decide +kernel
theorem dL_law_946 : decode cL_law 946 = .ok (.invokevirtual 113, 3) := by decide +kernel
theorem dL_law_949 : decode cL_law 949 = .ok (.if_icmp .eq 560, 3) := by decide +kernel
theorem dL_law_952 : decode cL_law 952 = .ok (.iconst 0, 1) := by decide +kernel
theorem dL_law_953 : decode cL_law 953 = .ok (.ireturn, 1) := by decide +kernel
theorem dL_law_954 : decode cL_law 954 = .ok (.aload_n 1, 1) := by decide +kernel
theorem dL_law_955 : decode cL_law 955 = .ok (.aload_n 0, 1) := by decide +kernel
theorem dL_law_956 : decode cL_law 956 = .ok (.iload_n 3, 1) := by decide +kernel
theorem dL_law_957 : decode cL_law 957 = .ok (.iconst 1, 1) := by decide +kernel
theorem dL_law_958 : decode cL_law 958 = .ok (.iadd, 1) := by decide +kernel
theorem dL_law_959 : decode cL_law 959 = .ok (.iaload, 1) := by decide +kernel
theorem dL_law_960 : decode cL_law 960 = .ok (.aload_n 0, 1) := by decide +kernel
theorem dL_law_961 : decode cL_law 961 = .ok (.iload_n 3, 1) := by decide +kernel
theorem dL_law_962 : decode cL_law 962 = .ok (.iconst 2, 1) := by decide +kernel
theorem dL_law_963 : decode cL_law 963 = .ok (.iadd, 1) := by decide +kernel
theorem dL_law_964 : decode cL_law 964 = .ok (.iaload, 1) := by decide +kernel
theorem dL_law_965 : decode cL_law 965 = .ok (.aload_n 0, 1) := by decide +kernel
theorem dL_law_966 : decode cL_law 966 = .ok (.iload_n 3, 1) := by decide +kernel
theorem dL_law_967 : decode cL_law 967 = .ok (.iconst 3, 1) := by decide +kernel
theorem dL_law_968 : decode cL_law 968 = .ok (.iadd, 1) := by decide +kernel
theorem dL_law_969 : decode cL_law 969 = .ok (.iaload, 1) := by decide +kernel
theorem dL_law_970 : decode cL_law 970 = .ok (.aload_n 0, 1) := by decide +kernel
theorem dL_law_971 : decode cL_law 971 = .ok (.iload_n 3, 1) := by decide +kernel
theorem dL_law_972 : decode cL_law 972 = .ok (.iconst 4, 1) := by decide +kernel
theorem dL_law_973 : decode cL_law 973 = .ok (.iadd, 1) := by decide +kernel
theorem dL_law_974 : decode cL_law 974 = .ok (.iaload, 1) := by decide +kernel
theorem dL_law_975 : decode cL_law 975 = .ok (.aload_n 0, 1) := by decide +kernel
theorem dL_law_976 : decode cL_law 976 = .ok (.iload_n 3, 1) := by decide +kernel
theorem dL_law_977 : decode cL_law 977 = .ok (.iconst 5, 1) := by decide +kernel
theorem dL_law_978 : decode cL_law 978 = .ok (.iadd, 1) := by decide +kernel
theorem dL_law_979 : decode cL_law 979 = .ok (.iaload, 1) := by decide +kernel
theorem dL_law_980 : decode cL_law 980 = .ok (.aload_n 0, 1) := by decide +kernel
theorem dL_law_981 : decode cL_law 981 = .ok (.iload_n 3, 1) := by decide +kernel
theorem dL_law_982 : decode cL_law 982 = .ok (.bipush 6, 2) := by decide +kernel
theorem dL_law_984 : decode cL_law 984 = .ok (.iadd, 1) := by decide +kernel
theorem dL_law_985 : decode cL_law 985 = .ok (.iaload, 1) := by decide +kernel
theorem dL_law_986 : decode cL_law 986 = .ok (.invokevirtual 114, 3) := by decide +kernel
theorem dL_law_989 : decode cL_law 989 = .ok (.aload_n 2, 1) := by decide +kernel
theorem dL_law_990 : decode cL_law 990 = .ok (.aload_n 0, 1) := by decide +kernel
theorem dL_law_991 : decode cL_law 991 = .ok (.iload_n 3, 1) := by decide +kernel
theorem dL_law_992 : decode cL_law 992 = .ok (.iconst 1, 1) := by decide +kernel
theorem dL_law_993 : decode cL_law 993 = .ok (.iadd, 1) := by decide +kernel
theorem dL_law_994 : decode cL_law 994 = .ok (.iaload, 1) := by decide +kernel
theorem dL_law_995 : decode cL_law 995 = .ok (.aload_n 0, 1) := by decide +kernel
theorem dL_law_996 : decode cL_law 996 = .ok (.iload_n 3, 1) := by decide +kernel
theorem dL_law_997 : decode cL_law 997 = .ok (.iconst 2, 1) := by decide +kernel
theorem dL_law_998 : decode cL_law 998 = .ok (.iadd, 1) := by decide +kernel
theorem dL_law_999 : decode cL_law 999 = .ok (.iaload, 1) := by decide +kernel
theorem dL_law_1000 : decode cL_law 1000 = .ok (.aload_n 0, 1) := by decide +kernel
theorem dL_law_1001 : decode cL_law 1001 = .ok (.iload_n 3, 1) := by decide +kernel
theorem dL_law_1002 : decode cL_law 1002 = .ok (.iconst 3, 1) := by decide +kernel
theorem dL_law_1003 : decode cL_law 1003 = .ok (.iadd, 1) := by decide +kernel
theorem dL_law_1004 : decode cL_law 1004 = .ok (.iaload, 1) := by decide +kernel
theorem dL_law_1005 : decode cL_law 1005 = .ok (.aload_n 0, 1) := by decide +kernel
theorem dL_law_1006 : decode cL_law 1006 = .ok (.iload_n 3, 1) := by decide +kernel
theorem dL_law_1007 : decode cL_law 1007 = .ok (.iconst 4, 1) := by decide +kernel
theorem dL_law_1008 : decode cL_law 1008 = .ok (.iadd, 1) := by decide +kernel
theorem dL_law_1009 : decode cL_law 1009 = .ok (.iaload, 1) := by decide +kernel
theorem dL_law_1010 : decode cL_law 1010 = .ok (.aload_n 0, 1) := by decide +kernel
theorem dL_law_1011 : decode cL_law 1011 = .ok (.iload_n 3, 1) := by decide +kernel
theorem dL_law_1012 : decode cL_law 1012 = .ok (.iconst 5, 1) := by decide +kernel
theorem dL_law_1013 : decode cL_law 1013 = .ok (.iadd, 1) := by decide +kernel
theorem dL_law_1014 : decode cL_law 1014 = .ok (.iaload, 1) := by decide +kernel
theorem dL_law_1015 : decode cL_law 1015 = .ok (.aload_n 0, 1) := by decide +kernel
theorem dL_law_1016 : decode cL_law 1016 = .ok (.iload_n 3, 1) := by decide +kernel
theorem dL_law_1017 : decode cL_law 1017 = .ok (.bipush 6, 2) := by decide +kernel
theorem dL_law_1019 : decode cL_law 1019 = .ok (.iadd, 1) := by decide +kernel
theorem dL_law_1020 : decode cL_law 1020 = .ok (.iaload, 1) := by decide +kernel
theorem dL_law_1021 : decode cL_law 1021 = .ok (.invokevirtual 118, 3) := by decide +kernel
theorem dL_law_1024 : decode cL_law 1024 = .ok (.if_icmp .eq 485, 3) := by decide +kernel
theorem dL_law_1027 : decode cL_law 1027 = .ok (.iconst 0, 1) := by decide +kernel
theorem dL_law_1028 : decode cL_law 1028 = .ok (.ireturn, 1) := by decide +kernel
theorem dL_law_1029 : decode cL_law 1029 = .ok (.aload_n 1, 1) := by decide +kernel
theorem dL_law_1030 : decode cL_law 1030 = .ok (.aload_n 0, 1) := by decide +kernel
theorem dL_law_1031 : decode cL_law 1031 = .ok (.iload_n 3, 1) := by decide +kernel
theorem dL_law_1032 : decode cL_law 1032 = .ok (.iconst 1, 1) := by decide +kernel
theorem dL_law_1033 : decode cL_law 1033 = .ok (.iadd, 1) := by decide +kernel
theorem dL_law_1034 : decode cL_law 1034 = .ok (.iaload, 1) := by decide +kernel
theorem dL_law_1035 : decode cL_law 1035 = .ok (.aload_n 0, 1) := by decide +kernel
theorem dL_law_1036 : decode cL_law 1036 = .ok (.iload_n 3, 1) := by decide +kernel
theorem dL_law_1037 : decode cL_law 1037 = .ok (.iconst 2, 1) := by decide +kernel
theorem dL_law_1038 : decode cL_law 1038 = .ok (.iadd, 1) := by decide +kernel
theorem dL_law_1039 : decode cL_law 1039 = .ok (.iaload, 1) := by decide +kernel
theorem dL_law_1040 : decode cL_law 1040 = .ok (.aload_n 0, 1) := by decide +kernel
theorem dL_law_1041 : decode cL_law 1041 = .ok (.iload_n 3, 1) := by decide +kernel
theorem dL_law_1042 : decode cL_law 1042 = .ok (.iconst 3, 1) := by decide +kernel
theorem dL_law_1043 : decode cL_law 1043 = .ok (.iadd, 1) := by decide +kernel
theorem dL_law_1044 : decode cL_law 1044 = .ok (.iaload, 1) := by decide +kernel
theorem dL_law_1045 : decode cL_law 1045 = .ok (.aload_n 0, 1) := by decide +kernel
theorem dL_law_1046 : decode cL_law 1046 = .ok (.iload_n 3, 1) := by decide +kernel
theorem dL_law_1047 : decode cL_law 1047 = .ok (.iconst 4, 1) := by decide +kernel
theorem dL_law_1048 : decode cL_law 1048 = .ok (.iadd, 1) := by decide +kernel
theorem dL_law_1049 : decode cL_law 1049 = .ok (.iaload, 1) := by decide +kernel
theorem dL_law_1050 : decode cL_law 1050 = .ok (.aload_n 0, 1) := by decide +kernel
theorem dL_law_1051 : decode cL_law 1051 = .ok (.iload_n 3, 1) := by decide +kernel
theorem dL_law_1052 : decode cL_law 1052 = .ok (.iconst 5, 1) := by decide +kernel
theorem dL_law_1053 : decode cL_law 1053 = .ok (.iadd, 1) := by decide +kernel
theorem dL_law_1054 : decode cL_law 1054 = .ok (.iaload, 1) := by decide +kernel
theorem dL_law_1055 : decode cL_law 1055 = .ok (.invokevirtual 119, 3) := by decide +kernel
theorem dL_law_1058 : decode cL_law 1058 = .ok (.aload_n 2, 1) := by decide +kernel
theorem dL_law_1059 : decode cL_law 1059 = .ok (.aload_n 0, 1) := by decide +kernel
theorem dL_law_1060 : decode cL_law 1060 = .ok (.iload_n 3, 1) := by decide +kernel
theorem dL_law_1061 : decode cL_law 1061 = .ok (.iconst 1, 1) := by decide +kernel
theorem dL_law_1062 : decode cL_law 1062 = .ok (.iadd, 1) := by decide +kernel
theorem dL_law_1063 : decode cL_law 1063 = .ok (.iaload, 1) := by decide +kernel
theorem dL_law_1064 : decode cL_law 1064 = .ok (.aload_n 0, 1) := by decide +kernel
theorem dL_law_1065 : decode cL_law 1065 = .ok (.iload_n 3, 1) := by decide +kernel
theorem dL_law_1066 : decode cL_law 1066 = .ok (.iconst 2, 1) := by decide +kernel
theorem dL_law_1067 : decode cL_law 1067 = .ok (.iadd, 1) := by decide +kernel
theorem dL_law_1068 : decode cL_law 1068 = .ok (.iaload, 1) := by decide +kernel
theorem dL_law_1069 : decode cL_law 1069 = .ok (.aload_n 0, 1) := by decide +kernel
theorem dL_law_1070 : decode cL_law 1070 = .ok (.iload_n 3, 1) := by decide +kernel
theorem dL_law_1071 : decode cL_law 1071 = .ok (.iconst 3, 1) := by decide +kernel
theorem dL_law_1072 : decode cL_law 1072 = .ok (.iadd, 1) := by decide +kernel
theorem dL_law_1073 : decode cL_law 1073 = .ok (.iaload, 1) := by decide +kernel
theorem dL_law_1074 : decode cL_law 1074 = .ok (.aload_n 0, 1) := by decide +kernel
theorem dL_law_1075 : decode cL_law 1075 = .ok (.iload_n 3, 1) := by decide +kernel
theorem dL_law_1076 : decode cL_law 1076 = .ok (.iconst 4, 1) := by decide +kernel
theorem dL_law_1077 : decode cL_law 1077 = .ok (.iadd, 1) := by decide +kernel
theorem dL_law_1078 : decode cL_law 1078 = .ok (.iaload, 1) := by decide +kernel
theorem dL_law_1079 : decode cL_law 1079 = .ok (.aload_n 0, 1) := by decide +kernel
theorem dL_law_1080 : decode cL_law 1080 = .ok (.iload_n 3, 1) := by decide +kernel
theorem dL_law_1081 : decode cL_law 1081 = .ok (.iconst 5, 1) := by decide +kernel
theorem dL_law_1082 : decode cL_law 1082 = .ok (.iadd, 1) := by decide +kernel
theorem dL_law_1083 : decode cL_law 1083 = .ok (.iaload, 1) := by decide +kernel
theorem dL_law_1084 : decode cL_law 1084 = .ok (.invokevirtual 123, 3) := by decide +kernel
theorem dL_law_1087 : decode cL_law 1087 = .ok (.if_icmp .eq 422, 3) := by decide +kernel
theorem dL_law_1090 : decode cL_law 1090 = .ok (.iconst 0, 1) := by decide +kernel
theorem dL_law_1091 : decode cL_law 1091 = .ok (.ireturn, 1) := by decide +kernel
theorem dL_law_1092 : decode cL_law 1092 = .ok (.aload_n 1, 1) := by decide +kernel
theorem dL_law_1093 : decode cL_law 1093 = .ok (.aload_n 0, 1) := by decide +kernel
theorem dL_law_1094 : decode cL_law 1094 = .ok (.iload_n 3, 1) := by decide +kernel
theorem dL_law_1095 : decode cL_law 1095 = .ok (.iconst 1, 1) := by decide +kernel
theorem dL_law_1096 : decode cL_law 1096 = .ok (.iadd, 1) := by decide +kernel
theorem dL_law_1097 : decode cL_law 1097 = .ok (.iaload, 1) := by decide +kernel
theorem dL_law_1098 : decode cL_law 1098 = .ok (.invokevirtual 124, 3) := by decide +kernel
theorem dL_law_1101 : decode cL_law 1101 = .ok (.aload_n 2, 1) := by decide +kernel
theorem dL_law_1102 : decode cL_law 1102 = .ok (.aload_n 0, 1) := by decide +kernel
theorem dL_law_1103 : decode cL_law 1103 = .ok (.iload_n 3, 1) := by decide +kernel
theorem dL_law_1104 : decode cL_law 1104 = .ok (.iconst 1, 1) := by decide +kernel
theorem dL_law_1105 : decode cL_law 1105 = .ok (.iadd, 1) := by decide +kernel
theorem dL_law_1106 : decode cL_law 1106 = .ok (.iaload, 1) := by decide +kernel
theorem dL_law_1107 : decode cL_law 1107 = .ok (.invokevirtual 127, 3) := by decide +kernel
theorem dL_law_1110 : decode cL_law 1110 = .ok (.if_icmp .eq 399, 3) := by decide +kernel
theorem dL_law_1113 : decode cL_law 1113 = .ok (.iconst 0, 1) := by decide +kernel
theorem dL_law_1114 : decode cL_law 1114 = .ok (.ireturn, 1) := by decide +kernel
theorem dL_law_1115 : decode cL_law 1115 = .ok (.aload_n 1, 1) := by decide +kernel
theorem dL_law_1116 : decode cL_law 1116 = .ok (.aload_n 0, 1) := by decide +kernel
theorem dL_law_1117 : decode cL_law 1117 = .ok (.iload_n 3, 1) := by decide +kernel
theorem dL_law_1118 : decode cL_law 1118 = .ok (.iconst 1, 1) := by decide +kernel
theorem dL_law_1119 : decode cL_law 1119 = .ok (.iadd, 1) := by decide +kernel
theorem dL_law_1120 : decode cL_law 1120 = .ok (.iaload, 1) := by decide +kernel
theorem dL_law_1121 : decode cL_law 1121 = .ok (.invokevirtual 128, 3) := by decide +kernel
theorem dL_law_1124 : decode cL_law 1124 = .ok (.aload_n 2, 1) := by decide +kernel
theorem dL_law_1125 : decode cL_law 1125 = .ok (.aload_n 0, 1) := by decide +kernel
theorem dL_law_1126 : decode cL_law 1126 = .ok (.iload_n 3, 1) := by decide +kernel
theorem dL_law_1127 : decode cL_law 1127 = .ok (.iconst 1, 1) := by decide +kernel
theorem dL_law_1128 : decode cL_law 1128 = .ok (.iadd, 1) := by decide +kernel
theorem dL_law_1129 : decode cL_law 1129 = .ok (.iaload, 1) := by decide +kernel
theorem dL_law_1130 : decode cL_law 1130 = .ok (.invokevirtual 131, 3) := by decide +kernel
theorem dL_law_1133 : decode cL_law 1133 = .ok (.if_icmp .eq 376, 3) := by decide +kernel
theorem dL_law_1136 : decode cL_law 1136 = .ok (.iconst 0, 1) := by decide +kernel
theorem dL_law_1137 : decode cL_law 1137 = .ok (.ireturn, 1) := by decide +kernel
theorem dL_law_1138 : decode cL_law 1138 = .ok (.aload_n 1, 1) := by decide +kernel
theorem dL_law_1139 : decode cL_law 1139 = .ok (.aload_n 0, 1) := by decide +kernel
theorem dL_law_1140 : decode cL_law 1140 = .ok (.iload_n 3, 1) := by decide +kernel
theorem dL_law_1141 : decode cL_law 1141 = .ok (.iconst 1, 1) := by decide +kernel
theorem dL_law_1142 : decode cL_law 1142 = .ok (.iadd, 1) := by decide +kernel
theorem dL_law_1143 : decode cL_law 1143 = .ok (.iaload, 1) := by decide +kernel
theorem dL_law_1144 : decode cL_law 1144 = .ok (.invokevirtual 132, 3) := by decide +kernel
theorem dL_law_1147 : decode cL_law 1147 = .ok (.aload_n 2, 1) := by decide +kernel
theorem dL_law_1148 : decode cL_law 1148 = .ok (.aload_n 0, 1) := by decide +kernel
theorem dL_law_1149 : decode cL_law 1149 = .ok (.iload_n 3, 1) := by decide +kernel
theorem dL_law_1150 : decode cL_law 1150 = .ok (.iconst 1, 1) := by decide +kernel
theorem dL_law_1151 : decode cL_law 1151 = .ok (.iadd, 1) := by decide +kernel
theorem dL_law_1152 : decode cL_law 1152 = .ok (.iaload, 1) := by decide +kernel
theorem dL_law_1153 : decode cL_law 1153 = .ok (.invokevirtual 135, 3) := by decide +kernel
theorem dL_law_1156 : decode cL_law 1156 = .ok (.if_icmp .eq 353, 3) := by decide +kernel
theorem dL_law_1159 : decode cL_law 1159 = .ok (.iconst 0, 1) := by decide +kernel
theorem dL_law_1160 : decode cL_law 1160 = .ok (.ireturn, 1) := by decide +kernel
theorem dL_law_1161 : decode cL_law 1161 = .ok (.aload_n 1, 1) := by decide +kernel
theorem dL_law_1162 : decode cL_law 1162 = .ok (.aload_n 0, 1) := by decide +kernel
theorem dL_law_1163 : decode cL_law 1163 = .ok (.iload_n 3, 1) := by decide +kernel
theorem dL_law_1164 : decode cL_law 1164 = .ok (.iconst 1, 1) := by decide +kernel
theorem dL_law_1165 : decode cL_law 1165 = .ok (.iadd, 1) := by decide +kernel
theorem dL_law_1166 : decode cL_law 1166 = .ok (.iaload, 1) := by decide +kernel
theorem dL_law_1167 : decode cL_law 1167 = .ok (.invokevirtual 136, 3) := by decide +kernel
theorem dL_law_1170 : decode cL_law 1170 = .ok (.aload_n 2, 1) := by decide +kernel
theorem dL_law_1171 : decode cL_law 1171 = .ok (.aload_n 0, 1) := by decide +kernel
theorem dL_law_1172 : decode cL_law 1172 = .ok (.iload_n 3, 1) := by decide +kernel
theorem dL_law_1173 : decode cL_law 1173 = .ok (.iconst 1, 1) := by decide +kernel
theorem dL_law_1174 : decode cL_law 1174 = .ok (.iadd, 1) := by decide +kernel
theorem dL_law_1175 : decode cL_law 1175 = .ok (.iaload, 1) := by decide +kernel
theorem dL_law_1176 : decode cL_law 1176 = .ok (.invokevirtual 139, 3) := by decide +kernel
theorem dL_law_1179 : decode cL_law 1179 = .ok (.if_icmp .eq 330, 3) := by decide +kernel
theorem dL_law_1182 : decode cL_law 1182 = .ok (.iconst 0, 1) := by decide +kernel
theorem dL_law_1183 : decode cL_law 1183 = .ok (.ireturn, 1) := by decide +kernel
theorem dL_law_1184 : decode cL_law 1184 = .ok (.aload_n 1, 1) := by decide +kernel
theorem dL_law_1185 : decode cL_law 1185 = .ok (.aload_n 0, 1) := by decide +kernel
theorem dL_law_1186 : decode cL_law 1186 = .ok (.iload_n 3, 1) := by decide +kernel
theorem dL_law_1187 : decode cL_law 1187 = .ok (.iconst 1, 1) := by decide +kernel
theorem dL_law_1188 : decode cL_law 1188 = .ok (.iadd, 1) := by decide +kernel
theorem dL_law_1189 : decode cL_law 1189 = .ok (.iaload, 1) := by decide +kernel
theorem dL_law_1190 : decode cL_law 1190 = .ok (.invokevirtual 140, 3) := by decide +kernel
theorem dL_law_1193 : decode cL_law 1193 = .ok (.aload_n 2, 1) := by decide +kernel
theorem dL_law_1194 : decode cL_law 1194 = .ok (.aload_n 0, 1) := by decide +kernel
theorem dL_law_1195 : decode cL_law 1195 = .ok (.iload_n 3, 1) := by decide +kernel
theorem dL_law_1196 : decode cL_law 1196 = .ok (.iconst 1, 1) := by decide +kernel
theorem dL_law_1197 : decode cL_law 1197 = .ok (.iadd, 1) := by decide +kernel
theorem dL_law_1198 : decode cL_law 1198 = .ok (.iaload, 1) := by decide +kernel
theorem dL_law_1199 : decode cL_law 1199 = .ok (.invokevirtual 143, 3) := by decide +kernel
theorem dL_law_1202 : decode cL_law 1202 = .ok (.if_icmp .eq 307, 3) := by decide +kernel
theorem dL_law_1205 : decode cL_law 1205 = .ok (.iconst 0, 1) := by decide +kernel
theorem dL_law_1206 : decode cL_law 1206 = .ok (.ireturn, 1) := by decide +kernel
theorem dL_law_1207 : decode cL_law 1207 = .ok (.aload_n 1, 1) := by decide +kernel
theorem dL_law_1208 : decode cL_law 1208 = .ok (.aload_n 0, 1) := by decide +kernel
theorem dL_law_1209 : decode cL_law 1209 = .ok (.iload_n 3, 1) := by decide +kernel
theorem dL_law_1210 : decode cL_law 1210 = .ok (.iconst 1, 1) := by decide +kernel
theorem dL_law_1211 : decode cL_law 1211 = .ok (.iadd, 1) := by decide +kernel
theorem dL_law_1212 : decode cL_law 1212 = .ok (.iaload, 1) := by decide +kernel
theorem dL_law_1213 : decode cL_law 1213 = .ok (.aload_n 0, 1) := by decide +kernel
theorem dL_law_1214 : decode cL_law 1214 = .ok (.iload_n 3, 1) := by decide +kernel
theorem dL_law_1215 : decode cL_law 1215 = .ok (.iconst 2, 1) := by decide +kernel
theorem dL_law_1216 : decode cL_law 1216 = .ok (.iadd, 1) := by decide +kernel
theorem dL_law_1217 : decode cL_law 1217 = .ok (.iaload, 1) := by decide +kernel
theorem dL_law_1218 : decode cL_law 1218 = .ok (.aload_n 0, 1) := by decide +kernel
theorem dL_law_1219 : decode cL_law 1219 = .ok (.iload_n 3, 1) := by decide +kernel
theorem dL_law_1220 : decode cL_law 1220 = .ok (.iconst 3, 1) := by decide +kernel
theorem dL_law_1221 : decode cL_law 1221 = .ok (.iadd, 1) := by decide +kernel
theorem dL_law_1222 : decode cL_law 1222 = .ok (.iaload, 1) := by decide +kernel
theorem dL_law_1223 : decode cL_law 1223 = .ok (.invokevirtual 144, 3) := by decide +kernel
theorem dL_law_1226 : decode cL_law 1226 = .ok (.aload_n 2, 1) := by decide +kernel
theorem dL_law_1227 : decode cL_law 1227 = .ok (.aload_n 0, 1) := by decide +kernel
theorem dL_law_1228 : decode cL_law 1228 = .ok (.iload_n 3, 1) := by decide +kernel
theorem dL_law_1229 : decode cL_law 1229 = .ok (.iconst 1, 1) := by decide +kernel
theorem dL_law_1230 : decode cL_law 1230 = .ok (.iadd, 1) := by decide +kernel
theorem dL_law_1231 : decode cL_law 1231 = .ok (.iaload, 1) := by decide +kernel
theorem dL_law_1232 : decode cL_law 1232 = .ok (.aload_n 0, 1) := by decide +kernel
theorem dL_law_1233 : decode cL_law 1233 = .ok (.iload_n 3, 1) := by decide +kernel
theorem dL_law_1234 : decode cL_law 1234 = .ok (.iconst 2, 1) := by decide +kernel
theorem dL_law_1235 : decode cL_law 1235 = .ok (.iadd, 1) := by decide +kernel
theorem dL_law_1236 : decode cL_law 1236 = .ok (.iaload, 1) := by decide +kernel
theorem dL_law_1237 : decode cL_law 1237 = .ok (.aload_n 0, 1) := by decide +kernel
theorem dL_law_1238 : decode cL_law 1238 = .ok (.iload_n 3, 1) := by decide +kernel
theorem dL_law_1239 : decode cL_law 1239 = .ok (.iconst 3, 1) := by decide +kernel
theorem dL_law_1240 : decode cL_law 1240 = .ok (.iadd, 1) := by decide +kernel
theorem dL_law_1241 : decode cL_law 1241 = .ok (.iaload, 1) := by decide +kernel
theorem dL_law_1242 : decode cL_law 1242 = .ok (.invokevirtual 147, 3) := by decide +kernel
theorem dL_law_1245 : decode cL_law 1245 = .ok (.if_icmp .eq 264, 3) := by decide +kernel
theorem dL_law_1248 : decode cL_law 1248 = .ok (.iconst 0, 1) := by decide +kernel
theorem dL_law_1249 : decode cL_law 1249 = .ok (.ireturn, 1) := by decide +kernel
theorem dL_law_1250 : decode cL_law 1250 = .ok (.aload_n 1, 1) := by decide +kernel
theorem dL_law_1251 : decode cL_law 1251 = .ok (.aload_n 0, 1) := by decide +kernel
theorem dL_law_1252 : decode cL_law 1252 = .ok (.iload_n 3, 1) := by decide +kernel
theorem dL_law_1253 : decode cL_law 1253 = .ok (.iconst 1, 1) := by decide +kernel
theorem dL_law_1254 : decode cL_law 1254 = .ok (.iadd, 1) := by decide +kernel
theorem dL_law_1255 : decode cL_law 1255 = .ok (.iaload, 1) := by decide +kernel
theorem dL_law_1256 : decode cL_law 1256 = .ok (.aload_n 0, 1) := by decide +kernel
theorem dL_law_1257 : decode cL_law 1257 = .ok (.iload_n 3, 1) := by decide +kernel
theorem dL_law_1258 : decode cL_law 1258 = .ok (.iconst 2, 1) := by decide +kernel
theorem dL_law_1259 : decode cL_law 1259 = .ok (.iadd, 1) := by decide +kernel
theorem dL_law_1260 : decode cL_law 1260 = .ok (.iaload, 1) := by decide +kernel
theorem dL_law_1261 : decode cL_law 1261 = .ok (.aload_n 0, 1) := by decide +kernel
theorem dL_law_1262 : decode cL_law 1262 = .ok (.iload_n 3, 1) := by decide +kernel
theorem dL_law_1263 : decode cL_law 1263 = .ok (.iconst 3, 1) := by decide +kernel
theorem dL_law_1264 : decode cL_law 1264 = .ok (.iadd, 1) := by decide +kernel
theorem dL_law_1265 : decode cL_law 1265 = .ok (.iaload, 1) := by decide +kernel
theorem dL_law_1266 : decode cL_law 1266 = .ok (.aload_n 0, 1) := by decide +kernel
theorem dL_law_1267 : decode cL_law 1267 = .ok (.iload_n 3, 1) := by decide +kernel
theorem dL_law_1268 : decode cL_law 1268 = .ok (.iconst 4, 1) := by decide +kernel
theorem dL_law_1269 : decode cL_law 1269 = .ok (.iadd, 1) := by decide +kernel
theorem dL_law_1270 : decode cL_law 1270 = .ok (.iaload, 1) := by decide +kernel
theorem dL_law_1271 : decode cL_law 1271 = .ok (.invokevirtual 148, 3) := by decide +kernel
theorem dL_law_1274 : decode cL_law 1274 = .ok (.aload_n 2, 1) := by decide +kernel
theorem dL_law_1275 : decode cL_law 1275 = .ok (.aload_n 0, 1) := by decide +kernel
theorem dL_law_1276 : decode cL_law 1276 = .ok (.iload_n 3, 1) := by decide +kernel
theorem dL_law_1277 : decode cL_law 1277 = .ok (.iconst 1, 1) := by decide +kernel
theorem dL_law_1278 : decode cL_law 1278 = .ok (.iadd, 1) := by decide +kernel
theorem dL_law_1279 : decode cL_law 1279 = .ok (.iaload, 1) := by decide +kernel
theorem dL_law_1280 : decode cL_law 1280 = .ok (.aload_n 0, 1) := by decide +kernel
theorem dL_law_1281 : decode cL_law 1281 = .ok (.iload_n 3, 1) := by decide +kernel
theorem dL_law_1282 : decode cL_law 1282 = .ok (.iconst 2, 1) := by decide +kernel
theorem dL_law_1283 : decode cL_law 1283 = .ok (.iadd, 1) := by decide +kernel
theorem dL_law_1284 : decode cL_law 1284 = .ok (.iaload, 1) := by decide +kernel
theorem dL_law_1285 : decode cL_law 1285 = .ok (.aload_n 0, 1) := by decide +kernel
theorem dL_law_1286 : decode cL_law 1286 = .ok (.iload_n 3, 1) := by decide +kernel
theorem dL_law_1287 : decode cL_law 1287 = .ok (.iconst 3, 1) := by decide +kernel
theorem dL_law_1288 : decode cL_law 1288 = .ok (.iadd, 1) := by decide +kernel
theorem dL_law_1289 : decode cL_law 1289 = .ok (.iaload, 1) := by decide +kernel
theorem dL_law_1290 : decode cL_law 1290 = .ok (.aload_n 0, 1) := by decide +kernel
theorem dL_law_1291 : decode cL_law 1291 = .ok (.iload_n 3, 1) := by decide +kernel
theorem dL_law_1292 : decode cL_law 1292 = .ok (.iconst 4, 1) := by decide +kernel
theorem dL_law_1293 : decode cL_law 1293 = .ok (.iadd, 1) := by decide +kernel
theorem dL_law_1294 : decode cL_law 1294 = .ok (.iaload, 1) := by decide +kernel
theorem dL_law_1295 : decode cL_law 1295 = .ok (.invokevirtual 151, 3) := by decide +kernel
theorem dL_law_1298 : decode cL_law 1298 = .ok (.if_icmp .eq 211, 3) := by decide +kernel
theorem dL_law_1301 : decode cL_law 1301 = .ok (.iconst 0, 1) := by decide +kernel
theorem dL_law_1302 : decode cL_law 1302 = .ok (.ireturn, 1) := by decide +kernel
theorem dL_law_1303 : decode cL_law 1303 = .ok (.aload_n 1, 1) := by decide +kernel
theorem dL_law_1304 : decode cL_law 1304 = .ok (.aload_n 0, 1) := by decide +kernel
theorem dL_law_1305 : decode cL_law 1305 = .ok (.iload_n 3, 1) := by decide +kernel
theorem dL_law_1306 : decode cL_law 1306 = .ok (.iconst 1, 1) := by decide +kernel
theorem dL_law_1307 : decode cL_law 1307 = .ok (.iadd, 1) := by decide +kernel
theorem dL_law_1308 : decode cL_law 1308 = .ok (.iaload, 1) := by decide +kernel
theorem dL_law_1309 : decode cL_law 1309 = .ok (.aload_n 0, 1) := by decide +kernel
theorem dL_law_1310 : decode cL_law 1310 = .ok (.iload_n 3, 1) := by decide +kernel
theorem dL_law_1311 : decode cL_law 1311 = .ok (.iconst 2, 1) := by decide +kernel
theorem dL_law_1312 : decode cL_law 1312 = .ok (.iadd, 1) := by decide +kernel
theorem dL_law_1313 : decode cL_law 1313 = .ok (.iaload, 1) := by decide +kernel
theorem dL_law_1314 : decode cL_law 1314 = .ok (.aload_n 0, 1) := by decide +kernel
theorem dL_law_1315 : decode cL_law 1315 = .ok (.iload_n 3, 1) := by decide +kernel
theorem dL_law_1316 : decode cL_law 1316 = .ok (.iconst 3, 1) := by decide +kernel
theorem dL_law_1317 : decode cL_law 1317 = .ok (.iadd, 1) := by decide +kernel
theorem dL_law_1318 : decode cL_law 1318 = .ok (.iaload, 1) := by decide +kernel
theorem dL_law_1319 : decode cL_law 1319 = .ok (.invokevirtual 152, 3) := by decide +kernel
theorem dL_law_1322 : decode cL_law 1322 = .ok (.aload_n 2, 1) := by decide +kernel
theorem dL_law_1323 : decode cL_law 1323 = .ok (.aload_n 0, 1) := by decide +kernel
theorem dL_law_1324 : decode cL_law 1324 = .ok (.iload_n 3, 1) := by decide +kernel
theorem dL_law_1325 : decode cL_law 1325 = .ok (.iconst 1, 1) := by decide +kernel
theorem dL_law_1326 : decode cL_law 1326 = .ok (.iadd, 1) := by decide +kernel
theorem dL_law_1327 : decode cL_law 1327 = .ok (.iaload, 1) := by decide +kernel
theorem dL_law_1328 : decode cL_law 1328 = .ok (.aload_n 0, 1) := by decide +kernel
theorem dL_law_1329 : decode cL_law 1329 = .ok (.iload_n 3, 1) := by decide +kernel
theorem dL_law_1330 : decode cL_law 1330 = .ok (.iconst 2, 1) := by decide +kernel
theorem dL_law_1331 : decode cL_law 1331 = .ok (.iadd, 1) := by decide +kernel
theorem dL_law_1332 : decode cL_law 1332 = .ok (.iaload, 1) := by decide +kernel
theorem dL_law_1333 : decode cL_law 1333 = .ok (.aload_n 0, 1) := by decide +kernel
theorem dL_law_1334 : decode cL_law 1334 = .ok (.iload_n 3, 1) := by decide +kernel
theorem dL_law_1335 : decode cL_law 1335 = .ok (.iconst 3, 1) := by decide +kernel
theorem dL_law_1336 : decode cL_law 1336 = .ok (.iadd, 1) := by decide +kernel
theorem dL_law_1337 : decode cL_law 1337 = .ok (.iaload, 1) := by decide +kernel
theorem dL_law_1338 : decode cL_law 1338 = .ok (.invokevirtual 155, 3) := by decide +kernel
theorem dL_law_1341 : decode cL_law 1341 = .ok (.if_icmp .eq 168, 3) := by decide +kernel
theorem dL_law_1344 : decode cL_law 1344 = .ok (.iconst 0, 1) := by decide +kernel
theorem dL_law_1345 : decode cL_law 1345 = .ok (.ireturn, 1) := by decide +kernel
theorem dL_law_1346 : decode cL_law 1346 = .ok (.aload_n 1, 1) := by decide +kernel
theorem dL_law_1347 : decode cL_law 1347 = .ok (.aload_n 0, 1) := by decide +kernel
theorem dL_law_1348 : decode cL_law 1348 = .ok (.iload_n 3, 1) := by decide +kernel
theorem dL_law_1349 : decode cL_law 1349 = .ok (.iconst 1, 1) := by decide +kernel
theorem dL_law_1350 : decode cL_law 1350 = .ok (.iadd, 1) := by decide +kernel
theorem dL_law_1351 : decode cL_law 1351 = .ok (.iaload, 1) := by decide +kernel
theorem dL_law_1352 : decode cL_law 1352 = .ok (.aload_n 0, 1) := by decide +kernel
theorem dL_law_1353 : decode cL_law 1353 = .ok (.iload_n 3, 1) := by decide +kernel
theorem dL_law_1354 : decode cL_law 1354 = .ok (.iconst 2, 1) := by decide +kernel
theorem dL_law_1355 : decode cL_law 1355 = .ok (.iadd, 1) := by decide +kernel
theorem dL_law_1356 : decode cL_law 1356 = .ok (.iaload, 1) := by decide +kernel
theorem dL_law_1357 : decode cL_law 1357 = .ok (.invokevirtual 156, 3) := by decide +kernel
theorem dL_law_1360 : decode cL_law 1360 = .ok (.aload_n 2, 1) := by decide +kernel
theorem dL_law_1361 : decode cL_law 1361 = .ok (.aload_n 0, 1) := by decide +kernel
theorem dL_law_1362 : decode cL_law 1362 = .ok (.iload_n 3, 1) := by decide +kernel
theorem dL_law_1363 : decode cL_law 1363 = .ok (.iconst 1, 1) := by decide +kernel
theorem dL_law_1364 : decode cL_law 1364 = .ok (.iadd, 1) := by decide +kernel
theorem dL_law_1365 : decode cL_law 1365 = .ok (.iaload, 1) := by decide +kernel
theorem dL_law_1366 : decode cL_law 1366 = .ok (.aload_n 0, 1) := by decide +kernel
theorem dL_law_1367 : decode cL_law 1367 = .ok (.iload_n 3, 1) := by decide +kernel
theorem dL_law_1368 : decode cL_law 1368 = .ok (.iconst 2, 1) := by decide +kernel
theorem dL_law_1369 : decode cL_law 1369 = .ok (.iadd, 1) := by decide +kernel
theorem dL_law_1370 : decode cL_law 1370 = .ok (.iaload, 1) := by decide +kernel
theorem dL_law_1371 : decode cL_law 1371 = .ok (.invokevirtual 159, 3) := by decide +kernel
theorem dL_law_1374 : decode cL_law 1374 = .ok (.if_icmp .eq 135, 3) := by decide +kernel
theorem dL_law_1377 : decode cL_law 1377 = .ok (.iconst 0, 1) := by decide +kernel
theorem dL_law_1378 : decode cL_law 1378 = .ok (.ireturn, 1) := by decide +kernel
theorem dL_law_1379 : decode cL_law 1379 = .ok (.aload_n 1, 1) := by decide +kernel
theorem dL_law_1380 : decode cL_law 1380 = .ok (.aload_n 0, 1) := by decide +kernel
theorem dL_law_1381 : decode cL_law 1381 = .ok (.iload_n 3, 1) := by decide +kernel
theorem dL_law_1382 : decode cL_law 1382 = .ok (.iconst 1, 1) := by decide +kernel
theorem dL_law_1383 : decode cL_law 1383 = .ok (.iadd, 1) := by decide +kernel
theorem dL_law_1384 : decode cL_law 1384 = .ok (.iaload, 1) := by decide +kernel
theorem dL_law_1385 : decode cL_law 1385 = .ok (.invokevirtual 160, 3) := by decide +kernel
theorem dL_law_1388 : decode cL_law 1388 = .ok (.aload_n 2, 1) := by decide +kernel
theorem dL_law_1389 : decode cL_law 1389 = .ok (.aload_n 0, 1) := by decide +kernel
theorem dL_law_1390 : decode cL_law 1390 = .ok (.iload_n 3, 1) := by decide +kernel
theorem dL_law_1391 : decode cL_law 1391 = .ok (.iconst 1, 1) := by decide +kernel
theorem dL_law_1392 : decode cL_law 1392 = .ok (.iadd, 1) := by decide +kernel
theorem dL_law_1393 : decode cL_law 1393 = .ok (.iaload, 1) := by decide +kernel
theorem dL_law_1394 : decode cL_law 1394 = .ok (.invokevirtual 164, 3) := by decide +kernel
theorem dL_law_1397 : decode cL_law 1397 = .ok (.lcmp, 1) := by decide +kernel
theorem dL_law_1398 : decode cL_law 1398 = .ok (.ifCond .eq 111, 3) := by decide +kernel
theorem dL_law_1401 : decode cL_law 1401 = .ok (.iconst 0, 1) := by decide +kernel
theorem dL_law_1402 : decode cL_law 1402 = .ok (.ireturn, 1) := by decide +kernel
theorem dL_law_1403 : decode cL_law 1403 = .ok (.aload_n 1, 1) := by decide +kernel
theorem dL_law_1404 : decode cL_law 1404 = .ok (.aload_n 0, 1) := by decide +kernel
theorem dL_law_1405 : decode cL_law 1405 = .ok (.iload_n 3, 1) := by decide +kernel
theorem dL_law_1406 : decode cL_law 1406 = .ok (.iconst 1, 1) := by decide +kernel
theorem dL_law_1407 : decode cL_law 1407 = .ok (.iadd, 1) := by decide +kernel
theorem dL_law_1408 : decode cL_law 1408 = .ok (.iaload, 1) := by decide +kernel
theorem dL_law_1409 : decode cL_law 1409 = .ok (.invokevirtual 165, 3) := by decide +kernel
theorem dL_law_1412 : decode cL_law 1412 = .ok (.aload_n 2, 1) := by decide +kernel
theorem dL_law_1413 : decode cL_law 1413 = .ok (.aload_n 0, 1) := by decide +kernel
theorem dL_law_1414 : decode cL_law 1414 = .ok (.iload_n 3, 1) := by decide +kernel
theorem dL_law_1415 : decode cL_law 1415 = .ok (.iconst 1, 1) := by decide +kernel
theorem dL_law_1416 : decode cL_law 1416 = .ok (.iadd, 1) := by decide +kernel
theorem dL_law_1417 : decode cL_law 1417 = .ok (.iaload, 1) := by decide +kernel
theorem dL_law_1418 : decode cL_law 1418 = .ok (.invokevirtual 168, 3) := by decide +kernel
theorem dL_law_1421 : decode cL_law 1421 = .ok (.if_icmp .eq 88, 3) := by decide +kernel
theorem dL_law_1424 : decode cL_law 1424 = .ok (.iconst 0, 1) := by decide +kernel
theorem dL_law_1425 : decode cL_law 1425 = .ok (.ireturn, 1) := by decide +kernel
theorem dL_law_1426 : decode cL_law 1426 = .ok (.aload_n 1, 1) := by decide +kernel
theorem dL_law_1427 : decode cL_law 1427 = .ok (.aload_n 0, 1) := by decide +kernel
theorem dL_law_1428 : decode cL_law 1428 = .ok (.iload_n 3, 1) := by decide +kernel
theorem dL_law_1429 : decode cL_law 1429 = .ok (.iconst 1, 1) := by decide +kernel
theorem dL_law_1430 : decode cL_law 1430 = .ok (.iadd, 1) := by decide +kernel
theorem dL_law_1431 : decode cL_law 1431 = .ok (.iaload, 1) := by decide +kernel
theorem dL_law_1432 : decode cL_law 1432 = .ok (.invokevirtual 169, 3) := by decide +kernel
theorem dL_law_1435 : decode cL_law 1435 = .ok (.aload_n 2, 1) := by decide +kernel
theorem dL_law_1436 : decode cL_law 1436 = .ok (.aload_n 0, 1) := by decide +kernel
theorem dL_law_1437 : decode cL_law 1437 = .ok (.iload_n 3, 1) := by decide +kernel
theorem dL_law_1438 : decode cL_law 1438 = .ok (.iconst 1, 1) := by decide +kernel
theorem dL_law_1439 : decode cL_law 1439 = .ok (.iadd, 1) := by decide +kernel
theorem dL_law_1440 : decode cL_law 1440 = .ok (.iaload, 1) := by decide +kernel
theorem dL_law_1441 : decode cL_law 1441 = .ok (.invokevirtual 172, 3) := by decide +kernel
theorem dL_law_1444 : decode cL_law 1444 = .ok (.if_icmp .eq 65, 3) := by decide +kernel
theorem dL_law_1447 : decode cL_law 1447 = .ok (.iconst 0, 1) := by decide +kernel
theorem dL_law_1448 : decode cL_law 1448 = .ok (.ireturn, 1) := by decide +kernel
theorem dL_law_1449 : decode cL_law 1449 = .ok (.aload_n 1, 1) := by decide +kernel
theorem dL_law_1450 : decode cL_law 1450 = .ok (.aload_n 0, 1) := by decide +kernel
theorem dL_law_1451 : decode cL_law 1451 = .ok (.iload_n 3, 1) := by decide +kernel
theorem dL_law_1452 : decode cL_law 1452 = .ok (.iconst 1, 1) := by decide +kernel
theorem dL_law_1453 : decode cL_law 1453 = .ok (.iadd, 1) := by decide +kernel
theorem dL_law_1454 : decode cL_law 1454 = .ok (.iaload, 1) := by decide +kernel
theorem dL_law_1455 : decode cL_law 1455 = .ok (.invokevirtual 173, 3) := by decide +kernel
theorem dL_law_1458 : decode cL_law 1458 = .ok (.aload_n 2, 1) := by decide +kernel
theorem dL_law_1459 : decode cL_law 1459 = .ok (.aload_n 0, 1) := by decide +kernel
theorem dL_law_1460 : decode cL_law 1460 = .ok (.iload_n 3, 1) := by decide +kernel
theorem dL_law_1461 : decode cL_law 1461 = .ok (.iconst 1, 1) := by decide +kernel
theorem dL_law_1462 : decode cL_law 1462 = .ok (.iadd, 1) := by decide +kernel
theorem dL_law_1463 : decode cL_law 1463 = .ok (.iaload, 1) := by decide +kernel
theorem dL_law_1464 : decode cL_law 1464 = .ok (.invokevirtual 176, 3) := by decide +kernel
theorem dL_law_1467 : decode cL_law 1467 = .ok (.if_icmp .eq 42, 3) := by decide +kernel
theorem dL_law_1470 : decode cL_law 1470 = .ok (.iconst 0, 1) := by decide +kernel
theorem dL_law_1471 : decode cL_law 1471 = .ok (.ireturn, 1) := by decide +kernel
theorem dL_law_1472 : decode cL_law 1472 = .ok (.aload_n 1, 1) := by decide +kernel
theorem dL_law_1473 : decode cL_law 1473 = .ok (.aload_n 0, 1) := by decide +kernel
theorem dL_law_1474 : decode cL_law 1474 = .ok (.iload_n 3, 1) := by decide +kernel
theorem dL_law_1475 : decode cL_law 1475 = .ok (.iconst 1, 1) := by decide +kernel
theorem dL_law_1476 : decode cL_law 1476 = .ok (.iadd, 1) := by decide +kernel
theorem dL_law_1477 : decode cL_law 1477 = .ok (.iaload, 1) := by decide +kernel
theorem dL_law_1478 : decode cL_law 1478 = .ok (.invokevirtual 177, 3) := by decide +kernel
theorem dL_law_1481 : decode cL_law 1481 = .ok (.aload_n 2, 1) := by decide +kernel
theorem dL_law_1482 : decode cL_law 1482 = .ok (.aload_n 0, 1) := by decide +kernel
theorem dL_law_1483 : decode cL_law 1483 = .ok (.iload_n 3, 1) := by decide +kernel
theorem dL_law_1484 : decode cL_law 1484 = .ok (.iconst 1, 1) := by decide +kernel
theorem dL_law_1485 : decode cL_law 1485 = .ok (.iadd, 1) := by decide +kernel
theorem dL_law_1486 : decode cL_law 1486 = .ok (.iaload, 1) := by decide +kernel
theorem dL_law_1487 : decode cL_law 1487 = .ok (.invokevirtual 180, 3) := by decide +kernel
theorem dL_law_1490 : decode cL_law 1490 = .ok (.if_icmp .eq 19, 3) := by decide +kernel
theorem dL_law_1493 : decode cL_law 1493 = .ok (.iconst 0, 1) := by decide +kernel
theorem dL_law_1494 : decode cL_law 1494 = .ok (.ireturn, 1) := by decide +kernel
theorem dL_law_1495 : decode cL_law 1495 = .ok (.aload_n 1, 1) := by decide +kernel
theorem dL_law_1496 : decode cL_law 1496 = .ok (.invokevirtual 181, 3) := by decide +kernel
theorem dL_law_1499 : decode cL_law 1499 = .ok (.aload_n 2, 1) := by decide +kernel
theorem dL_law_1500 : decode cL_law 1500 = .ok (.invokevirtual 185, 3) := by decide +kernel
theorem dL_law_1503 : decode cL_law 1503 = .ok (.lcmp, 1) := by decide +kernel
theorem dL_law_1504 : decode cL_law 1504 = .ok (.ifCond .eq 5, 3) := by decide +kernel
theorem dL_law_1507 : decode cL_law 1507 = .ok (.iconst 0, 1) := by decide +kernel
theorem dL_law_1508 : decode cL_law 1508 = .ok (.ireturn, 1) := by decide +kernel
theorem dL_law_1509 : decode cL_law 1509 = .ok (.iinc 3 7, 3) := by decide +kernel
theorem dL_law_1512 : decode cL_law 1512 = .ok (.goto (-1494), 3) := by decide +kernel
theorem dL_law_1515 : decode cL_law 1515 = .ok (.iconst 1, 1) := by decide +kernel
theorem dL_law_1516 : decode cL_law 1516 = .ok (.ireturn, 1) := by decide +kernel
