theorem dX8_copies_10 : decode cX8_copies 10 = .ok (.aload_n 2, 1) := by decide +kernel
theorem dX8_copies_11 : decode cX8_copies 11 = .ok (.iload_n 3, 1) := by decide +kernel
theorem dX8_copies_12 : decode cX8_copies 12 = .ok (.iload 4, 2) := by decide +kernel
theorem dX8_copies_14 : decode cX8_copies 14 = .ok (.iadd, 1) := by decide +kernel
theorem dX8_copies_15 : decode cX8_copies 15 = .ok (.aload_n 0, 1) := by decide +kernel
theorem dX8_copies_16 : decode cX8_copies 16 = .ok (.iload_n 1, 1) := by decide +kernel
theorem dX8_copies_17 : decode cX8_copies 17 = .ok (.iload 4, 2) := by decide +kernel
theorem dX8_copies_19 : decode cX8_copies 19 = .ok (.iadd, 1) := by decide +kernel
theorem dX8_copies_20 : decode cX8_copies 20 = .ok (.iaload, 1) := by decide +kernel
theorem dX8_copies_21 : decode cX8_copies 21 = .ok (.iastore, 1) := by decide +kernel
theorem dX8_copies_22 : decode cX8_copies 22 = .ok (.iinc 4 1, 3) := by decide +kernel
theorem dX8_copies_25 : decode cX8_copies 25 = .ok (.goto (-22), 3) := by decide +kernel
theorem dX8_copies_28 : decode cX8_copies 28 = .ok (.return_, 1) := by decide +kernel
theorem dX8_book_0 : decode cX8_book 0 = .ok (.iconst 0, 1) := by decide +kernel
theorem dX8_book_1 : decode cX8_book 1 = .ok (.istore_n 1, 1) := by decide +kernel
theorem dX8_book_2 : decode cX8_book 2 = .ok (.iload_n 1, 1) := by decide +kernel
theorem dX8_book_3 : decode cX8_book 3 = .ok (.bipush 79, 2) := by decide +kernel
theorem dX8_book_5 : decode cX8_book 5 = .ok (.if_icmp .ge 43, 3) := by decide +kernel
theorem dX8_book_8 : decode cX8_book 8 = .ok (.aload_n 0, 1) := by decide +kernel
theorem dX8_book_9 : decode cX8_book 9 = .ok (.getfield 13, 3) := by decide +kernel
theorem dX8_book_12 : decode cX8_book 12 = .ok (.iload_n 1, 1) := by decide +kernel
theorem dX8_book_13 : decode cX8_book 13 = .ok (.iload_n 1, 1) := by decide +kernel
theorem dX8_book_14 : decode cX8_book 14 = .ok (.i2l, 1) := by decide +kernel
theorem dX8_book_15 : decode cX8_book 15 = .ok (.ldc2_w 220, 3) := by decide +kernel
theorem dX8_book_18 : decode cX8_book 18 = .ok (.ldc2_w 222, 3) := by decide +kernel
theorem dX8_book_21 : decode cX8_book 21 = .ok (.invokestatic 55, 3) := by decide +kernel
theorem dX8_book_24 : decode cX8_book 24 = .ok (.ifCond .eq 16, 3) := by decide +kernel
theorem dX8_book_27 : decode cX8_book 27 = .ok (.iload_n 1, 1) := by decide +kernel
theorem dX8_book_28 : decode cX8_book 28 = .ok (.bipush 69, 2) := by decide +kernel
theorem dX8_book_30 : decode cX8_book 30 = .ok (.isub, 1) := by decide +kernel
theorem dX8_book_31 : decode cX8_book 31 = .ok (.iconst 2, 1) := by decide +kernel
theorem dX8_book_32 : decode cX8_book 32 = .ok (.irem, 1) := by decide +kernel
theorem dX8_book_33 : decode cX8_book 33 = .ok (.ifCond .ne 7, 3) := by decide +kernel
theorem dX8_book_36 : decode cX8_book 36 = .ok (.iconst 1, 1) := by decide +kernel
theorem dX8_book_37 : decode cX8_book 37 = .ok (.goto 4, 3) := by decide +kernel
theorem dX8_book_40 : decode cX8_book 40 = .ok (.iconst 0, 1) := by decide +kernel
theorem dX8_book_41 : decode cX8_book 41 = .ok (.iastore, 1) := by decide +kernel
theorem dX8_book_42 : decode cX8_book 42 = .ok (.iinc 1 1, 3) := by decide +kernel
theorem dX8_book_45 : decode cX8_book 45 = .ok (.goto (-43), 3) := by decide +kernel
theorem dX8_book_48 : decode cX8_book 48 = .ok (.aload_n 0, 1) := by decide +kernel
theorem dX8_book_49 : decode cX8_book 49 = .ok (.iconst 0, 1) := by decide +kernel
theorem dX8_book_50 : decode cX8_book 50 = .ok (.putfield 155, 3) := by decide +kernel
theorem dX8_book_53 : decode cX8_book 53 = .ok (.aload_n 0, 1) := by decide +kernel
theorem dX8_book_54 : decode cX8_book 54 = .ok (.iconst 0, 1) := by decide +kernel
theorem dX8_book_55 : decode cX8_book 55 = .ok (.putfield 178, 3) := by decide +kernel
theorem dX8_book_58 : decode cX8_book 58 = .ok (.aload_n 0, 1) := by decide +kernel
theorem dX8_book_59 : decode cX8_book 59 = .ok (.invokevirtual 184, 3) := by decide +kernel
theorem dX8_book_62 : decode cX8_book 62 = .ok (.aload_n 0, 1) := by decide +kernel
theorem dX8_book_63 : decode cX8_book 63 = .ok (.invokevirtual 224, 3) := by decide +kernel
theorem dX8_book_66 : decode cX8_book 66 = .ok (.aload_n 0, 1) := by decide +kernel
theorem dX8_book_67 : decode cX8_book 67 = .ok (.iconst 0, 1) := by decide +kernel
theorem dX8_book_68 : decode cX8_book 68 = .ok (.putfield 152, 3) := by decide +kernel
theorem dX8_book_71 : decode cX8_book 71 = .ok (.aload_n 0, 1) := by decide +kernel
theorem dX8_book_72 : decode cX8_book 72 = .ok (.getfield 178, 3) := by decide +kernel
theorem dX8_book_75 : decode cX8_book 75 = .ok (.ifCond .le 19, 3) := by decide +kernel
theorem dX8_book_78 : decode cX8_book 78 = .ok (.aload_n 0, 1) := by decide +kernel
theorem dX8_book_79 : decode cX8_book 79 = .ok (.aload_n 0, 1) := by decide +kernel
theorem dX8_book_80 : decode cX8_book 80 = .ok (.getfield 178, 3) := by decide +kernel
theorem dX8_book_83 : decode cX8_book 83 = .ok (.putfield 227, 3) := by decide +kernel
theorem dX8_book_86 : decode cX8_book 86 = .ok (.ldc 230, 2) := by decide +kernel
theorem dX8_book_88 : decode cX8_book 88 = .ok (.aload_n 0, 1) := by decide +kernel
theorem dX8_book_89 : decode cX8_book 89 = .ok (.getfield 181, 3) := by decide +kernel
theorem dX8_book_92 : decode cX8_book 92 = .ok (.isub, 1) := by decide +kernel
theorem dX8_book_93 : decode cX8_book 93 = .ok (.ireturn, 1) := by decide +kernel
theorem dX8_book_94 : decode cX8_book 94 = .ok (.aload_n 0, 1) := by decide +kernel
theorem dX8_book_95 : decode cX8_book 95 = .ok (.getfield 13, 3) := by decide +kernel
theorem dX8_book_98 : decode cX8_book 98 = .ok (.iconst 0, 1) := by decide +kernel
theorem dX8_book_99 : decode cX8_book 99 = .ok (.aload_n 0, 1) := by decide +kernel
theorem dX8_book_100 : decode cX8_book 100 = .ok (.getfield 7, 3) := by decide +kernel
theorem dX8_book_103 : decode cX8_book 103 = .ok (.iconst 0, 1) := by decide +kernel
theorem dX8_book_104 : decode cX8_book 104 = .ok (.invokestatic 231, 3) := by decide +kernel
theorem dX8_book_107 : decode cX8_book 107 = .ok (.aload_n 0, 1) := by decide +kernel
theorem dX8_book_108 : decode cX8_book 108 = .ok (.iconst 0, 1) := by decide +kernel
theorem dX8_book_109 : decode cX8_book 109 = .ok (.putfield 235, 3) := by decide +kernel
theorem dX8_book_112 : decode cX8_book 112 = .ok (.aload_n 0, 1) := by decide +kernel
theorem dX8_book_113 : decode cX8_book 113 = .ok (.getfield 7, 3) := by decide +kernel
theorem dX8_book_116 : decode cX8_book 116 = .ok (.bipush 6, 2) := by decide +kernel
theorem dX8_book_118 : decode cX8_book 118 = .ok (.iaload, 1) := by decide +kernel
theorem dX8_book_119 : decode cX8_book 119 = .ok (.ireturn, 1) := by decide +kernel
theorem dX7_fault_0 : decode cX7_fault 0 = .ok (.aload_n 0, 1) := by decide +kernel
theorem dX7_fault_1 : decode cX7_fault 1 = .ok (.getfield 64, 3) := by decide +kernel
theorem dX7_fault_4 : decode cX7_fault 4 = .ok (.ireturn, 1) := by decide +kernel
theorem dX8_fault_0 : decode cX8_fault 0 = .ok (.aload_n 0, 1) := by decide +kernel
theorem dX8_fault_1 : decode cX8_fault 1 = .ok (.getfield 227, 3) := by decide +kernel
theorem dX8_fault_4 : decode cX8_fault 4 = .ok (.ireturn, 1) := by decide +kernel
theorem dX0_takeBackLatest_0 : decode cX0_takeBackLatest 0 = .ok (.aload_n 0, 1) := by decide +kernel
theorem dX0_takeBackLatest_1 : decode cX0_takeBackLatest 1 = .ok (.getfield 24, 3) := by decide +kernel
theorem dX0_takeBackLatest_4 : decode cX0_takeBackLatest 4 = .ok (.ifCond .gt 4, 3) := by decide +kernel
theorem dX0_takeBackLatest_7 : decode cX0_takeBackLatest 7 = .ok (.return_, 1) := by decide +kernel
theorem dX0_takeBackLatest_8 : decode cX0_takeBackLatest 8 = .ok (.aload_n 0, 1) := by decide +kernel
theorem dX0_takeBackLatest_9 : decode cX0_takeBackLatest 9 = .ok (.dup, 1) := by decide +kernel
theorem dX0_takeBackLatest_10 : decode cX0_takeBackLatest 10 = .ok (.getfield 24, 3) := by decide +kernel
theorem dX0_takeBackLatest_13 : decode cX0_takeBackLatest 13 = .ok (.iconst 1, 1) := by decide +kernel
theorem dX0_takeBackLatest_14 : decode cX0_takeBackLatest 14 = .ok (.isub, 1) := by decide +kernel
theorem dX0_takeBackLatest_15 : decode cX0_takeBackLatest 15 = .ok (.putfield 24, 3) := by decide +kernel
theorem dX0_takeBackLatest_18 : decode cX0_takeBackLatest 18 = .ok (.aload_n 0, 1) := by decide +kernel
theorem dX0_takeBackLatest_19 : decode cX0_takeBackLatest 19 = .ok (.getfield 15, 3) := by decide +kernel
theorem dX0_takeBackLatest_22 : decode cX0_takeBackLatest 22 = .ok (.aload_n 0, 1) := by decide +kernel
theorem dX0_takeBackLatest_23 : decode cX0_takeBackLatest 23 = .ok (.getfield 24, 3) := by decide +kernel
theorem dX0_takeBackLatest_26 : decode cX0_takeBackLatest 26 = .ok (.iaload, 1) := by decide +kernel
theorem dX0_takeBackLatest_27 : decode cX0_takeBackLatest 27 = .ok (.istore_n 2, 1) := by decide +kernel
theorem dX0_takeBackLatest_28 : decode cX0_takeBackLatest 28 = .ok (.aload_n 0, 1) := by decide +kernel
theorem dX0_takeBackLatest_29 : decode cX0_takeBackLatest 29 = .ok (.getfield 11, 3) := by decide +kernel
theorem dX0_takeBackLatest_32 : decode cX0_takeBackLatest 32 = .ok (.aload_n 0, 1) := by decide +kernel
theorem dX0_takeBackLatest_33 : decode cX0_takeBackLatest 33 = .ok (.getfield 24, 3) := by decide +kernel
theorem dX0_takeBackLatest_36 : decode cX0_takeBackLatest 36 = .ok (.iaload, 1) := by decide +kernel
theorem dX0_takeBackLatest_37 : decode cX0_takeBackLatest 37 = .ok (.iconst 1, 1) := by decide +kernel
theorem dX0_takeBackLatest_38 : decode cX0_takeBackLatest 38 = .ok (.if_icmp .ne 20, 3) := by decide +kernel
theorem dX0_takeBackLatest_41 : decode cX0_takeBackLatest 41 = .ok (.aload_n 1, 1) := by decide +kernel
theorem dX0_takeBackLatest_42 : decode cX0_takeBackLatest 42 = .ok (.iconst 0, 1) := by decide +kernel
theorem dX0_takeBackLatest_43 : decode cX0_takeBackLatest 43 = .ok (.aload_n 1, 1) := by decide +kernel
theorem dX0_takeBackLatest_44 : decode cX0_takeBackLatest 44 = .ok (.getfield 37, 3) := by decide +kernel
theorem dX0_takeBackLatest_47 : decode cX0_takeBackLatest 47 = .ok (.iconst 1, 1) := by decide +kernel
theorem dX0_takeBackLatest_48 : decode cX0_takeBackLatest 48 = .ok (.isub, 1) := by decide +kernel
theorem dX0_takeBackLatest_49 : decode cX0_takeBackLatest 49 = .ok (.invokestatic 42, 3) := by decide +kernel
theorem dX0_takeBackLatest_52 : decode cX0_takeBackLatest 52 = .ok (.putfield 37, 3) := by decide +kernel
theorem dX0_takeBackLatest_55 : decode cX0_takeBackLatest 55 = .ok (.goto 135, 3) := by decide +kernel
theorem dX0_takeBackLatest_58 : decode cX0_takeBackLatest 58 = .ok (.aload_n 0, 1) := by decide +kernel
theorem dX0_takeBackLatest_59 : decode cX0_takeBackLatest 59 = .ok (.getfield 11, 3) := by decide +kernel
theorem dX0_takeBackLatest_62 : decode cX0_takeBackLatest 62 = .ok (.aload_n 0, 1) := by decide +kernel
theorem dX0_takeBackLatest_63 : decode cX0_takeBackLatest 63 = .ok (.getfield 24, 3) := by decide +kernel
theorem dX0_takeBackLatest_66 : decode cX0_takeBackLatest 66 = .ok (.iaload, 1) := by decide +kernel
theorem dX0_takeBackLatest_67 : decode cX0_takeBackLatest 67 = .ok (.ifCond .ne 31, 3) := by decide +kernel
theorem dX0_takeBackLatest_70 : decode cX0_takeBackLatest 70 = .ok (.iload_n 2, 1) := by decide +kernel
theorem dX0_takeBackLatest_71 : decode cX0_takeBackLatest 71 = .ok (.iconst 0, 1) := by decide +kernel
theorem dX0_takeBackLatest_72 : decode cX0_takeBackLatest 72 = .ok (.bipush 47, 2) := by decide +kernel
theorem dX0_takeBackLatest_74 : decode cX0_takeBackLatest 74 = .ok (.invokestatic 48, 3) := by decide +kernel
theorem dX0_takeBackLatest_77 : decode cX0_takeBackLatest 77 = .ok (.ifCond .eq 21, 3) := by decide +kernel
theorem dX0_takeBackLatest_80 : decode cX0_takeBackLatest 80 = .ok (.aload_n 1, 1) := by decide +kernel
theorem dX0_takeBackLatest_81 : decode cX0_takeBackLatest 81 = .ok (.getfield 52, 3) := by decide +kernel
theorem dX0_takeBackLatest_84 : decode cX0_takeBackLatest 84 = .ok (.iload_n 2, 1) := by decide +kernel
theorem dX0_takeBackLatest_85 : decode cX0_takeBackLatest 85 = .ok (.aload_n 0, 1) := by decide +kernel
theorem dX0_takeBackLatest_86 : decode cX0_takeBackLatest 86 = .ok (.getfield 18, 3) := by decide +kernel
theorem dX0_takeBackLatest_89 : decode cX0_takeBackLatest 89 = .ok (.aload_n 0, 1) := by decide +kernel
theorem dX0_takeBackLatest_90 : decode cX0_takeBackLatest 90 = .ok (.getfield 24, 3) := by decide +kernel
theorem dX0_takeBackLatest_93 : decode cX0_takeBackLatest 93 = .ok (.iaload, 1) := by decide +kernel
theorem dX0_takeBackLatest_94 : decode cX0_takeBackLatest 94 = .ok (.iastore, 1) := by decide +kernel
theorem dX0_takeBackLatest_95 : decode cX0_takeBackLatest 95 = .ok (.goto 95, 3) := by decide +kernel
theorem dX0_takeBackLatest_98 : decode cX0_takeBackLatest 98 = .ok (.aload_n 0, 1) := by decide +kernel
theorem dX0_takeBackLatest_99 : decode cX0_takeBackLatest 99 = .ok (.getfield 11, 3) := by decide +kernel
theorem dX0_takeBackLatest_102 : decode cX0_takeBackLatest 102 = .ok (.aload_n 0, 1) := by decide +kernel
theorem dX0_takeBackLatest_103 : decode cX0_takeBackLatest 103 = .ok (.getfield 24, 3) := by decide +kernel
theorem dX0_takeBackLatest_106 : decode cX0_takeBackLatest 106 = .ok (.iaload, 1) := by decide +kernel
theorem dX0_takeBackLatest_107 : decode cX0_takeBackLatest 107 = .ok (.iconst 2, 1) := by decide +kernel
theorem dX0_takeBackLatest_108 : decode cX0_takeBackLatest 108 = .ok (.if_icmp .ne 30, 3) := by decide +kernel
theorem dX0_takeBackLatest_111 : decode cX0_takeBackLatest 111 = .ok (.iload_n 2, 1) := by decide +kernel
theorem dX0_takeBackLatest_112 : decode cX0_takeBackLatest 112 = .ok (.iconst 0, 1) := by decide +kernel
theorem dX0_takeBackLatest_113 : decode cX0_takeBackLatest 113 = .ok (.iconst 5, 1) := by decide +kernel
theorem dX0_takeBackLatest_114 : decode cX0_takeBackLatest 114 = .ok (.invokestatic 48, 3) := by decide +kernel
theorem dX0_takeBackLatest_117 : decode cX0_takeBackLatest 117 = .ok (.ifCond .eq 21, 3) := by decide +kernel
theorem dX0_takeBackLatest_120 : decode cX0_takeBackLatest 120 = .ok (.aload_n 1, 1) := by decide +kernel
theorem dX0_takeBackLatest_121 : decode cX0_takeBackLatest 121 = .ok (.getfield 55, 3) := by decide +kernel
theorem dX0_takeBackLatest_124 : decode cX0_takeBackLatest 124 = .ok (.iload_n 2, 1) := by decide +kernel
theorem dX0_takeBackLatest_125 : decode cX0_takeBackLatest 125 = .ok (.aload_n 0, 1) := by decide +kernel
theorem dX0_takeBackLatest_126 : decode cX0_takeBackLatest 126 = .ok (.getfield 18, 3) := by decide +kernel
theorem dX0_takeBackLatest_129 : decode cX0_takeBackLatest 129 = .ok (.aload_n 0, 1) := by decide +kernel
theorem dX0_takeBackLatest_130 : decode cX0_takeBackLatest 130 = .ok (.getfield 24, 3) := by decide +kernel
theorem dX0_takeBackLatest_133 : decode cX0_takeBackLatest 133 = .ok (.iaload, 1) := by decide +kernel
theorem dX0_takeBackLatest_134 : decode cX0_takeBackLatest 134 = .ok (.iastore, 1) := by decide +kernel
theorem dX0_takeBackLatest_135 : decode cX0_takeBackLatest 135 = .ok (.goto 55, 3) := by decide +kernel
theorem dX0_takeBackLatest_138 : decode cX0_takeBackLatest 138 = .ok (.aload_n 0, 1) := by decide +kernel
theorem dX0_takeBackLatest_139 : decode cX0_takeBackLatest 139 = .ok (.getfield 11, 3) := by decide +kernel
theorem dX0_takeBackLatest_142 : decode cX0_takeBackLatest 142 = .ok (.aload_n 0, 1) := by decide +kernel
theorem dX0_takeBackLatest_143 : decode cX0_takeBackLatest 143 = .ok (.getfield 24, 3) := by decide +kernel
theorem dX0_takeBackLatest_146 : decode cX0_takeBackLatest 146 = .ok (.iaload, 1) := by decide +kernel
theorem dX0_takeBackLatest_147 : decode cX0_takeBackLatest 147 = .ok (.iconst 3, 1) := by decide +kernel
theorem dX0_takeBackLatest_148 : decode cX0_takeBackLatest 148 = .ok (.if_icmp .ne 42, 3) := by decide +kernel
theorem dX0_takeBackLatest_151 : decode cX0_takeBackLatest 151 = .ok (.iload_n 2, 1) := by decide +kernel
theorem dX0_takeBackLatest_152 : decode cX0_takeBackLatest 152 = .ok (.iconst 0, 1) := by decide +kernel
theorem dX0_takeBackLatest_153 : decode cX0_takeBackLatest 153 = .ok (.iconst 4, 1) := by decide +kernel
theorem dX0_takeBackLatest_154 : decode cX0_takeBackLatest 154 = .ok (.invokestatic 48, 3) := by decide +kernel
theorem dX0_takeBackLatest_157 : decode cX0_takeBackLatest 157 = .ok (.ifCond .eq 33, 3) := by decide +kernel
theorem dX0_takeBackLatest_160 : decode cX0_takeBackLatest 160 = .ok (.aload_n 1, 1) := by decide +kernel
theorem dX0_takeBackLatest_161 : decode cX0_takeBackLatest 161 = .ok (.getfield 58, 3) := by decide +kernel
theorem dX0_takeBackLatest_164 : decode cX0_takeBackLatest 164 = .ok (.iload_n 2, 1) := by decide +kernel
theorem dX0_takeBackLatest_165 : decode cX0_takeBackLatest 165 = .ok (.aload_n 0, 1) := by decide +kernel
theorem dX0_takeBackLatest_166 : decode cX0_takeBackLatest 166 = .ok (.getfield 18, 3) := by decide +kernel
theorem dX0_takeBackLatest_169 : decode cX0_takeBackLatest 169 = .ok (.aload_n 0, 1) := by decide +kernel
theorem dX0_takeBackLatest_170 : decode cX0_takeBackLatest 170 = .ok (.getfield 24, 3) := by decide +kernel
theorem dX0_takeBackLatest_173 : decode cX0_takeBackLatest 173 = .ok (.iaload, 1) := by decide +kernel
theorem dX0_takeBackLatest_174 : decode cX0_takeBackLatest 174 = .ok (.iastore, 1) := by decide +kernel
theorem dX0_takeBackLatest_175 : decode cX0_takeBackLatest 175 = .ok (.aload_n 1, 1) := by decide +kernel
theorem dX0_takeBackLatest_176 : decode cX0_takeBackLatest 176 = .ok (.getfield 61, 3) := by decide +kernel
theorem dX0_takeBackLatest_179 : decode cX0_takeBackLatest 179 = .ok (.iload_n 2, 1) := by decide +kernel
theorem dX0_takeBackLatest_180 : decode cX0_takeBackLatest 180 = .ok (.aload_n 0, 1) := by decide +kernel
theorem dX0_takeBackLatest_181 : decode cX0_takeBackLatest 181 = .ok (.getfield 21, 3) := by decide +kernel
theorem dX0_takeBackLatest_184 : decode cX0_takeBackLatest 184 = .ok (.aload_n 0, 1) := by decide +kernel
theorem dX0_takeBackLatest_185 : decode cX0_takeBackLatest 185 = .ok (.getfield 24, 3) := by decide +kernel
theorem dX0_takeBackLatest_188 : decode cX0_takeBackLatest 188 = .ok (.iaload, 1) := by decide +kernel
theorem dX0_takeBackLatest_189 : decode cX0_takeBackLatest 189 = .ok (.iastore, 1) := by decide +kernel
theorem dX0_takeBackLatest_190 : decode cX0_takeBackLatest 190 = .ok (.return_, 1) := by decide +kernel
theorem dX7_undo_0 : decode cX7_undo 0 = .ok (.aload_n 0, 1) := by decide +kernel
theorem dX7_undo_1 : decode cX7_undo 1 = .ok (.getfield 47, 3) := by decide +kernel
theorem dX7_undo_4 : decode cX7_undo 4 = .ok (.getfield 99, 3) := by decide +kernel
theorem dX7_undo_7 : decode cX7_undo 7 = .ok (.ifCond .gt 6, 3) := by decide +kernel
theorem dX7_undo_10 : decode cX7_undo 10 = .ok (.ldc 105, 2) := by decide +kernel
theorem dX7_undo_12 : decode cX7_undo 12 = .ok (.ireturn, 1) := by decide +kernel
theorem dX7_undo_13 : decode cX7_undo 13 = .ok (.aload_n 0, 1) := by decide +kernel
theorem dX7_undo_14 : decode cX7_undo 14 = .ok (.getfield 47, 3) := by decide +kernel
theorem dX7_undo_17 : decode cX7_undo 17 = .ok (.aload_n 0, 1) := by decide +kernel
theorem dX7_undo_18 : decode cX7_undo 18 = .ok (.getfield 36, 3) := by decide +kernel
theorem dX7_undo_21 : decode cX7_undo 21 = .ok (.invokevirtual 106, 3) := by decide +kernel
theorem dX7_undo_24 : decode cX7_undo 24 = .ok (.aload_n 0, 1) := by decide +kernel
theorem dX7_undo_25 : decode cX7_undo 25 = .ok (.getfield 47, 3) := by decide +kernel
theorem dX7_undo_28 : decode cX7_undo 28 = .ok (.getfield 99, 3) := by decide +kernel
theorem dX7_undo_31 : decode cX7_undo 31 = .ok (.ireturn, 1) := by decide +kernel
theorem dX8_undo_0 : decode cX8_undo 0 = .ok (.aload_n 0, 1) := by decide +kernel
theorem dX8_undo_1 : decode cX8_undo 1 = .ok (.getfield 235, 3) := by decide +kernel
theorem dX8_undo_4 : decode cX8_undo 4 = .ok (.ifCond .ne 6, 3) := by decide +kernel
theorem dX8_undo_7 : decode cX8_undo 7 = .ok (.ldc 238, 2) := by decide +kernel
theorem dX8_undo_9 : decode cX8_undo 9 = .ok (.ireturn, 1) := by decide +kernel
theorem dX8_undo_10 : decode cX8_undo 10 = .ok (.aload_n 0, 1) := by decide +kernel
theorem dX8_undo_11 : decode cX8_undo 11 = .ok (.dup, 1) := by decide +kernel
theorem dX8_undo_12 : decode cX8_undo 12 = .ok (.getfield 235, 3) := by decide +kernel
theorem dX8_undo_15 : decode cX8_undo 15 = .ok (.iconst 1, 1) := by decide +kernel
theorem dX8_undo_16 : decode cX8_undo 16 = .ok (.isub, 1) := by decide +kernel
theorem dX8_undo_17 : decode cX8_undo 17 = .ok (.putfield 235, 3) := by decide +kernel
theorem dX8_undo_20 : decode cX8_undo 20 = .ok (.aload_n 0, 1) := by decide +kernel
theorem dX8_undo_21 : decode cX8_undo 21 = .ok (.getfield 16, 3) := by decide +kernel
theorem dX8_undo_24 : decode cX8_undo 24 = .ok (.bipush 79, 2) := by decide +kernel
theorem dX8_undo_26 : decode cX8_undo 26 = .ok (.aload_n 0, 1) := by decide +kernel
theorem dX8_undo_27 : decode cX8_undo 27 = .ok (.getfield 235, 3) := by decide +kernel
theorem dX8_undo_30 : decode cX8_undo 30 = .ok (.imul, 1) := by decide +kernel
theorem dX8_undo_31 : decode cX8_undo 31 = .ok (.aload_n 0, 1) := by decide +kernel
theorem dX8_undo_32 : decode cX8_undo 32 = .ok (.getfield 7, 3) := by decide +kernel
theorem dX8_undo_35 : decode cX8_undo 35 = .ok (.iconst 0, 1) := by decide +kernel
theorem dX8_undo_36 : decode cX8_undo 36 = .ok (.invokestatic 231, 3) := by decide +kernel
theorem dX8_undo_39 : decode cX8_undo 39 = .ok (.aload_n 0, 1) := by decide +kernel
theorem dX8_undo_40 : decode cX8_undo 40 = .ok (.getfield 235, 3) := by decide +kernel
theorem dX8_undo_43 : decode cX8_undo 43 = .ok (.ireturn, 1) := by decide +kernel
theorem dX1_hasFeast_0 : decode cX1_hasFeast 0 = .ok (.iconst 0, 1) := by decide +kernel
theorem dX1_hasFeast_1 : decode cX1_hasFeast 1 = .ok (.iload_n 1, 1) := by decide +kernel
theorem dX1_hasFeast_2 : decode cX1_hasFeast 2 = .ok (.if_icmp .gt 15, 3) := by decide +kernel
theorem dX1_hasFeast_5 : decode cX1_hasFeast 5 = .ok (.iload_n 1, 1) := by decide +kernel
theorem dX1_hasFeast_6 : decode cX1_hasFeast 6 = .ok (.aload_n 0, 1) := by decide +kernel
theorem dX1_hasFeast_7 : decode cX1_hasFeast 7 = .ok (.getfield 48, 3) := by decide +kernel
theorem dX1_hasFeast_10 : decode cX1_hasFeast 10 = .ok (.if_icmp .ge 7, 3) := by decide +kernel
theorem dX1_hasFeast_13 : decode cX1_hasFeast 13 = .ok (.iconst 1, 1) := by decide +kernel
theorem dX1_hasFeast_14 : decode cX1_hasFeast 14 = .ok (.goto 4, 3) := by decide +kernel
theorem dX1_hasFeast_17 : decode cX1_hasFeast 17 = .ok (.iconst 0, 1) := by decide +kernel
theorem dX1_hasFeast_18 : decode cX1_hasFeast 18 = .ok (.ireturn, 1) := by decide +kernel
theorem dX1_mark_0 : decode cX1_mark 0 = .ok (.aload_n 0, 1) := by decide +kernel
theorem dX1_mark_1 : decode cX1_mark 1 = .ok (.iload_n 1, 1) := by decide +kernel
theorem dX1_mark_2 : decode cX1_mark 2 = .ok (.invokevirtual 70, 3) := by decide +kernel
theorem dX1_mark_5 : decode cX1_mark 5 = .ok (.ifCond .eq 25, 3) := by decide +kernel
theorem dX1_mark_8 : decode cX1_mark 8 = .ok (.iload_n 2, 1) := by decide +kernel
theorem dX1_mark_9 : decode cX1_mark 9 = .ok (.iconst 0, 1) := by decide +kernel
theorem dX1_mark_10 : decode cX1_mark 10 = .ok (.iconst 3, 1) := by decide +kernel
theorem dX1_mark_11 : decode cX1_mark 11 = .ok (.invokestatic 33, 3) := by decide +kernel
theorem dX1_mark_14 : decode cX1_mark 14 = .ok (.ifCond .eq 16, 3) := by decide +kernel
theorem dX1_mark_17 : decode cX1_mark 17 = .ok (.aload_n 0, 1) := by decide +kernel
theorem dX1_mark_18 : decode cX1_mark 18 = .ok (.getfield 15, 3) := by decide +kernel
theorem dX1_mark_21 : decode cX1_mark 21 = .ok (.iload_n 1, 1) := by decide +kernel
theorem dX1_mark_22 : decode cX1_mark 22 = .ok (.iconst 4, 1) := by decide +kernel
theorem dX1_mark_23 : decode cX1_mark 23 = .ok (.imul, 1) := by decide +kernel
theorem dX1_mark_24 : decode cX1_mark 24 = .ok (.iload_n 2, 1) := by decide +kernel
theorem dX1_mark_25 : decode cX1_mark 25 = .ok (.iadd, 1) := by decide +kernel
theorem dX1_mark_26 : decode cX1_mark 26 = .ok (.iaload, 1) := by decide +kernel
theorem dX1_mark_27 : decode cX1_mark 27 = .ok (.goto 4, 3) := by decide +kernel
theorem dX1_mark_30 : decode cX1_mark 30 = .ok (.iconst 0, 1) := by decide +kernel
theorem dX1_mark_31 : decode cX1_mark 31 = .ok (.ireturn, 1) := by decide +kernel
theorem dX1_canBe_0 : decode cX1_canBe 0 = .ok (.iload_n 0, 1) := by decide +kernel
theorem dX1_canBe_1 : decode cX1_canBe 1 = .ok (.iconst 0, 1) := by decide +kernel
theorem dX1_canBe_2 : decode cX1_canBe 2 = .ok (.iconst 3, 1) := by decide +kernel
theorem dX1_canBe_3 : decode cX1_canBe 3 = .ok (.invokestatic 33, 3) := by decide +kernel
theorem dX1_canBe_6 : decode cX1_canBe 6 = .ok (.ifCond .eq 41, 3) := by decide +kernel
theorem dX1_canBe_9 : decode cX1_canBe 9 = .ok (.iload_n 1, 1) := by decide +kernel
theorem dX1_canBe_10 : decode cX1_canBe 10 = .ok (.iload_n 0, 1) := by decide +kernel
theorem dX1_canBe_11 : decode cX1_canBe 11 = .ok (.invokestatic 37, 3) := by decide +kernel
theorem dX1_canBe_14 : decode cX1_canBe 14 = .ok (.iload_n 0, 1) := by decide +kernel
theorem dX1_canBe_15 : decode cX1_canBe 15 = .ok (.invokestatic 41, 3) := by decide +kernel
theorem dX1_canBe_18 : decode cX1_canBe 18 = .ok (.invokestatic 33, 3) := by decide +kernel
theorem dX1_canBe_21 : decode cX1_canBe 21 = .ok (.ifCond .eq 26, 3) := by decide +kernel
theorem dX1_canBe_24 : decode cX1_canBe 24 = .ok (.iload_n 2, 1) := by decide +kernel
theorem dX1_canBe_25 : decode cX1_canBe 25 = .ok (.iconst 1, 1) := by decide +kernel
theorem dX1_canBe_26 : decode cX1_canBe 26 = .ok (.iconst 5, 1) := by decide +kernel
theorem dX1_canBe_27 : decode cX1_canBe 27 = .ok (.invokestatic 33, 3) := by decide +kernel
theorem dX1_canBe_30 : decode cX1_canBe 30 = .ok (.ifCond .eq 17, 3) := by decide +kernel
theorem dX1_canBe_33 : decode cX1_canBe 33 = .ok (.iload_n 3, 1) := by decide +kernel
theorem dX1_canBe_34 : decode cX1_canBe 34 = .ok (.iconst 1, 1) := by decide +kernel
theorem dX1_canBe_35 : decode cX1_canBe 35 = .ok (.bipush 6, 2) := by decide +kernel
theorem dX1_canBe_37 : decode cX1_canBe 37 = .ok (.invokestatic 33, 3) := by decide +kernel
theorem dX1_canBe_40 : decode cX1_canBe 40 = .ok (.ifCond .eq 7, 3) := by decide +kernel
theorem dX1_canBe_43 : decode cX1_canBe 43 = .ok (.iconst 1, 1) := by decide +kernel
theorem dX1_canBe_44 : decode cX1_canBe 44 = .ok (.goto 4, 3) := by decide +kernel
theorem dX1_canBe_47 : decode cX1_canBe 47 = .ok (.iconst 0, 1) := by decide +kernel
theorem dX1_canBe_48 : decode cX1_canBe 48 = .ok (.ireturn, 1) := by decide +kernel
theorem dX0_forgetOldest_0 : decode cX0_forgetOldest 0 = .ok (.aload_n 0, 1) := by decide +kernel
theorem dX0_forgetOldest_1 : decode cX0_forgetOldest 1 = .ok (.getfield 11, 3) := by decide +kernel
theorem dX0_forgetOldest_4 : decode cX0_forgetOldest 4 = .ok (.iconst 1, 1) := by decide +kernel
theorem dX0_forgetOldest_5 : decode cX0_forgetOldest 5 = .ok (.aload_n 0, 1) := by decide +kernel
theorem dX0_forgetOldest_6 : decode cX0_forgetOldest 6 = .ok (.getfield 11, 3) := by decide +kernel
theorem dX0_forgetOldest_9 : decode cX0_forgetOldest 9 = .ok (.iconst 0, 1) := by decide +kernel
theorem dX0_forgetOldest_10 : decode cX0_forgetOldest 10 = .ok (.bipush 15, 2) := by decide +kernel
theorem dX0_forgetOldest_12 : decode cX0_forgetOldest 12 = .ok (.invokestatic 31, 3) := by decide +kernel
theorem dX0_forgetOldest_15 : decode cX0_forgetOldest 15 = .ok (.aload_n 0, 1) := by decide +kernel
theorem dX0_forgetOldest_16 : decode cX0_forgetOldest 16 = .ok (.getfield 15, 3) := by decide +kernel
theorem dX0_forgetOldest_19 : decode cX0_forgetOldest 19 = .ok (.iconst 1, 1) := by decide +kernel
theorem dX0_forgetOldest_20 : decode cX0_forgetOldest 20 = .ok (.aload_n 0, 1) := by decide +kernel
theorem dX0_forgetOldest_21 : decode cX0_forgetOldest 21 = .ok (.getfield 15, 3) := by decide +kernel
theorem dX0_forgetOldest_24 : decode cX0_forgetOldest 24 = .ok (.iconst 0, 1) := by decide +kernel
theorem dX0_forgetOldest_25 : decode cX0_forgetOldest 25 = .ok (.bipush 15, 2) := by decide +kernel
theorem dX0_forgetOldest_27 : decode cX0_forgetOldest 27 = .ok (.invokestatic 31, 3) := by decide +kernel
theorem dX0_forgetOldest_30 : decode cX0_forgetOldest 30 = .ok (.aload_n 0, 1) := by decide +kernel
theorem dX0_forgetOldest_31 : decode cX0_forgetOldest 31 = .ok (.getfield 18, 3) := by decide +kernel
theorem dX0_forgetOldest_34 : decode cX0_forgetOldest 34 = .ok (.iconst 1, 1) := by decide +kernel
theorem dX0_forgetOldest_35 : decode cX0_forgetOldest 35 = .ok (.aload_n 0, 1) := by decide +kernel
theorem dX0_forgetOldest_36 : decode cX0_forgetOldest 36 = .ok (.getfield 18, 3) := by decide +kernel
theorem dX0_forgetOldest_39 : decode cX0_forgetOldest 39 = .ok (.iconst 0, 1) := by decide +kernel
theorem dX0_forgetOldest_40 : decode cX0_forgetOldest 40 = .ok (.bipush 15, 2) := by decide +kernel
theorem dX0_forgetOldest_42 : decode cX0_forgetOldest 42 = .ok (.invokestatic 31, 3) := by decide +kernel
theorem dX0_forgetOldest_45 : decode cX0_forgetOldest 45 = .ok (.aload_n 0, 1) := by decide +kernel
theorem dX0_forgetOldest_46 : decode cX0_forgetOldest 46 = .ok (.getfield 21, 3) := by decide +kernel
theorem dX0_forgetOldest_49 : decode cX0_forgetOldest 49 = .ok (.iconst 1, 1) := by decide +kernel
theorem dX0_forgetOldest_50 : decode cX0_forgetOldest 50 = .ok (.aload_n 0, 1) := by decide +kernel
theorem dX0_forgetOldest_51 : decode cX0_forgetOldest 51 = .ok (.getfield 21, 3) := by decide +kernel
theorem dX0_forgetOldest_54 : decode cX0_forgetOldest 54 = .ok (.iconst 0, 1) := by decide +kernel
theorem dX0_forgetOldest_55 : decode cX0_forgetOldest 55 = .ok (.bipush 15, 2) := by decide +kernel
theorem dX0_forgetOldest_57 : decode cX0_forgetOldest 57 = .ok (.invokestatic 31, 3) := by decide +kernel
theorem dX0_forgetOldest_60 : decode cX0_forgetOldest 60 = .ok (.aload_n 0, 1) := by decide +kernel
theorem dX0_forgetOldest_61 : decode cX0_forgetOldest 61 = .ok (.bipush 15, 2) := by decide +kernel
theorem dX0_forgetOldest_63 : decode cX0_forgetOldest 63 = .ok (.putfield 24, 3) := by decide +kernel
theorem dX0_forgetOldest_66 : decode cX0_forgetOldest 66 = .ok (.return_, 1) := by decide +kernel
theorem dX0_keep_0 : decode cX0_keep 0 = .ok (.aload_n 0, 1) := by decide +kernel
theorem dX0_keep_1 : decode cX0_keep 1 = .ok (.getfield 24, 3) := by decide +kernel
theorem dX0_keep_4 : decode cX0_keep 4 = .ok (.bipush 16, 2) := by decide +kernel
theorem dX0_keep_6 : decode cX0_keep 6 = .ok (.if_icmp .lt 7, 3) := by decide +kernel
theorem dX0_keep_9 : decode cX0_keep 9 = .ok (.aload_n 0, 1) := by decide +kernel
theorem dX0_keep_10 : decode cX0_keep 10 = .ok (.invokevirtual 28, 3) := by decide +kernel
theorem dX0_keep_13 : decode cX0_keep 13 = .ok (.aload_n 0, 1) := by decide +kernel
theorem dX0_keep_14 : decode cX0_keep 14 = .ok (.getfield 11, 3) := by decide +kernel
theorem dX0_keep_17 : decode cX0_keep 17 = .ok (.aload_n 0, 1) := by decide +kernel
theorem dX0_keep_18 : decode cX0_keep 18 = .ok (.getfield 24, 3) := by decide +kernel
theorem dX0_keep_21 : decode cX0_keep 21 = .ok (.iload_n 1, 1) := by decide +kernel
theorem dX0_keep_22 : decode cX0_keep 22 = .ok (.iastore, 1) := by decide +kernel
theorem dX0_keep_23 : decode cX0_keep 23 = .ok (.aload_n 0, 1) := by decide +kernel
theorem dX0_keep_24 : decode cX0_keep 24 = .ok (.getfield 15, 3) := by decide +kernel
theorem dX0_keep_27 : decode cX0_keep 27 = .ok (.aload_n 0, 1) := by decide +kernel
theorem dX0_keep_28 : decode cX0_keep 28 = .ok (.getfield 24, 3) := by decide +kernel
theorem dX0_keep_31 : decode cX0_keep 31 = .ok (.iload_n 2, 1) := by decide +kernel
theorem dX0_keep_32 : decode cX0_keep 32 = .ok (.iastore, 1) := by decide +kernel
theorem dX0_keep_33 : decode cX0_keep 33 = .ok (.aload_n 0, 1) := by decide +kernel
theorem dX0_keep_34 : decode cX0_keep 34 = .ok (.getfield 18, 3) := by decide +kernel
theorem dX0_keep_37 : decode cX0_keep 37 = .ok (.aload_n 0, 1) := by decide +kernel
theorem dX0_keep_38 : decode cX0_keep 38 = .ok (.getfield 24, 3) := by decide +kernel
theorem dX0_keep_41 : decode cX0_keep 41 = .ok (.iload_n 3, 1) := by decide +kernel
theorem dX0_keep_42 : decode cX0_keep 42 = .ok (.iastore, 1) := by decide +kernel
theorem dX0_keep_43 : decode cX0_keep 43 = .ok (.aload_n 0, 1) := by decide +kernel
theorem dX0_keep_44 : decode cX0_keep 44 = .ok (.getfield 21, 3) := by decide +kernel
theorem dX0_keep_47 : decode cX0_keep 47 = .ok (.aload_n 0, 1) := by decide +kernel
theorem dX0_keep_48 : decode cX0_keep 48 = .ok (.getfield 24, 3) := by decide +kernel
theorem dX0_keep_51 : decode cX0_keep 51 = .ok (.iload 4, 2) := by decide +kernel
theorem dX0_keep_53 : decode cX0_keep 53 = .ok (.iastore, 1) := by decide +kernel
theorem dX0_keep_54 : decode cX0_keep 54 = .ok (.aload_n 0, 1) := by decide +kernel
theorem dX0_keep_55 : decode cX0_keep 55 = .ok (.dup, 1) := by decide +kernel
theorem dX0_keep_56 : decode cX0_keep 56 = .ok (.getfield 24, 3) := by decide +kernel
theorem dX0_keep_59 : decode cX0_keep 59 = .ok (.iconst 1, 1) := by decide +kernel
theorem dX0_keep_60 : decode cX0_keep 60 = .ok (.iadd, 1) := by decide +kernel
theorem dX0_keep_61 : decode cX0_keep 61 = .ok (.putfield 24, 3) := by decide +kernel
theorem dX0_keep_64 : decode cX0_keep 64 = .ok (.return_, 1) := by decide +kernel
theorem dX7_alter_0 : decode cX7_alter 0 = .ok (.aload_n 0, 1) := by decide +kernel
theorem dX7_alter_1 : decode cX7_alter 1 = .ok (.getfield 36, 3) := by decide +kernel
theorem dX7_alter_4 : decode cX7_alter 4 = .ok (.iload_n 1, 1) := by decide +kernel
theorem dX7_alter_5 : decode cX7_alter 5 = .ok (.invokevirtual 109, 3) := by decide +kernel
theorem dX7_alter_8 : decode cX7_alter 8 = .ok (.ifCond .eq 12, 3) := by decide +kernel
theorem dX7_alter_11 : decode cX7_alter 11 = .ok (.iload_n 2, 1) := by decide +kernel
theorem dX7_alter_12 : decode cX7_alter 12 = .ok (.iconst 0, 1) := by decide +kernel
theorem dX7_alter_13 : decode cX7_alter 13 = .ok (.iconst 3, 1) := by decide +kernel
theorem dX7_alter_14 : decode cX7_alter 14 = .ok (.invokestatic 68, 3) := by decide +kernel
theorem dX7_alter_17 : decode cX7_alter 17 = .ok (.ifCond .ne 6, 3) := by decide +kernel
theorem dX7_alter_20 : decode cX7_alter 20 = .ok (.ldc 72, 2) := by decide +kernel
theorem dX7_alter_22 : decode cX7_alter 22 = .ok (.ireturn, 1) := by decide +kernel
theorem dX7_alter_23 : decode cX7_alter 23 = .ok (.iload_n 2, 1) := by decide +kernel
theorem dX7_alter_24 : decode cX7_alter 24 = .ok (.ifCond .ne 7, 3) := by decide +kernel
theorem dX7_alter_27 : decode cX7_alter 27 = .ok (.iload_n 3, 1) := by decide +kernel
theorem dX7_alter_28 : decode cX7_alter 28 = .ok (.goto 12, 3) := by decide +kernel
theorem dX7_alter_31 : decode cX7_alter 31 = .ok (.aload_n 0, 1) := by decide +kernel
theorem dX7_alter_32 : decode cX7_alter 32 = .ok (.getfield 36, 3) := by decide +kernel
theorem dX7_alter_35 : decode cX7_alter 35 = .ok (.iload_n 1, 1) := by decide +kernel
theorem dX7_alter_36 : decode cX7_alter 36 = .ok (.iconst 0, 1) := by decide +kernel
theorem dX7_alter_37 : decode cX7_alter 37 = .ok (.invokevirtual 112, 3) := by decide +kernel
theorem dX7_alter_40 : decode cX7_alter 40 = .ok (.istore 4, 2) := by decide +kernel
theorem dX7_alter_42 : decode cX7_alter 42 = .ok (.iload_n 2, 1) := by decide +kernel
theorem dX7_alter_43 : decode cX7_alter 43 = .ok (.iconst 1, 1) := by decide +kernel
theorem dX7_alter_44 : decode cX7_alter 44 = .ok (.if_icmp .ne 7, 3) := by decide +kernel
theorem dX7_alter_47 : decode cX7_alter 47 = .ok (.iload_n 3, 1) := by decide +kernel
theorem dX7_alter_48 : decode cX7_alter 48 = .ok (.goto 12, 3) := by decide +kernel
theorem dX7_alter_51 : decode cX7_alter 51 = .ok (.aload_n 0, 1) := by decide +kernel
theorem dX7_alter_52 : decode cX7_alter 52 = .ok (.getfield 36, 3) := by decide +kernel
theorem dX7_alter_55 : decode cX7_alter 55 = .ok (.iload_n 1, 1) := by decide +kernel
theorem dX7_alter_56 : decode cX7_alter 56 = .ok (.iconst 1, 1) := by decide +kernel
theorem dX7_alter_57 : decode cX7_alter 57 = .ok (.invokevirtual 112, 3) := by decide +kernel
theorem dX7_alter_60 : decode cX7_alter 60 = .ok (.istore 5, 2) := by decide +kernel
theorem dX7_alter_62 : decode cX7_alter 62 = .ok (.iload_n 2, 1) := by decide +kernel
theorem dX7_alter_63 : decode cX7_alter 63 = .ok (.iconst 2, 1) := by decide +kernel
theorem dX7_alter_64 : decode cX7_alter 64 = .ok (.if_icmp .ne 7, 3) := by decide +kernel
theorem dX7_alter_67 : decode cX7_alter 67 = .ok (.iload_n 3, 1) := by decide +kernel
theorem dX7_alter_68 : decode cX7_alter 68 = .ok (.goto 12, 3) := by decide +kernel
theorem dX7_alter_71 : decode cX7_alter 71 = .ok (.aload_n 0, 1) := by decide +kernel
theorem dX7_alter_72 : decode cX7_alter 72 = .ok (.getfield 36, 3) := by decide +kernel
theorem dX7_alter_75 : decode cX7_alter 75 = .ok (.iload_n 1, 1) := by decide +kernel
theorem dX7_alter_76 : decode cX7_alter 76 = .ok (.iconst 2, 1) := by decide +kernel
theorem dX7_alter_77 : decode cX7_alter 77 = .ok (.invokevirtual 112, 3) := by decide +kernel
theorem dX7_alter_80 : decode cX7_alter 80 = .ok (.istore 6, 2) := by decide +kernel
theorem dX7_alter_82 : decode cX7_alter 82 = .ok (.iload_n 2, 1) := by decide +kernel
theorem dX7_alter_83 : decode cX7_alter 83 = .ok (.iconst 3, 1) := by decide +kernel
theorem dX7_alter_84 : decode cX7_alter 84 = .ok (.if_icmp .ne 7, 3) := by decide +kernel
theorem dX7_alter_87 : decode cX7_alter 87 = .ok (.iload_n 3, 1) := by decide +kernel
theorem dX7_alter_88 : decode cX7_alter 88 = .ok (.goto 12, 3) := by decide +kernel
theorem dX7_alter_91 : decode cX7_alter 91 = .ok (.aload_n 0, 1) := by decide +kernel
theorem dX7_alter_92 : decode cX7_alter 92 = .ok (.getfield 36, 3) := by decide +kernel
theorem dX7_alter_95 : decode cX7_alter 95 = .ok (.iload_n 1, 1) := by decide +kernel
theorem dX7_alter_96 : decode cX7_alter 96 = .ok (.iconst 3, 1) := by decide +kernel
theorem dX7_alter_97 : decode cX7_alter 97 = .ok (.invokevirtual 112, 3) := by decide +kernel
theorem dX7_alter_100 : decode cX7_alter 100 = .ok (.istore 7, 2) := by decide +kernel
theorem dX7_alter_102 : decode cX7_alter 102 = .ok (.iload 4, 2) := by decide +kernel
theorem dX7_alter_104 : decode cX7_alter 104 = .ok (.iload 5, 2) := by decide +kernel
theorem dX7_alter_106 : decode cX7_alter 106 = .ok (.iload 6, 2) := by decide +kernel
theorem dX7_alter_108 : decode cX7_alter 108 = .ok (.iload 7, 2) := by decide +kernel
theorem dX7_alter_110 : decode cX7_alter 110 = .ok (.invokestatic 116, 3) := by decide +kernel
theorem dX7_alter_113 : decode cX7_alter 113 = .ok (.ifCond .ne 6, 3) := by decide +kernel
theorem dX7_alter_116 : decode cX7_alter 116 = .ok (.ldc 72, 2) := by decide +kernel
theorem dX7_alter_118 : decode cX7_alter 118 = .ok (.ireturn, 1) := by decide +kernel
theorem dX7_alter_119 : decode cX7_alter 119 = .ok (.aload_n 0, 1) := by decide +kernel
theorem dX7_alter_120 : decode cX7_alter 120 = .ok (.getfield 36, 3) := by decide +kernel
theorem dX7_alter_123 : decode cX7_alter 123 = .ok (.iload_n 1, 1) := by decide +kernel
theorem dX7_alter_124 : decode cX7_alter 124 = .ok (.iload_n 2, 1) := by decide +kernel
theorem dX7_alter_125 : decode cX7_alter 125 = .ok (.invokevirtual 112, 3) := by decide +kernel
theorem dX7_alter_128 : decode cX7_alter 128 = .ok (.istore 8, 2) := by decide +kernel
theorem dX7_alter_130 : decode cX7_alter 130 = .ok (.aload_n 0, 1) := by decide +kernel
theorem dX7_alter_131 : decode cX7_alter 131 = .ok (.getfield 47, 3) := by decide +kernel
theorem dX7_alter_134 : decode cX7_alter 134 = .ok (.iconst 0, 1) := by decide +kernel
theorem dX7_alter_135 : decode cX7_alter 135 = .ok (.iload_n 1, 1) := by decide +kernel
theorem dX7_alter_136 : decode cX7_alter 136 = .ok (.iconst 4, 1) := by decide +kernel
theorem dX7_alter_137 : decode cX7_alter 137 = .ok (.imul, 1) := by decide +kernel
theorem dX7_alter_138 : decode cX7_alter 138 = .ok (.iload_n 2, 1) := by decide +kernel
theorem dX7_alter_139 : decode cX7_alter 139 = .ok (.iadd, 1) := by decide +kernel
theorem dX7_alter_140 : decode cX7_alter 140 = .ok (.iload 8, 2) := by decide +kernel
theorem dX7_alter_142 : decode cX7_alter 142 = .ok (.iconst 0, 1) := by decide +kernel
theorem dX7_alter_143 : decode cX7_alter 143 = .ok (.invokevirtual 120, 3) := by decide +kernel
theorem dX7_alter_146 : decode cX7_alter 146 = .ok (.aload_n 0, 1) := by decide +kernel
theorem dX7_alter_147 : decode cX7_alter 147 = .ok (.getfield 36, 3) := by decide +kernel
theorem dX7_alter_150 : decode cX7_alter 150 = .ok (.getfield 124, 3) := by decide +kernel
theorem dX7_alter_153 : decode cX7_alter 153 = .ok (.iload_n 1, 1) := by decide +kernel
theorem dX7_alter_154 : decode cX7_alter 154 = .ok (.iconst 4, 1) := by decide +kernel
theorem dX7_alter_155 : decode cX7_alter 155 = .ok (.imul, 1) := by decide +kernel
theorem dX7_alter_156 : decode cX7_alter 156 = .ok (.iload_n 2, 1) := by decide +kernel
theorem dX7_alter_157 : decode cX7_alter 157 = .ok (.iadd, 1) := by decide +kernel
theorem dX7_alter_158 : decode cX7_alter 158 = .ok (.iload_n 3, 1) := by decide +kernel
theorem dX7_alter_159 : decode cX7_alter 159 = .ok (.iastore, 1) := by decide +kernel
theorem dX7_alter_160 : decode cX7_alter 160 = .ok (.iload 8, 2) := by decide +kernel
theorem dX7_alter_162 : decode cX7_alter 162 = .ok (.ireturn, 1) := by decide +kernel
theorem dX8_isFeast_0 : decode cX8_isFeast 0 = .ok (.iload_n 1, 1) := by decide +kernel
theorem dX8_isFeast_1 : decode cX8_isFeast 1 = .ok (.i2l, 1) := by decide +kernel
theorem dX8_isFeast_2 : decode cX8_isFeast 2 = .ok (.lconst 0, 1) := by decide +kernel
theorem dX8_isFeast_3 : decode cX8_isFeast 3 = .ok (.aload_n 0, 1) := by decide +kernel
theorem dX8_isFeast_4 : decode cX8_isFeast 4 = .ok (.getfield 7, 3) := by decide +kernel
theorem dX8_isFeast_7 : decode cX8_isFeast 7 = .ok (.bipush 6, 2) := by decide +kernel
theorem dX8_isFeast_9 : decode cX8_isFeast 9 = .ok (.iaload, 1) := by decide +kernel
theorem dX8_isFeast_10 : decode cX8_isFeast 10 = .ok (.iconst 1, 1) := by decide +kernel
theorem dX8_isFeast_11 : decode cX8_isFeast 11 = .ok (.isub, 1) := by decide +kernel
theorem dX8_isFeast_12 : decode cX8_isFeast 12 = .ok (.i2l, 1) := by decide +kernel
theorem dX8_isFeast_13 : decode cX8_isFeast 13 = .ok (.invokestatic 55, 3) := by decide +kernel
theorem dX8_isFeast_16 : decode cX8_isFeast 16 = .ok (.ireturn, 1) := by decide +kernel
theorem dX8_of_0 : decode cX8_of 0 = .ok (.aload_n 0, 1) := by decide +kernel
theorem dX8_of_1 : decode cX8_of 1 = .ok (.getfield 7, 3) := by decide +kernel
theorem dX8_of_4 : decode cX8_of 4 = .ok (.bipush 9, 2) := by decide +kernel
theorem dX8_of_6 : decode cX8_of 6 = .ok (.iconst 4, 1) := by decide +kernel
theorem dX8_of_7 : decode cX8_of 7 = .ok (.iload_n 1, 1) := by decide +kernel
theorem dX8_of_8 : decode cX8_of 8 = .ok (.imul, 1) := by decide +kernel
theorem dX8_of_9 : decode cX8_of 9 = .ok (.iadd, 1) := by decide +kernel
theorem dX8_of_10 : decode cX8_of 10 = .ok (.iload_n 2, 1) := by decide +kernel
theorem dX8_of_11 : decode cX8_of 11 = .ok (.iadd, 1) := by decide +kernel
theorem dX8_of_12 : decode cX8_of 12 = .ok (.iaload, 1) := by decide +kernel
theorem dX8_of_13 : decode cX8_of 13 = .ok (.ireturn, 1) := by decide +kernel
theorem dX8_isN_0 : decode cX8_isN 0 = .ok (.iload_n 0, 1) := by decide +kernel
theorem dX8_isN_1 : decode cX8_isN 1 = .ok (.iconst 2, 1) := by decide +kernel
theorem dX8_isN_2 : decode cX8_isN 2 = .ok (.if_icmp .ge 15, 3) := by decide +kernel
theorem dX8_isN_5 : decode cX8_isN 5 = .ok (.iload_n 1, 1) := by decide +kernel
theorem dX8_isN_6 : decode cX8_isN 6 = .ok (.i2l, 1) := by decide +kernel
theorem dX8_isN_7 : decode cX8_isN 7 = .ok (.lconst 0, 1) := by decide +kernel
theorem dX8_isN_8 : decode cX8_isN 8 = .ok (.ldc2_w 239, 3) := by decide +kernel
theorem dX8_isN_11 : decode cX8_isN 11 = .ok (.invokestatic 55, 3) := by decide +kernel
theorem dX8_isN_14 : decode cX8_isN 14 = .ok (.goto 12, 3) := by decide +kernel
theorem dX8_isN_17 : decode cX8_isN 17 = .ok (.iload_n 1, 1) := by decide +kernel
theorem dX8_isN_18 : decode cX8_isN 18 = .ok (.i2l, 1) := by decide +kernel
theorem dX8_isN_19 : decode cX8_isN 19 = .ok (.lconst 1, 1) := by decide +kernel
theorem dX8_isN_20 : decode cX8_isN 20 = .ok (.ldc2_w 241, 3) := by decide +kernel
theorem dX8_isN_23 : decode cX8_isN 23 = .ok (.invokestatic 55, 3) := by decide +kernel
theorem dX8_isN_26 : decode cX8_isN 26 = .ok (.ireturn, 1) := by decide +kernel
theorem dX8_mayBe_0 : decode cX8_mayBe 0 = .ok (.iload_n 2, 1) := by decide +kernel
theorem dX8_mayBe_1 : decode cX8_mayBe 1 = .ok (.tableswitch 93 0 3 #[31, 62, 73, 83], 31) := by decide +kernel
theorem dX8_mayBe_32 : decode cX8_mayBe 32 = .ok (.iload_n 3, 1) := by decide +kernel
theorem dX8_mayBe_33 : decode cX8_mayBe 33 = .ok (.i2l, 1) := by decide +kernel
theorem dX8_mayBe_34 : decode cX8_mayBe 34 = .ok (.lconst 0, 1) := by decide +kernel
theorem dX8_mayBe_35 : decode cX8_mayBe 35 = .ok (.ldc2_w 243, 3) := by decide +kernel
theorem dX8_mayBe_38 : decode cX8_mayBe 38 = .ok (.invokestatic 55, 3) := by decide +kernel
theorem dX8_mayBe_41 : decode cX8_mayBe 41 = .ok (.ifCond .eq 20, 3) := by decide +kernel
theorem dX8_mayBe_44 : decode cX8_mayBe 44 = .ok (.iload_n 3, 1) := by decide +kernel
theorem dX8_mayBe_45 : decode cX8_mayBe 45 = .ok (.aload_n 0, 1) := by decide +kernel
theorem dX8_mayBe_46 : decode cX8_mayBe 46 = .ok (.iload_n 1, 1) := by decide +kernel
theorem dX8_mayBe_47 : decode cX8_mayBe 47 = .ok (.iconst 1, 1) := by decide +kernel
theorem dX8_mayBe_48 : decode cX8_mayBe 48 = .ok (.invokevirtual 84, 3) := by decide +kernel
theorem dX8_mayBe_51 : decode cX8_mayBe 51 = .ok (.invokestatic 245, 3) := by decide +kernel
theorem dX8_mayBe_54 : decode cX8_mayBe 54 = .ok (.ifCond .eq 7, 3) := by decide +kernel
theorem dX8_mayBe_57 : decode cX8_mayBe 57 = .ok (.iconst 1, 1) := by decide +kernel
theorem dX8_mayBe_58 : decode cX8_mayBe 58 = .ok (.goto 4, 3) := by decide +kernel
theorem dX8_mayBe_61 : decode cX8_mayBe 61 = .ok (.iconst 0, 1) := by decide +kernel
theorem dX8_mayBe_62 : decode cX8_mayBe 62 = .ok (.ireturn, 1) := by decide +kernel
theorem dX8_mayBe_63 : decode cX8_mayBe 63 = .ok (.aload_n 0, 1) := by decide +kernel
theorem dX8_mayBe_64 : decode cX8_mayBe 64 = .ok (.iload_n 1, 1) := by decide +kernel
theorem dX8_mayBe_65 : decode cX8_mayBe 65 = .ok (.iconst 0, 1) := by decide +kernel
theorem dX8_mayBe_66 : decode cX8_mayBe 66 = .ok (.invokevirtual 84, 3) := by decide +kernel
theorem dX8_mayBe_69 : decode cX8_mayBe 69 = .ok (.iload_n 3, 1) := by decide +kernel
theorem dX8_mayBe_70 : decode cX8_mayBe 70 = .ok (.invokestatic 245, 3) := by decide +kernel
theorem dX8_mayBe_73 : decode cX8_mayBe 73 = .ok (.ireturn, 1) := by decide +kernel
theorem dX8_mayBe_74 : decode cX8_mayBe 74 = .ok (.iload_n 3, 1) := by decide +kernel
theorem dX8_mayBe_75 : decode cX8_mayBe 75 = .ok (.i2l, 1) := by decide +kernel
theorem dX8_mayBe_76 : decode cX8_mayBe 76 = .ok (.lconst 1, 1) := by decide +kernel
theorem dX8_mayBe_77 : decode cX8_mayBe 77 = .ok (.ldc2_w 248, 3) := by decide +kernel
theorem dX8_mayBe_80 : decode cX8_mayBe 80 = .ok (.invokestatic 55, 3) := by decide +kernel
theorem dX8_mayBe_83 : decode cX8_mayBe 83 = .ok (.ireturn, 1) := by decide +kernel
theorem dX8_mayBe_84 : decode cX8_mayBe 84 = .ok (.iload_n 3, 1) := by decide +kernel
theorem dX8_mayBe_85 : decode cX8_mayBe 85 = .ok (.i2l, 1) := by decide +kernel
theorem dX8_mayBe_86 : decode cX8_mayBe 86 = .ok (.lconst 1, 1) := by decide +kernel
theorem dX8_mayBe_87 : decode cX8_mayBe 87 = .ok (.ldc2_w 250, 3) := by decide +kernel
theorem dX8_mayBe_90 : decode cX8_mayBe 90 = .ok (.invokestatic 55, 3) := by decide +kernel
theorem dX8_mayBe_93 : decode cX8_mayBe 93 = .ok (.ireturn, 1) := by decide +kernel
theorem dX8_mayBe_94 : decode cX8_mayBe 94 = .ok (.iconst 0, 1) := by decide +kernel
theorem dX8_mayBe_95 : decode cX8_mayBe 95 = .ok (.ireturn, 1) := by decide +kernel
theorem dX8_notes_0 : decode cX8_notes 0 = .ok (.aload_n 0, 1) := by decide +kernel
theorem dX8_notes_1 : decode cX8_notes 1 = .ok (.getfield 235, 3) := by decide +kernel
theorem dX8_notes_4 : decode cX8_notes 4 = .ok (.bipush 16, 2) := by decide +kernel
theorem dX8_notes_6 : decode cX8_notes 6 = .ok (.if_icmp .ne 43, 3) := by decide +kernel
theorem dX8_notes_9 : decode cX8_notes 9 = .ok (.iconst 0, 1) := by decide +kernel
theorem dX8_notes_10 : decode cX8_notes 10 = .ok (.istore_n 1, 1) := by decide +kernel
theorem dX8_notes_11 : decode cX8_notes 11 = .ok (.iload_n 1, 1) := by decide +kernel
theorem dX8_notes_12 : decode cX8_notes 12 = .ok (.sipush 1185, 3) := by decide +kernel
theorem dX8_notes_15 : decode cX8_notes 15 = .ok (.if_icmp .ge 24, 3) := by decide +kernel
theorem dX8_notes_18 : decode cX8_notes 18 = .ok (.aload_n 0, 1) := by decide +kernel
theorem dX8_notes_19 : decode cX8_notes 19 = .ok (.getfield 16, 3) := by decide +kernel
theorem dX8_notes_22 : decode cX8_notes 22 = .ok (.iload_n 1, 1) := by decide +kernel
theorem dX8_notes_23 : decode cX8_notes 23 = .ok (.aload_n 0, 1) := by decide +kernel
theorem dX8_notes_24 : decode cX8_notes 24 = .ok (.getfield 16, 3) := by decide +kernel
theorem dX8_notes_27 : decode cX8_notes 27 = .ok (.iload_n 1, 1) := by decide +kernel
theorem dX8_notes_28 : decode cX8_notes 28 = .ok (.bipush 79, 2) := by decide +kernel
theorem dX8_notes_30 : decode cX8_notes 30 = .ok (.iadd, 1) := by decide +kernel
theorem dX8_notes_31 : decode cX8_notes 31 = .ok (.iaload, 1) := by decide +kernel
theorem dX8_notes_32 : decode cX8_notes 32 = .ok (.iastore, 1) := by decide +kernel
theorem dX8_notes_33 : decode cX8_notes 33 = .ok (.iinc 1 1, 3) := by decide +kernel
theorem dX8_notes_36 : decode cX8_notes 36 = .ok (.goto (-25), 3) := by decide +kernel
theorem dX8_notes_39 : decode cX8_notes 39 = .ok (.aload_n 0, 1) := by decide +kernel
theorem dX8_notes_40 : decode cX8_notes 40 = .ok (.dup, 1) := by decide +kernel
theorem dX8_notes_41 : decode cX8_notes 41 = .ok (.getfield 235, 3) := by decide +kernel
theorem dX8_notes_44 : decode cX8_notes 44 = .ok (.iconst 1, 1) := by decide +kernel
theorem dX8_notes_45 : decode cX8_notes 45 = .ok (.isub, 1) := by decide +kernel
theorem dX8_notes_46 : decode cX8_notes 46 = .ok (.putfield 235, 3) := by decide +kernel
theorem dX8_notes_49 : decode cX8_notes 49 = .ok (.aload_n 0, 1) := by decide +kernel
theorem dX8_notes_50 : decode cX8_notes 50 = .ok (.getfield 7, 3) := by decide +kernel
theorem dX8_notes_53 : decode cX8_notes 53 = .ok (.iconst 0, 1) := by decide +kernel
theorem dX8_notes_54 : decode cX8_notes 54 = .ok (.aload_n 0, 1) := by decide +kernel
theorem dX8_notes_55 : decode cX8_notes 55 = .ok (.getfield 16, 3) := by decide +kernel
theorem dX8_notes_58 : decode cX8_notes 58 = .ok (.bipush 79, 2) := by decide +kernel
theorem dX8_notes_60 : decode cX8_notes 60 = .ok (.aload_n 0, 1) := by decide +kernel
theorem dX8_notes_61 : decode cX8_notes 61 = .ok (.getfield 235, 3) := by decide +kernel
theorem dX8_notes_64 : decode cX8_notes 64 = .ok (.imul, 1) := by decide +kernel
theorem dX8_notes_65 : decode cX8_notes 65 = .ok (.invokestatic 231, 3) := by decide +kernel
theorem dX8_notes_68 : decode cX8_notes 68 = .ok (.aload_n 0, 1) := by decide +kernel
theorem dX8_notes_69 : decode cX8_notes 69 = .ok (.dup, 1) := by decide +kernel
theorem dX8_notes_70 : decode cX8_notes 70 = .ok (.getfield 235, 3) := by decide +kernel
theorem dX8_notes_73 : decode cX8_notes 73 = .ok (.iconst 1, 1) := by decide +kernel
theorem dX8_notes_74 : decode cX8_notes 74 = .ok (.iadd, 1) := by decide +kernel
theorem dX8_notes_75 : decode cX8_notes 75 = .ok (.putfield 235, 3) := by decide +kernel
theorem dX8_notes_78 : decode cX8_notes 78 = .ok (.return_, 1) := by decide +kernel
theorem dX8_alter_0 : decode cX8_alter 0 = .ok (.aload_n 0, 1) := by decide +kernel
theorem dX8_alter_1 : decode cX8_alter 1 = .ok (.iload_n 1, 1) := by decide +kernel
theorem dX8_alter_2 : decode cX8_alter 2 = .ok (.invokevirtual 252, 3) := by decide +kernel
theorem dX8_alter_5 : decode cX8_alter 5 = .ok (.ifCond .eq 13, 3) := by decide +kernel
theorem dX8_alter_8 : decode cX8_alter 8 = .ok (.aload_n 0, 1) := by decide +kernel
theorem dX8_alter_9 : decode cX8_alter 9 = .ok (.iload_n 1, 1) := by decide +kernel
theorem dX8_alter_10 : decode cX8_alter 10 = .ok (.iload_n 2, 1) := by decide +kernel
theorem dX8_alter_11 : decode cX8_alter 11 = .ok (.iload_n 3, 1) := by decide +kernel
theorem dX8_alter_12 : decode cX8_alter 12 = .ok (.invokevirtual 255, 3) := by decide +kernel
theorem dX8_alter_15 : decode cX8_alter 15 = .ok (.ifCond .ne 6, 3) := by decide +kernel
theorem dX8_alter_18 : decode cX8_alter 18 = .ok (.ldc 209, 2) := by decide +kernel
theorem dX8_alter_20 : decode cX8_alter 20 = .ok (.ireturn, 1) := by decide +kernel
theorem dX8_alter_21 : decode cX8_alter 21 = .ok (.aload_n 0, 1) := by decide +kernel
theorem dX8_alter_22 : decode cX8_alter 22 = .ok (.invokevirtual 258, 3) := by decide +kernel
theorem dX8_alter_25 : decode cX8_alter 25 = .ok (.aload_n 0, 1) := by decide +kernel
theorem dX8_alter_26 : decode cX8_alter 26 = .ok (.iload_n 1, 1) := by decide +kernel
theorem dX8_alter_27 : decode cX8_alter 27 = .ok (.iload_n 2, 1) := by decide +kernel
theorem dX8_alter_28 : decode cX8_alter 28 = .ok (.invokevirtual 84, 3) := by decide +kernel
theorem dX8_alter_31 : decode cX8_alter 31 = .ok (.istore 4, 2) := by decide +kernel
theorem dX8_alter_33 : decode cX8_alter 33 = .ok (.aload_n 0, 1) := by decide +kernel
theorem dX8_alter_34 : decode cX8_alter 34 = .ok (.getfield 7, 3) := by decide +kernel
theorem dX8_alter_37 : decode cX8_alter 37 = .ok (.bipush 9, 2) := by decide +kernel
theorem dX8_alter_39 : decode cX8_alter 39 = .ok (.iconst 4, 1) := by decide +kernel
theorem dX8_alter_40 : decode cX8_alter 40 = .ok (.iload_n 1, 1) := by decide +kernel
theorem dX8_alter_41 : decode cX8_alter 41 = .ok (.imul, 1) := by decide +kernel
theorem dX8_alter_42 : decode cX8_alter 42 = .ok (.iadd, 1) := by decide +kernel
theorem dX8_alter_43 : decode cX8_alter 43 = .ok (.iload_n 2, 1) := by decide +kernel
theorem dX8_alter_44 : decode cX8_alter 44 = .ok (.iadd, 1) := by decide +kernel
theorem dX8_alter_45 : decode cX8_alter 45 = .ok (.iload_n 3, 1) := by decide +kernel
theorem dX8_alter_46 : decode cX8_alter 46 = .ok (.iastore, 1) := by decide +kernel
theorem dX8_alter_47 : decode cX8_alter 47 = .ok (.iload 4, 2) := by decide +kernel
theorem dX8_alter_49 : decode cX8_alter 49 = .ok (.ireturn, 1) := by decide +kernel
theorem dX7_add_0 : decode cX7_add 0 = .ok (.aload_n 0, 1) := by decide +kernel
theorem dX7_add_1 : decode cX7_add 1 = .ok (.getfield 36, 3) := by decide +kernel
theorem dX7_add_4 : decode cX7_add 4 = .ok (.getfield 128, 3) := by decide +kernel
theorem dX7_add_7 : decode cX7_add 7 = .ok (.ifCond .ne 6, 3) := by decide +kernel
theorem dX7_add_10 : decode cX7_add 10 = .ok (.ldc 105, 2) := by decide +kernel
theorem dX7_add_12 : decode cX7_add 12 = .ok (.ireturn, 1) := by decide +kernel
theorem dX7_add_13 : decode cX7_add 13 = .ok (.iload_n 1, 1) := by decide +kernel
theorem dX7_add_14 : decode cX7_add 14 = .ok (.iload_n 2, 1) := by decide +kernel
theorem dX7_add_15 : decode cX7_add 15 = .ok (.iload_n 3, 1) := by decide +kernel
theorem dX7_add_16 : decode cX7_add 16 = .ok (.iload 4, 2) := by decide +kernel
theorem dX7_add_18 : decode cX7_add 18 = .ok (.invokestatic 116, 3) := by decide +kernel
theorem dX7_add_21 : decode cX7_add 21 = .ok (.ifCond .ne 6, 3) := by decide +kernel
theorem dX7_add_24 : decode cX7_add 24 = .ok (.ldc 72, 2) := by decide +kernel
theorem dX7_add_26 : decode cX7_add 26 = .ok (.ireturn, 1) := by decide +kernel
theorem dX7_add_27 : decode cX7_add 27 = .ok (.aload_n 0, 1) := by decide +kernel
theorem dX7_add_28 : decode cX7_add 28 = .ok (.getfield 36, 3) := by decide +kernel
theorem dX7_add_31 : decode cX7_add 31 = .ok (.getfield 102, 3) := by decide +kernel
theorem dX7_add_34 : decode cX7_add 34 = .ok (.bipush 12, 2) := by decide +kernel
theorem dX7_add_36 : decode cX7_add 36 = .ok (.if_icmp .lt 6, 3) := by decide +kernel
theorem dX7_add_39 : decode cX7_add 39 = .ok (.ldc 80, 2) := by decide +kernel
theorem dX7_add_41 : decode cX7_add 41 = .ok (.ireturn, 1) := by decide +kernel
theorem dX7_add_42 : decode cX7_add 42 = .ok (.aload_n 0, 1) := by decide +kernel
theorem dX7_add_43 : decode cX7_add 43 = .ok (.getfield 47, 3) := by decide +kernel
theorem dX7_add_46 : decode cX7_add 46 = .ok (.iconst 1, 1) := by decide +kernel
theorem dX7_add_47 : decode cX7_add 47 = .ok (.iconst 0, 1) := by decide +kernel
theorem dX7_add_48 : decode cX7_add 48 = .ok (.iconst 0, 1) := by decide +kernel
theorem dX7_add_49 : decode cX7_add 49 = .ok (.iconst 0, 1) := by decide +kernel
theorem dX7_add_50 : decode cX7_add 50 = .ok (.invokevirtual 120, 3) := by decide +kernel
theorem dX7_add_53 : decode cX7_add 53 = .ok (.aload_n 0, 1) := by decide +kernel
theorem dX7_add_54 : decode cX7_add 54 = .ok (.getfield 36, 3) := by decide +kernel
theorem dX7_add_57 : decode cX7_add 57 = .ok (.iload_n 1, 1) := by decide +kernel
theorem dX7_add_58 : decode cX7_add 58 = .ok (.iload_n 2, 1) := by decide +kernel
theorem dX7_add_59 : decode cX7_add 59 = .ok (.iload_n 3, 1) := by decide +kernel
theorem dX7_add_60 : decode cX7_add 60 = .ok (.iload 4, 2) := by decide +kernel
theorem dX7_add_62 : decode cX7_add 62 = .ok (.invokevirtual 132, 3) := by decide +kernel
theorem dX7_add_65 : decode cX7_add 65 = .ok (.aload_n 0, 1) := by decide +kernel
theorem dX7_add_66 : decode cX7_add 66 = .ok (.getfield 36, 3) := by decide +kernel
theorem dX7_add_69 : decode cX7_add 69 = .ok (.getfield 102, 3) := by decide +kernel
theorem dX7_add_72 : decode cX7_add 72 = .ok (.iconst 1, 1) := by decide +kernel
theorem dX7_add_73 : decode cX7_add 73 = .ok (.isub, 1) := by decide +kernel
theorem dX7_add_74 : decode cX7_add 74 = .ok (.ireturn, 1) := by decide +kernel
theorem dX8_isBook_0 : decode cX8_isBook 0 = .ok (.aload_n 0, 1) := by decide +kernel
theorem dX8_isBook_1 : decode cX8_isBook 1 = .ok (.getfield 7, 3) := by decide +kernel
theorem dX8_isBook_4 : decode cX8_isBook 4 = .ok (.bipush 8, 2) := by decide +kernel
theorem dX8_isBook_6 : decode cX8_isBook 6 = .ok (.iaload, 1) := by decide +kernel
theorem dX8_isBook_7 : decode cX8_isBook 7 = .ok (.ifCond .le 7, 3) := by decide +kernel
theorem dX8_isBook_10 : decode cX8_isBook 10 = .ok (.iconst 1, 1) := by decide +kernel
theorem dX8_isBook_11 : decode cX8_isBook 11 = .ok (.goto 4, 3) := by decide +kernel
theorem dX8_isBook_14 : decode cX8_isBook 14 = .ok (.iconst 0, 1) := by decide +kernel
theorem dX8_isBook_15 : decode cX8_isBook 15 = .ok (.ireturn, 1) := by decide +kernel
theorem dX8_add_0 : decode cX8_add 0 = .ok (.aload_n 0, 1) := by decide +kernel
theorem dX8_add_1 : decode cX8_add 1 = .ok (.invokevirtual 261, 3) := by decide +kernel
theorem dX8_add_4 : decode cX8_add 4 = .ok (.ifCond .ne 6, 3) := by decide +kernel
theorem dX8_add_7 : decode cX8_add 7 = .ok (.ldc 238, 2) := by decide +kernel
theorem dX8_add_9 : decode cX8_add 9 = .ok (.ireturn, 1) := by decide +kernel
theorem dX8_add_10 : decode cX8_add 10 = .ok (.iload_n 1, 1) := by decide +kernel
theorem dX8_add_11 : decode cX8_add 11 = .ok (.i2l, 1) := by decide +kernel
theorem dX8_add_12 : decode cX8_add 12 = .ok (.lconst 0, 1) := by decide +kernel
theorem dX8_add_13 : decode cX8_add 13 = .ok (.ldc2_w 243, 3) := by decide +kernel
theorem dX8_add_16 : decode cX8_add 16 = .ok (.invokestatic 55, 3) := by decide +kernel
theorem dX8_add_19 : decode cX8_add 19 = .ok (.ifCond .eq 36, 3) := by decide +kernel
theorem dX8_add_22 : decode cX8_add 22 = .ok (.iload_n 1, 1) := by decide +kernel
theorem dX8_add_23 : decode cX8_add 23 = .ok (.iload_n 2, 1) := by decide +kernel
theorem dX8_add_24 : decode cX8_add 24 = .ok (.invokestatic 245, 3) := by decide +kernel
theorem dX8_add_27 : decode cX8_add 27 = .ok (.ifCond .eq 28, 3) := by decide +kernel
theorem dX8_add_30 : decode cX8_add 30 = .ok (.iload_n 3, 1) := by decide +kernel
theorem dX8_add_31 : decode cX8_add 31 = .ok (.i2l, 1) := by decide +kernel
theorem dX8_add_32 : decode cX8_add 32 = .ok (.lconst 1, 1) := by decide +kernel
theorem dX8_add_33 : decode cX8_add 33 = .ok (.ldc2_w 248, 3) := by decide +kernel
theorem dX8_add_36 : decode cX8_add 36 = .ok (.invokestatic 55, 3) := by decide +kernel
theorem dX8_add_39 : decode cX8_add 39 = .ok (.ifCond .eq 16, 3) := by decide +kernel
theorem dX8_add_42 : decode cX8_add 42 = .ok (.iload 4, 2) := by decide +kernel
theorem dX8_add_44 : decode cX8_add 44 = .ok (.i2l, 1) := by decide +kernel
theorem dX8_add_45 : decode cX8_add 45 = .ok (.lconst 1, 1) := by decide +kernel
theorem dX8_add_46 : decode cX8_add 46 = .ok (.ldc2_w 250, 3) := by decide +kernel
theorem dX8_add_49 : decode cX8_add 49 = .ok (.invokestatic 55, 3) := by decide +kernel
theorem dX8_add_52 : decode cX8_add 52 = .ok (.ifCond .ne 6, 3) := by decide +kernel
theorem dX8_add_55 : decode cX8_add 55 = .ok (.ldc 209, 2) := by decide +kernel
theorem dX8_add_57 : decode cX8_add 57 = .ok (.ireturn, 1) := by decide +kernel
theorem dX8_add_58 : decode cX8_add 58 = .ok (.aload_n 0, 1) := by decide +kernel
theorem dX8_add_59 : decode cX8_add 59 = .ok (.getfield 7, 3) := by decide +kernel
theorem dX8_add_62 : decode cX8_add 62 = .ok (.bipush 6, 2) := by decide +kernel
theorem dX8_add_64 : decode cX8_add 64 = .ok (.iaload, 1) := by decide +kernel
theorem dX8_add_65 : decode cX8_add 65 = .ok (.bipush 12, 2) := by decide +kernel
theorem dX8_add_67 : decode cX8_add 67 = .ok (.if_icmp .ne 6, 3) := by decide +kernel
theorem dX8_add_70 : decode cX8_add 70 = .ok (.ldc 210, 2) := by decide +kernel
theorem dX8_add_72 : decode cX8_add 72 = .ok (.ireturn, 1) := by decide +kernel
theorem dX8_add_73 : decode cX8_add 73 = .ok (.aload_n 0, 1) := by decide +kernel
theorem dX8_add_74 : decode cX8_add 74 = .ok (.invokevirtual 258, 3) := by decide +kernel
theorem dX8_add_77 : decode cX8_add 77 = .ok (.aload_n 0, 1) := by decide +kernel
theorem dX8_add_78 : decode cX8_add 78 = .ok (.getfield 7, 3) := by decide +kernel
theorem dX8_add_81 : decode cX8_add 81 = .ok (.iload_n 1, 1) := by decide +kernel
theorem dX8_add_82 : decode cX8_add 82 = .ok (.iload_n 2, 1) := by decide +kernel
theorem dX8_add_83 : decode cX8_add 83 = .ok (.iload_n 3, 1) := by decide +kernel
theorem dX8_add_84 : decode cX8_add 84 = .ok (.iload 4, 2) := by decide +kernel
theorem dX8_add_86 : decode cX8_add 86 = .ok (.invokestatic 203, 3) := by decide +kernel
theorem dX8_add_89 : decode cX8_add 89 = .ok (.aload_n 0, 1) := by decide +kernel
theorem dX8_add_90 : decode cX8_add 90 = .ok (.getfield 7, 3) := by decide +kernel
theorem dX8_add_93 : decode cX8_add 93 = .ok (.bipush 6, 2) := by decide +kernel
theorem dX8_add_95 : decode cX8_add 95 = .ok (.iaload, 1) := by decide +kernel
theorem dX8_add_96 : decode cX8_add 96 = .ok (.iconst 1, 1) := by decide +kernel
theorem dX8_add_97 : decode cX8_add 97 = .ok (.isub, 1) := by decide +kernel
theorem dX8_add_98 : decode cX8_add 98 = .ok (.ireturn, 1) := by decide +kernel
theorem dX7_law_0 : decode cX7_law 0 = .ok (.aload_n 0, 1) := by decide +kernel
theorem dX7_law_1 : decode cX7_law 1 = .ok (.getfield 36, 3) := by decide +kernel
theorem dX7_law_4 : decode cX7_law 4 = .ok (.getfield 128, 3) := by decide +kernel
theorem dX7_law_7 : decode cX7_law 7 = .ok (.ifCond .ne 6, 3) := by decide +kernel
theorem dX7_law_10 : decode cX7_law 10 = .ok (.ldc 105, 2) := by decide +kernel
theorem dX7_law_12 : decode cX7_law 12 = .ok (.ireturn, 1) := by decide +kernel
theorem dX7_law_13 : decode cX7_law 13 = .ok (.iload_n 1, 1) := by decide +kernel
theorem dX7_law_14 : decode cX7_law 14 = .ok (.iconst 0, 1) := by decide +kernel
theorem dX7_law_15 : decode cX7_law 15 = .ok (.iconst 5, 1) := by decide +kernel
theorem dX7_law_16 : decode cX7_law 16 = .ok (.invokestatic 68, 3) := by decide +kernel
theorem dX7_law_19 : decode cX7_law 19 = .ok (.ifCond .eq 20, 3) := by decide +kernel
theorem dX7_law_22 : decode cX7_law 22 = .ok (.iload_n 2, 1) := by decide +kernel
theorem dX7_law_23 : decode cX7_law 23 = .ok (.getstatic 135, 3) := by decide +kernel
theorem dX7_law_26 : decode cX7_law 26 = .ok (.iload_n 1, 1) := by decide +kernel
theorem dX7_law_27 : decode cX7_law 27 = .ok (.iaload, 1) := by decide +kernel
theorem dX7_law_28 : decode cX7_law 28 = .ok (.getstatic 138, 3) := by decide +kernel
theorem dX7_law_31 : decode cX7_law 31 = .ok (.iload_n 1, 1) := by decide +kernel
theorem dX7_law_32 : decode cX7_law 32 = .ok (.iaload, 1) := by decide +kernel
theorem dX7_law_33 : decode cX7_law 33 = .ok (.invokestatic 68, 3) := by decide +kernel
theorem dX7_law_36 : decode cX7_law 36 = .ok (.ifCond .ne 6, 3) := by decide +kernel
theorem dX7_law_39 : decode cX7_law 39 = .ok (.ldc 72, 2) := by decide +kernel
theorem dX7_law_41 : decode cX7_law 41 = .ok (.ireturn, 1) := by decide +kernel
theorem dX7_law_42 : decode cX7_law 42 = .ok (.aload_n 0, 1) := by decide +kernel
theorem dX7_law_43 : decode cX7_law 43 = .ok (.getfield 36, 3) := by decide +kernel
theorem dX7_law_46 : decode cX7_law 46 = .ok (.getfield 141, 3) := by decide +kernel
theorem dX7_law_49 : decode cX7_law 49 = .ok (.iload_n 1, 1) := by decide +kernel
theorem dX7_law_50 : decode cX7_law 50 = .ok (.iaload, 1) := by decide +kernel
theorem dX7_law_51 : decode cX7_law 51 = .ok (.istore_n 3, 1) := by decide +kernel
theorem dX7_law_52 : decode cX7_law 52 = .ok (.aload_n 0, 1) := by decide +kernel
theorem dX7_law_53 : decode cX7_law 53 = .ok (.getfield 47, 3) := by decide +kernel
theorem dX7_law_56 : decode cX7_law 56 = .ok (.iconst 2, 1) := by decide +kernel
theorem dX7_law_57 : decode cX7_law 57 = .ok (.iload_n 1, 1) := by decide +kernel
theorem dX7_law_58 : decode cX7_law 58 = .ok (.iload_n 3, 1) := by decide +kernel
theorem dX7_law_59 : decode cX7_law 59 = .ok (.iconst 0, 1) := by decide +kernel
theorem dX7_law_60 : decode cX7_law 60 = .ok (.invokevirtual 120, 3) := by decide +kernel
theorem dX7_law_63 : decode cX7_law 63 = .ok (.aload_n 0, 1) := by decide +kernel
theorem dX7_law_64 : decode cX7_law 64 = .ok (.getfield 36, 3) := by decide +kernel
theorem dX7_law_67 : decode cX7_law 67 = .ok (.getfield 141, 3) := by decide +kernel
theorem dX7_law_70 : decode cX7_law 70 = .ok (.iload_n 1, 1) := by decide +kernel
theorem dX7_law_71 : decode cX7_law 71 = .ok (.iload_n 2, 1) := by decide +kernel
theorem dX7_law_72 : decode cX7_law 72 = .ok (.iastore, 1) := by decide +kernel
theorem dX7_law_73 : decode cX7_law 73 = .ok (.iload_n 3, 1) := by decide +kernel
theorem dX7_law_74 : decode cX7_law 74 = .ok (.ireturn, 1) := by decide +kernel
theorem dX8_isLaw_0 : decode cX8_isLaw 0 = .ok (.iload_n 0, 1) := by decide +kernel
theorem dX8_isLaw_1 : decode cX8_isLaw 1 = .ok (.tableswitch 101 0 5 #[39, 49, 59, 69, 81, 91], 39) := by decide +kernel
theorem dX8_isLaw_40 : decode cX8_isLaw 40 = .ok (.iload_n 1, 1) := by decide +kernel
theorem dX8_isLaw_41 : decode cX8_isLaw 41 = .ok (.i2l, 1) := by decide +kernel
theorem dX8_isLaw_42 : decode cX8_isLaw 42 = .ok (.lconst 0, 1) := by decide +kernel
theorem dX8_isLaw_43 : decode cX8_isLaw 43 = .ok (.ldc2_w 265, 3) := by decide +kernel
theorem dX8_isLaw_46 : decode cX8_isLaw 46 = .ok (.invokestatic 55, 3) := by decide +kernel
theorem dX8_isLaw_49 : decode cX8_isLaw 49 = .ok (.ireturn, 1) := by decide +kernel
theorem dX8_isLaw_50 : decode cX8_isLaw 50 = .ok (.iload_n 1, 1) := by decide +kernel
theorem dX8_isLaw_51 : decode cX8_isLaw 51 = .ok (.i2l, 1) := by decide +kernel
theorem dX8_isLaw_52 : decode cX8_isLaw 52 = .ok (.lconst 0, 1) := by decide +kernel
theorem dX8_isLaw_53 : decode cX8_isLaw 53 = .ok (.ldc2_w 267, 3) := by decide +kernel
theorem dX8_isLaw_56 : decode cX8_isLaw 56 = .ok (.invokestatic 55, 3) := by decide +kernel
theorem dX8_isLaw_59 : decode cX8_isLaw 59 = .ok (.ireturn, 1) := by decide +kernel
theorem dX8_isLaw_60 : decode cX8_isLaw 60 = .ok (.iload_n 1, 1) := by decide +kernel
theorem dX8_isLaw_61 : decode cX8_isLaw 61 = .ok (.i2l, 1) := by decide +kernel
theorem dX8_isLaw_62 : decode cX8_isLaw 62 = .ok (.lconst 0, 1) := by decide +kernel
theorem dX8_isLaw_63 : decode cX8_isLaw 63 = .ok (.ldc2_w 250, 3) := by decide +kernel
theorem dX8_isLaw_66 : decode cX8_isLaw 66 = .ok (.invokestatic 55, 3) := by decide +kernel
theorem dX8_isLaw_69 : decode cX8_isLaw 69 = .ok (.ireturn, 1) := by decide +kernel
theorem dX8_isLaw_70 : decode cX8_isLaw 70 = .ok (.iload_n 1, 1) := by decide +kernel
theorem dX8_isLaw_71 : decode cX8_isLaw 71 = .ok (.i2l, 1) := by decide +kernel
theorem dX8_isLaw_72 : decode cX8_isLaw 72 = .ok (.ldc2_w 269, 3) := by decide +kernel
theorem dX8_isLaw_75 : decode cX8_isLaw 75 = .ok (.ldc2_w 271, 3) := by decide +kernel
theorem dX8_isLaw_78 : decode cX8_isLaw 78 = .ok (.invokestatic 55, 3) := by decide +kernel
theorem dX8_isLaw_81 : decode cX8_isLaw 81 = .ok (.ireturn, 1) := by decide +kernel
theorem dX8_isLaw_82 : decode cX8_isLaw 82 = .ok (.iload_n 1, 1) := by decide +kernel
theorem dX8_isLaw_83 : decode cX8_isLaw 83 = .ok (.i2l, 1) := by decide +kernel
theorem dX8_isLaw_84 : decode cX8_isLaw 84 = .ok (.lconst 1, 1) := by decide +kernel
theorem dX8_isLaw_85 : decode cX8_isLaw 85 = .ok (.ldc2_w 273, 3) := by decide +kernel
theorem dX8_isLaw_88 : decode cX8_isLaw 88 = .ok (.invokestatic 55, 3) := by decide +kernel
theorem dX8_isLaw_91 : decode cX8_isLaw 91 = .ok (.ireturn, 1) := by decide +kernel
theorem dX8_isLaw_92 : decode cX8_isLaw 92 = .ok (.iload_n 1, 1) := by decide +kernel
theorem dX8_isLaw_93 : decode cX8_isLaw 93 = .ok (.i2l, 1) := by decide +kernel
theorem dX8_isLaw_94 : decode cX8_isLaw 94 = .ok (.lconst 0, 1) := by decide +kernel
theorem dX8_isLaw_95 : decode cX8_isLaw 95 = .ok (.ldc2_w 265, 3) := by decide +kernel
theorem dX8_isLaw_98 : decode cX8_isLaw 98 = .ok (.invokestatic 55, 3) := by decide +kernel
theorem dX8_isLaw_101 : decode cX8_isLaw 101 = .ok (.ireturn, 1) := by decide +kernel
theorem dX8_isLaw_102 : decode cX8_isLaw 102 = .ok (.iconst 0, 1) := by decide +kernel
theorem dX8_isLaw_103 : decode cX8_isLaw 103 = .ok (.ireturn, 1) := by decide +kernel
theorem dX8_law_0 : decode cX8_law 0 = .ok (.aload_n 0, 1) := by decide +kernel
theorem dX8_law_1 : decode cX8_law 1 = .ok (.invokevirtual 261, 3) := by decide +kernel
theorem dX8_law_4 : decode cX8_law 4 = .ok (.ifCond .ne 6, 3) := by decide +kernel
theorem dX8_law_7 : decode cX8_law 7 = .ok (.ldc 238, 2) := by decide +kernel
theorem dX8_law_9 : decode cX8_law 9 = .ok (.ireturn, 1) := by decide +kernel
theorem dX8_law_10 : decode cX8_law 10 = .ok (.iload_n 1, 1) := by decide +kernel
theorem dX8_law_11 : decode cX8_law 11 = .ok (.iload_n 2, 1) := by decide +kernel
theorem dX8_law_12 : decode cX8_law 12 = .ok (.invokestatic 275, 3) := by decide +kernel
theorem dX8_law_15 : decode cX8_law 15 = .ok (.ifCond .ne 6, 3) := by decide +kernel
theorem dX8_law_18 : decode cX8_law 18 = .ok (.ldc 209, 2) := by decide +kernel
theorem dX8_law_20 : decode cX8_law 20 = .ok (.ireturn, 1) := by decide +kernel
theorem dX8_law_21 : decode cX8_law 21 = .ok (.aload_n 0, 1) := by decide +kernel
theorem dX8_law_22 : decode cX8_law 22 = .ok (.invokevirtual 258, 3) := by decide +kernel
theorem dX8_law_25 : decode cX8_law 25 = .ok (.aload_n 0, 1) := by decide +kernel
theorem dX8_law_26 : decode cX8_law 26 = .ok (.getfield 7, 3) := by decide +kernel
theorem dX8_law_29 : decode cX8_law 29 = .ok (.iload_n 1, 1) := by decide +kernel
theorem dX8_law_30 : decode cX8_law 30 = .ok (.iaload, 1) := by decide +kernel
theorem dX8_law_31 : decode cX8_law 31 = .ok (.istore_n 3, 1) := by decide +kernel
theorem dX8_law_32 : decode cX8_law 32 = .ok (.aload_n 0, 1) := by decide +kernel
theorem dX8_law_33 : decode cX8_law 33 = .ok (.getfield 7, 3) := by decide +kernel
theorem dX8_law_36 : decode cX8_law 36 = .ok (.iload_n 1, 1) := by decide +kernel
theorem dX8_law_37 : decode cX8_law 37 = .ok (.iload_n 2, 1) := by decide +kernel
theorem dX8_law_38 : decode cX8_law 38 = .ok (.iastore, 1) := by decide +kernel
theorem dX8_law_39 : decode cX8_law 39 = .ok (.iload_n 3, 1) := by decide +kernel
theorem dX8_law_40 : decode cX8_law 40 = .ok (.ireturn, 1) := by decide +kernel
theorem dX1_hasChoir_0 : decode cX1_hasChoir 0 = .ok (.iconst 0, 1) := by decide +kernel
theorem dX1_hasChoir_1 : decode cX1_hasChoir 1 = .ok (.iload_n 1, 1) := by decide +kernel
theorem dX1_hasChoir_2 : decode cX1_hasChoir 2 = .ok (.if_icmp .gt 15, 3) := by decide +kernel
theorem dX1_hasChoir_5 : decode cX1_hasChoir 5 = .ok (.iload_n 1, 1) := by decide +kernel
theorem dX1_hasChoir_6 : decode cX1_hasChoir 6 = .ok (.aload_n 0, 1) := by decide +kernel
theorem dX1_hasChoir_7 : decode cX1_hasChoir 7 = .ok (.getfield 55, 3) := by decide +kernel
theorem dX1_hasChoir_10 : decode cX1_hasChoir 10 = .ok (.if_icmp .ge 7, 3) := by decide +kernel
theorem dX1_hasChoir_13 : decode cX1_hasChoir 13 = .ok (.iconst 1, 1) := by decide +kernel
theorem dX1_hasChoir_14 : decode cX1_hasChoir 14 = .ok (.goto 4, 3) := by decide +kernel
theorem dX1_hasChoir_17 : decode cX1_hasChoir 17 = .ok (.iconst 0, 1) := by decide +kernel
theorem dX1_hasChoir_18 : decode cX1_hasChoir 18 = .ok (.ireturn, 1) := by decide +kernel
theorem dX7_away_0 : decode cX7_away 0 = .ok (.aload_n 0, 1) := by decide +kernel
theorem dX7_away_1 : decode cX7_away 1 = .ok (.getfield 36, 3) := by decide +kernel
theorem dX7_away_4 : decode cX7_away 4 = .ok (.iload_n 1, 1) := by decide +kernel
theorem dX7_away_5 : decode cX7_away 5 = .ok (.invokevirtual 144, 3) := by decide +kernel
theorem dX7_away_8 : decode cX7_away 8 = .ok (.ifCond .eq 25, 3) := by decide +kernel
theorem dX7_away_11 : decode cX7_away 11 = .ok (.iload_n 2, 1) := by decide +kernel
theorem dX7_away_12 : decode cX7_away 12 = .ok (.iconst 0, 1) := by decide +kernel
theorem dX7_away_13 : decode cX7_away 13 = .ok (.sipush 366, 3) := by decide +kernel
theorem dX7_away_16 : decode cX7_away 16 = .ok (.invokestatic 68, 3) := by decide +kernel
theorem dX7_away_19 : decode cX7_away 19 = .ok (.ifCond .eq 14, 3) := by decide +kernel
theorem dX7_away_22 : decode cX7_away 22 = .ok (.iload_n 3, 1) := by decide +kernel
theorem dX7_away_23 : decode cX7_away 23 = .ok (.iconst 0, 1) := by decide +kernel
theorem dX7_away_24 : decode cX7_away 24 = .ok (.sipush 366, 3) := by decide +kernel
theorem dX7_away_27 : decode cX7_away 27 = .ok (.invokestatic 68, 3) := by decide +kernel
theorem dX7_away_30 : decode cX7_away 30 = .ok (.ifCond .ne 6, 3) := by decide +kernel
theorem dX7_away_33 : decode cX7_away 33 = .ok (.ldc 72, 2) := by decide +kernel
theorem dX7_away_35 : decode cX7_away 35 = .ok (.ireturn, 1) := by decide +kernel
theorem dX7_away_36 : decode cX7_away 36 = .ok (.aload_n 0, 1) := by decide +kernel
theorem dX7_away_37 : decode cX7_away 37 = .ok (.getfield 47, 3) := by decide +kernel
theorem dX7_away_40 : decode cX7_away 40 = .ok (.iconst 3, 1) := by decide +kernel
theorem dX7_away_41 : decode cX7_away 41 = .ok (.iload_n 1, 1) := by decide +kernel
theorem dX7_away_42 : decode cX7_away 42 = .ok (.aload_n 0, 1) := by decide +kernel
theorem dX7_away_43 : decode cX7_away 43 = .ok (.getfield 36, 3) := by decide +kernel
theorem dX7_away_46 : decode cX7_away 46 = .ok (.getfield 147, 3) := by decide +kernel
theorem dX7_away_49 : decode cX7_away 49 = .ok (.iload_n 1, 1) := by decide +kernel
theorem dX7_away_50 : decode cX7_away 50 = .ok (.iaload, 1) := by decide +kernel
theorem dX7_away_51 : decode cX7_away 51 = .ok (.aload_n 0, 1) := by decide +kernel
theorem dX7_away_52 : decode cX7_away 52 = .ok (.getfield 36, 3) := by decide +kernel
theorem dX7_away_55 : decode cX7_away 55 = .ok (.getfield 150, 3) := by decide +kernel
theorem dX7_away_58 : decode cX7_away 58 = .ok (.iload_n 1, 1) := by decide +kernel
theorem dX7_away_59 : decode cX7_away 59 = .ok (.iaload, 1) := by decide +kernel
theorem dX7_away_60 : decode cX7_away 60 = .ok (.invokevirtual 120, 3) := by decide +kernel
theorem dX7_away_63 : decode cX7_away 63 = .ok (.aload_n 0, 1) := by decide +kernel
theorem dX7_away_64 : decode cX7_away 64 = .ok (.getfield 36, 3) := by decide +kernel
theorem dX7_away_67 : decode cX7_away 67 = .ok (.getfield 147, 3) := by decide +kernel
theorem dX7_away_70 : decode cX7_away 70 = .ok (.iload_n 1, 1) := by decide +kernel
theorem dX7_away_71 : decode cX7_away 71 = .ok (.iload_n 2, 1) := by decide +kernel
theorem dX7_away_72 : decode cX7_away 72 = .ok (.iastore, 1) := by decide +kernel
theorem dX7_away_73 : decode cX7_away 73 = .ok (.aload_n 0, 1) := by decide +kernel
theorem dX7_away_74 : decode cX7_away 74 = .ok (.getfield 36, 3) := by decide +kernel
theorem dX7_away_77 : decode cX7_away 77 = .ok (.getfield 150, 3) := by decide +kernel
theorem dX7_away_80 : decode cX7_away 80 = .ok (.iload_n 1, 1) := by decide +kernel
theorem dX7_away_81 : decode cX7_away 81 = .ok (.iload_n 3, 1) := by decide +kernel
theorem dX7_away_82 : decode cX7_away 82 = .ok (.iastore, 1) := by decide +kernel
theorem dX7_away_83 : decode cX7_away 83 = .ok (.iconst 1, 1) := by decide +kernel
theorem dX7_away_84 : decode cX7_away 84 = .ok (.ireturn, 1) := by decide +kernel
theorem dX8_isChoir_0 : decode cX8_isChoir 0 = .ok (.iload_n 1, 1) := by decide +kernel
theorem dX8_isChoir_1 : decode cX8_isChoir 1 = .ok (.i2l, 1) := by decide +kernel
theorem dX8_isChoir_2 : decode cX8_isChoir 2 = .ok (.lconst 0, 1) := by decide +kernel
theorem dX8_isChoir_3 : decode cX8_isChoir 3 = .ok (.aload_n 0, 1) := by decide +kernel
theorem dX8_isChoir_4 : decode cX8_isChoir 4 = .ok (.getfield 7, 3) := by decide +kernel
theorem dX8_isChoir_7 : decode cX8_isChoir 7 = .ok (.bipush 8, 2) := by decide +kernel
theorem dX8_isChoir_9 : decode cX8_isChoir 9 = .ok (.iaload, 1) := by decide +kernel
theorem dX8_isChoir_10 : decode cX8_isChoir 10 = .ok (.iconst 1, 1) := by decide +kernel
theorem dX8_isChoir_11 : decode cX8_isChoir 11 = .ok (.isub, 1) := by decide +kernel
theorem dX8_isChoir_12 : decode cX8_isChoir 12 = .ok (.i2l, 1) := by decide +kernel
theorem dX8_isChoir_13 : decode cX8_isChoir 13 = .ok (.invokestatic 55, 3) := by decide +kernel
theorem dX8_isChoir_16 : decode cX8_isChoir 16 = .ok (.ireturn, 1) := by decide +kernel
theorem dX8_away_0 : decode cX8_away 0 = .ok (.aload_n 0, 1) := by decide +kernel
theorem dX8_away_1 : decode cX8_away 1 = .ok (.iload_n 1, 1) := by decide +kernel
theorem dX8_away_2 : decode cX8_away 2 = .ok (.invokevirtual 278, 3) := by decide +kernel
theorem dX8_away_5 : decode cX8_away 5 = .ok (.ifCond .eq 27, 3) := by decide +kernel
theorem dX8_away_8 : decode cX8_away 8 = .ok (.iload_n 2, 1) := by decide +kernel
theorem dX8_away_9 : decode cX8_away 9 = .ok (.i2l, 1) := by decide +kernel
theorem dX8_away_10 : decode cX8_away 10 = .ok (.lconst 0, 1) := by decide +kernel
theorem dX8_away_11 : decode cX8_away 11 = .ok (.ldc2_w 281, 3) := by decide +kernel
theorem dX8_away_14 : decode cX8_away 14 = .ok (.invokestatic 55, 3) := by decide +kernel
theorem dX8_away_17 : decode cX8_away 17 = .ok (.ifCond .eq 15, 3) := by decide +kernel
theorem dX8_away_20 : decode cX8_away 20 = .ok (.iload_n 3, 1) := by decide +kernel
theorem dX8_away_21 : decode cX8_away 21 = .ok (.i2l, 1) := by decide +kernel
theorem dX8_away_22 : decode cX8_away 22 = .ok (.lconst 0, 1) := by decide +kernel
theorem dX8_away_23 : decode cX8_away 23 = .ok (.ldc2_w 281, 3) := by decide +kernel
theorem dX8_away_26 : decode cX8_away 26 = .ok (.invokestatic 55, 3) := by decide +kernel
theorem dX8_away_29 : decode cX8_away 29 = .ok (.ifCond .ne 6, 3) := by decide +kernel
theorem dX8_away_32 : decode cX8_away 32 = .ok (.ldc 209, 2) := by decide +kernel
theorem dX8_away_34 : decode cX8_away 34 = .ok (.ireturn, 1) := by decide +kernel
theorem dX8_away_35 : decode cX8_away 35 = .ok (.aload_n 0, 1) := by decide +kernel
theorem dX8_away_36 : decode cX8_away 36 = .ok (.invokevirtual 258, 3) := by decide +kernel
theorem dX8_away_39 : decode cX8_away 39 = .ok (.aload_n 0, 1) := by decide +kernel
theorem dX8_away_40 : decode cX8_away 40 = .ok (.getfield 7, 3) := by decide +kernel
theorem dX8_away_43 : decode cX8_away 43 = .ok (.bipush 69, 2) := by decide +kernel
theorem dX8_away_45 : decode cX8_away 45 = .ok (.iconst 2, 1) := by decide +kernel
theorem dX8_away_46 : decode cX8_away 46 = .ok (.iload_n 1, 1) := by decide +kernel
theorem dX8_away_47 : decode cX8_away 47 = .ok (.imul, 1) := by decide +kernel
theorem dX8_away_48 : decode cX8_away 48 = .ok (.iadd, 1) := by decide +kernel
theorem dX8_away_49 : decode cX8_away 49 = .ok (.iload_n 2, 1) := by decide +kernel
theorem dX8_away_50 : decode cX8_away 50 = .ok (.iastore, 1) := by decide +kernel
theorem dX8_away_51 : decode cX8_away 51 = .ok (.aload_n 0, 1) := by decide +kernel
theorem dX8_away_52 : decode cX8_away 52 = .ok (.getfield 7, 3) := by decide +kernel
theorem dX8_away_55 : decode cX8_away 55 = .ok (.bipush 69, 2) := by decide +kernel
theorem dX8_away_57 : decode cX8_away 57 = .ok (.iconst 2, 1) := by decide +kernel
theorem dX8_away_58 : decode cX8_away 58 = .ok (.iload_n 1, 1) := by decide +kernel
theorem dX8_away_59 : decode cX8_away 59 = .ok (.imul, 1) := by decide +kernel
theorem dX8_away_60 : decode cX8_away 60 = .ok (.iadd, 1) := by decide +kernel
theorem dX8_away_61 : decode cX8_away 61 = .ok (.iconst 1, 1) := by decide +kernel
theorem dX8_away_62 : decode cX8_away 62 = .ok (.iadd, 1) := by decide +kernel
theorem dX8_away_63 : decode cX8_away 63 = .ok (.iload_n 3, 1) := by decide +kernel
theorem dX8_away_64 : decode cX8_away 64 = .ok (.iastore, 1) := by decide +kernel
theorem dX8_away_65 : decode cX8_away 65 = .ok (.iconst 1, 1) := by decide +kernel
theorem dX8_away_66 : decode cX8_away 66 = .ok (.ireturn, 1) := by decide +kernel
theorem dX7_feast_0 : decode cX7_feast 0 = .ok (.aload_n 0, 1) := by decide +kernel
theorem dX7_feast_1 : decode cX7_feast 1 = .ok (.getfield 36, 3) := by decide +kernel
theorem dX7_feast_4 : decode cX7_feast 4 = .ok (.iload_n 1, 1) := by decide +kernel
theorem dX7_feast_5 : decode cX7_feast 5 = .ok (.invokevirtual 109, 3) := by decide +kernel
theorem dX7_feast_8 : decode cX7_feast 8 = .ok (.ifCond .eq 12, 3) := by decide +kernel
theorem dX7_feast_11 : decode cX7_feast 11 = .ok (.iload_n 2, 1) := by decide +kernel
theorem dX7_feast_12 : decode cX7_feast 12 = .ok (.iconst 0, 1) := by decide +kernel
theorem dX7_feast_13 : decode cX7_feast 13 = .ok (.iconst 3, 1) := by decide +kernel
theorem dX7_feast_14 : decode cX7_feast 14 = .ok (.invokestatic 68, 3) := by decide +kernel
theorem dX7_feast_17 : decode cX7_feast 17 = .ok (.ifCond .ne 6, 3) := by decide +kernel
theorem dX7_feast_20 : decode cX7_feast 20 = .ok (.ldc 72, 2) := by decide +kernel
theorem dX7_feast_22 : decode cX7_feast 22 = .ok (.ireturn, 1) := by decide +kernel
theorem dX7_feast_23 : decode cX7_feast 23 = .ok (.aload_n 0, 1) := by decide +kernel
theorem dX7_feast_24 : decode cX7_feast 24 = .ok (.getfield 36, 3) := by decide +kernel
theorem dX7_feast_27 : decode cX7_feast 27 = .ok (.iload_n 1, 1) := by decide +kernel
theorem dX7_feast_28 : decode cX7_feast 28 = .ok (.iload_n 2, 1) := by decide +kernel
theorem dX7_feast_29 : decode cX7_feast 29 = .ok (.invokevirtual 112, 3) := by decide +kernel
theorem dX7_feast_32 : decode cX7_feast 32 = .ok (.ireturn, 1) := by decide +kernel
theorem dX8_feast_0 : decode cX8_feast 0 = .ok (.aload_n 0, 1) := by decide +kernel
theorem dX8_feast_1 : decode cX8_feast 1 = .ok (.iload_n 1, 1) := by decide +kernel
theorem dX8_feast_2 : decode cX8_feast 2 = .ok (.invokevirtual 252, 3) := by decide +kernel
theorem dX8_feast_5 : decode cX8_feast 5 = .ok (.ifCond .eq 24, 3) := by decide +kernel
theorem dX8_feast_8 : decode cX8_feast 8 = .ok (.iload_n 2, 1) := by decide +kernel
theorem dX8_feast_9 : decode cX8_feast 9 = .ok (.i2l, 1) := by decide +kernel
theorem dX8_feast_10 : decode cX8_feast 10 = .ok (.lconst 0, 1) := by decide +kernel
theorem dX8_feast_11 : decode cX8_feast 11 = .ok (.ldc2_w 243, 3) := by decide +kernel
theorem dX8_feast_14 : decode cX8_feast 14 = .ok (.invokestatic 55, 3) := by decide +kernel
theorem dX8_feast_17 : decode cX8_feast 17 = .ok (.ifCond .eq 12, 3) := by decide +kernel
theorem dX8_feast_20 : decode cX8_feast 20 = .ok (.aload_n 0, 1) := by decide +kernel
theorem dX8_feast_21 : decode cX8_feast 21 = .ok (.iload_n 1, 1) := by decide +kernel
theorem dX8_feast_22 : decode cX8_feast 22 = .ok (.iload_n 2, 1) := by decide +kernel
theorem dX8_feast_23 : decode cX8_feast 23 = .ok (.invokevirtual 84, 3) := by decide +kernel
theorem dX8_feast_26 : decode cX8_feast 26 = .ok (.goto 5, 3) := by decide +kernel
theorem dX8_feast_29 : decode cX8_feast 29 = .ok (.ldc 209, 2) := by decide +kernel
theorem dX8_feast_31 : decode cX8_feast 31 = .ok (.ireturn, 1) := by decide +kernel
theorem dX7_isYear_0 : decode cX7_isYear 0 = .ok (.iload_n 0, 1) := by decide +kernel
theorem dX7_isYear_1 : decode cX7_isYear 1 = .ok (.iconst 1, 1) := by decide +kernel
theorem dX7_isYear_2 : decode cX7_isYear 2 = .ok (.sipush 999, 3) := by decide +kernel
theorem dX7_isYear_5 : decode cX7_isYear 5 = .ok (.invokestatic 68, 3) := by decide +kernel
theorem dX7_isYear_8 : decode cX7_isYear 8 = .ok (.ireturn, 1) := by decide +kernel
theorem dX2_daysOf_0 : decode cX2_daysOf 0 = .ok (.iload_n 0, 1) := by decide +kernel
theorem dX2_daysOf_1 : decode cX2_daysOf 1 = .ok (.iconst 1, 1) := by decide +kernel
theorem dX2_daysOf_2 : decode cX2_daysOf 2 = .ok (.if_icmp .ne 9, 3) := by decide +kernel
theorem dX2_daysOf_5 : decode cX2_daysOf 5 = .ok (.iload_n 1, 1) := by decide +kernel
theorem dX2_daysOf_6 : decode cX2_daysOf 6 = .ok (.iconst 4, 1) := by decide +kernel
theorem dX2_daysOf_7 : decode cX2_daysOf 7 = .ok (.irem, 1) := by decide +kernel
theorem dX2_daysOf_8 : decode cX2_daysOf 8 = .ok (.ifCond .eq 29, 3) := by decide +kernel
theorem dX2_daysOf_11 : decode cX2_daysOf 11 = .ok (.iload_n 0, 1) := by decide +kernel
theorem dX2_daysOf_12 : decode cX2_daysOf 12 = .ok (.iconst 2, 1) := by decide +kernel
theorem dX2_daysOf_13 : decode cX2_daysOf 13 = .ok (.if_icmp .ne 28, 3) := by decide +kernel
theorem dX2_daysOf_16 : decode cX2_daysOf 16 = .ok (.iload_n 1, 1) := by decide +kernel
theorem dX2_daysOf_17 : decode cX2_daysOf 17 = .ok (.iconst 4, 1) := by decide +kernel
theorem dX2_daysOf_18 : decode cX2_daysOf 18 = .ok (.irem, 1) := by decide +kernel
theorem dX2_daysOf_19 : decode cX2_daysOf 19 = .ok (.ifCond .ne 22, 3) := by decide +kernel
theorem dX2_daysOf_22 : decode cX2_daysOf 22 = .ok (.iload_n 1, 1) := by decide +kernel
theorem dX2_daysOf_23 : decode cX2_daysOf 23 = .ok (.bipush 100, 2) := by decide +kernel
theorem dX2_daysOf_25 : decode cX2_daysOf 25 = .ok (.irem, 1) := by decide +kernel
theorem dX2_daysOf_26 : decode cX2_daysOf 26 = .ok (.ifCond .ne 11, 3) := by decide +kernel
theorem dX2_daysOf_29 : decode cX2_daysOf 29 = .ok (.iload_n 1, 1) := by decide +kernel
theorem dX2_daysOf_30 : decode cX2_daysOf 30 = .ok (.sipush 400, 3) := by decide +kernel
theorem dX2_daysOf_33 : decode cX2_daysOf 33 = .ok (.irem, 1) := by decide +kernel
theorem dX2_daysOf_34 : decode cX2_daysOf 34 = .ok (.ifCond .ne 7, 3) := by decide +kernel
theorem dX2_daysOf_37 : decode cX2_daysOf 37 = .ok (.iconst 1, 1) := by decide +kernel
theorem dX2_daysOf_38 : decode cX2_daysOf 38 = .ok (.goto 4, 3) := by decide +kernel
theorem dX2_daysOf_41 : decode cX2_daysOf 41 = .ok (.iconst 0, 1) := by decide +kernel
theorem dX2_daysOf_42 : decode cX2_daysOf 42 = .ok (.istore_n 2, 1) := by decide +kernel
theorem dX2_daysOf_43 : decode cX2_daysOf 43 = .ok (.iload_n 2, 1) := by decide +kernel
theorem dX2_daysOf_44 : decode cX2_daysOf 44 = .ok (.ifCond .eq 9, 3) := by decide +kernel
theorem dX2_daysOf_47 : decode cX2_daysOf 47 = .ok (.sipush 366, 3) := by decide +kernel
theorem dX2_daysOf_50 : decode cX2_daysOf 50 = .ok (.goto 6, 3) := by decide +kernel
theorem dX2_daysOf_53 : decode cX2_daysOf 53 = .ok (.sipush 365, 3) := by decide +kernel
theorem dX2_daysOf_56 : decode cX2_daysOf 56 = .ok (.ireturn, 1) := by decide +kernel
theorem dX2_leapYearsAhead_0 : decode cX2_leapYearsAhead 0 = .ok (.iload_n 1, 1) := by decide +kernel
theorem dX2_leapYearsAhead_1 : decode cX2_leapYearsAhead 1 = .ok (.iconst 1, 1) := by decide +kernel
theorem dX2_leapYearsAhead_2 : decode cX2_leapYearsAhead 2 = .ok (.isub, 1) := by decide +kernel
theorem dX2_leapYearsAhead_3 : decode cX2_leapYearsAhead 3 = .ok (.istore_n 2, 1) := by decide +kernel
theorem dX2_leapYearsAhead_4 : decode cX2_leapYearsAhead 4 = .ok (.iload_n 0, 1) := by decide +kernel
theorem dX2_leapYearsAhead_5 : decode cX2_leapYearsAhead 5 = .ok (.ifCond .ne 7, 3) := by decide +kernel
theorem dX2_leapYearsAhead_8 : decode cX2_leapYearsAhead 8 = .ok (.iconst 0, 1) := by decide +kernel
theorem dX2_leapYearsAhead_9 : decode cX2_leapYearsAhead 9 = .ok (.goto 28, 3) := by decide +kernel
theorem dX2_leapYearsAhead_12 : decode cX2_leapYearsAhead 12 = .ok (.iload_n 0, 1) := by decide +kernel
theorem dX2_leapYearsAhead_13 : decode cX2_leapYearsAhead 13 = .ok (.iconst 1, 1) := by decide +kernel
theorem dX2_leapYearsAhead_14 : decode cX2_leapYearsAhead 14 = .ok (.if_icmp .ne 9, 3) := by decide +kernel
theorem dX2_leapYearsAhead_17 : decode cX2_leapYearsAhead 17 = .ok (.iload_n 2, 1) := by decide +kernel
theorem dX2_leapYearsAhead_18 : decode cX2_leapYearsAhead 18 = .ok (.iconst 4, 1) := by decide +kernel
theorem dX2_leapYearsAhead_19 : decode cX2_leapYearsAhead 19 = .ok (.idiv, 1) := by decide +kernel
theorem dX2_leapYearsAhead_20 : decode cX2_leapYearsAhead 20 = .ok (.goto 17, 3) := by decide +kernel
theorem dX2_leapYearsAhead_23 : decode cX2_leapYearsAhead 23 = .ok (.iload_n 2, 1) := by decide +kernel
theorem dX2_leapYearsAhead_24 : decode cX2_leapYearsAhead 24 = .ok (.iconst 4, 1) := by decide +kernel
theorem dX2_leapYearsAhead_25 : decode cX2_leapYearsAhead 25 = .ok (.idiv, 1) := by decide +kernel
theorem dX2_leapYearsAhead_26 : decode cX2_leapYearsAhead 26 = .ok (.iload_n 2, 1) := by decide +kernel
theorem dX2_leapYearsAhead_27 : decode cX2_leapYearsAhead 27 = .ok (.bipush 100, 2) := by decide +kernel
theorem dX2_leapYearsAhead_29 : decode cX2_leapYearsAhead 29 = .ok (.idiv, 1) := by decide +kernel
theorem dX2_leapYearsAhead_30 : decode cX2_leapYearsAhead 30 = .ok (.isub, 1) := by decide +kernel
theorem dX2_leapYearsAhead_31 : decode cX2_leapYearsAhead 31 = .ok (.iload_n 2, 1) := by decide +kernel
theorem dX2_leapYearsAhead_32 : decode cX2_leapYearsAhead 32 = .ok (.sipush 400, 3) := by decide +kernel
theorem dX2_leapYearsAhead_35 : decode cX2_leapYearsAhead 35 = .ok (.idiv, 1) := by decide +kernel
theorem dX2_leapYearsAhead_36 : decode cX2_leapYearsAhead 36 = .ok (.iadd, 1) := by decide +kernel
theorem dX2_leapYearsAhead_37 : decode cX2_leapYearsAhead 37 = .ok (.ireturn, 1) := by decide +kernel
theorem dX2_isLeap_0 : decode cX2_isLeap 0 = .ok (.aload_n 0, 1) := by decide +kernel
theorem dX2_isLeap_1 : decode cX2_isLeap 1 = .ok (.getfield 21, 3) := by decide +kernel
theorem dX2_isLeap_4 : decode cX2_isLeap 4 = .ok (.sipush 365, 3) := by decide +kernel
theorem dX2_isLeap_7 : decode cX2_isLeap 7 = .ok (.if_icmp .le 7, 3) := by decide +kernel
theorem dX2_isLeap_10 : decode cX2_isLeap 10 = .ok (.iconst 1, 1) := by decide +kernel
theorem dX2_isLeap_11 : decode cX2_isLeap 11 = .ok (.goto 4, 3) := by decide +kernel
theorem dX2_isLeap_14 : decode cX2_isLeap 14 = .ok (.iconst 0, 1) := by decide +kernel
theorem dX2_isLeap_15 : decode cX2_isLeap 15 = .ok (.ireturn, 1) := by decide +kernel
theorem dX2_dayOfDate_0 : decode cX2_dayOfDate 0 = .ok (.aload_n 0, 1) := by decide +kernel
theorem dX2_dayOfDate_1 : decode cX2_dayOfDate 1 = .ok (.invokevirtual 44, 3) := by decide +kernel
theorem dX2_dayOfDate_4 : decode cX2_dayOfDate 4 = .ok (.ifCond .eq 15, 3) := by decide +kernel
theorem dX2_dayOfDate_7 : decode cX2_dayOfDate 7 = .ok (.iload_n 1, 1) := by decide +kernel
theorem dX2_dayOfDate_8 : decode cX2_dayOfDate 8 = .ok (.bipush 60, 2) := by decide +kernel
theorem dX2_dayOfDate_10 : decode cX2_dayOfDate 10 = .ok (.if_icmp .lt 9, 3) := by decide +kernel
theorem dX2_dayOfDate_13 : decode cX2_dayOfDate 13 = .ok (.iload_n 1, 1) := by decide +kernel
theorem dX2_dayOfDate_14 : decode cX2_dayOfDate 14 = .ok (.iconst 1, 1) := by decide +kernel
theorem dX2_dayOfDate_15 : decode cX2_dayOfDate 15 = .ok (.iadd, 1) := by decide +kernel
theorem dX2_dayOfDate_16 : decode cX2_dayOfDate 16 = .ok (.goto 4, 3) := by decide +kernel
theorem dX2_dayOfDate_19 : decode cX2_dayOfDate 19 = .ok (.iload_n 1, 1) := by decide +kernel
theorem dX2_dayOfDate_20 : decode cX2_dayOfDate 20 = .ok (.ireturn, 1) := by decide +kernel
theorem dX2_weekday_0 : decode cX2_weekday 0 = .ok (.aload_n 0, 1) := by decide +kernel
theorem dX2_weekday_1 : decode cX2_weekday 1 = .ok (.getfield 28, 3) := by decide +kernel
theorem dX2_weekday_4 : decode cX2_weekday 4 = .ok (.iload_n 1, 1) := by decide +kernel
theorem dX2_weekday_5 : decode cX2_weekday 5 = .ok (.iadd, 1) := by decide +kernel
theorem dX2_weekday_6 : decode cX2_weekday 6 = .ok (.iconst 1, 1) := by decide +kernel
theorem dX2_weekday_7 : decode cX2_weekday 7 = .ok (.isub, 1) := by decide +kernel
theorem dX2_weekday_8 : decode cX2_weekday 8 = .ok (.bipush 7, 2) := by decide +kernel
theorem dX2_weekday_10 : decode cX2_weekday 10 = .ok (.irem, 1) := by decide +kernel
theorem dX2_weekday_11 : decode cX2_weekday 11 = .ok (.ireturn, 1) := by decide +kernel
theorem dX2_sundayFrom_0 : decode cX2_sundayFrom 0 = .ok (.iload_n 1, 1) := by decide +kernel
theorem dX2_sundayFrom_1 : decode cX2_sundayFrom 1 = .ok (.bipush 7, 2) := by decide +kernel
theorem dX2_sundayFrom_3 : decode cX2_sundayFrom 3 = .ok (.aload_n 0, 1) := by decide +kernel
theorem dX2_sundayFrom_4 : decode cX2_sundayFrom 4 = .ok (.iload_n 1, 1) := by decide +kernel
theorem dX2_sundayFrom_5 : decode cX2_sundayFrom 5 = .ok (.invokevirtual 48, 3) := by decide +kernel
theorem dX2_sundayFrom_8 : decode cX2_sundayFrom 8 = .ok (.isub, 1) := by decide +kernel
theorem dX2_sundayFrom_9 : decode cX2_sundayFrom 9 = .ok (.bipush 7, 2) := by decide +kernel
theorem dX2_sundayFrom_11 : decode cX2_sundayFrom 11 = .ok (.irem, 1) := by decide +kernel
theorem dX2_sundayFrom_12 : decode cX2_sundayFrom 12 = .ok (.iadd, 1) := by decide +kernel
theorem dX2_sundayFrom_13 : decode cX2_sundayFrom 13 = .ok (.ireturn, 1) := by decide +kernel
theorem dX2_turnTo_0 : decode cX2_turnTo 0 = .ok (.aload_n 1, 1) := by decide +kernel
theorem dX2_turnTo_1 : decode cX2_turnTo 1 = .ok (.getfield 11, 3) := by decide +kernel
theorem dX2_turnTo_4 : decode cX2_turnTo 4 = .ok (.iconst 0, 1) := by decide +kernel
theorem dX2_turnTo_5 : decode cX2_turnTo 5 = .ok (.iaload, 1) := by decide +kernel
theorem dX2_turnTo_6 : decode cX2_turnTo 6 = .ok (.istore_n 3, 1) := by decide +kernel
theorem dX2_turnTo_7 : decode cX2_turnTo 7 = .ok (.aload_n 0, 1) := by decide +kernel
theorem dX2_turnTo_8 : decode cX2_turnTo 8 = .ok (.iload_n 3, 1) := by decide +kernel
theorem dX2_turnTo_9 : decode cX2_turnTo 9 = .ok (.iload_n 2, 1) := by decide +kernel
theorem dX2_turnTo_10 : decode cX2_turnTo 10 = .ok (.invokestatic 17, 3) := by decide +kernel
theorem dX2_turnTo_13 : decode cX2_turnTo 13 = .ok (.putfield 21, 3) := by decide +kernel
theorem dX2_turnTo_16 : decode cX2_turnTo 16 = .ok (.aload_n 0, 1) := by decide +kernel
theorem dX2_turnTo_17 : decode cX2_turnTo 17 = .ok (.aload_n 1, 1) := by decide +kernel
theorem dX2_turnTo_18 : decode cX2_turnTo 18 = .ok (.getfield 11, 3) := by decide +kernel
theorem dX2_turnTo_21 : decode cX2_turnTo 21 = .ok (.iconst 2, 1) := by decide +kernel
theorem dX2_turnTo_22 : decode cX2_turnTo 22 = .ok (.iaload, 1) := by decide +kernel
theorem dX2_turnTo_23 : decode cX2_turnTo 23 = .ok (.iload_n 2, 1) := by decide +kernel
theorem dX2_turnTo_24 : decode cX2_turnTo 24 = .ok (.iconst 1, 1) := by decide +kernel
theorem dX2_turnTo_25 : decode cX2_turnTo 25 = .ok (.isub, 1) := by decide +kernel
theorem dX2_turnTo_26 : decode cX2_turnTo 26 = .ok (.sipush 365, 3) := by decide +kernel
theorem dX2_turnTo_29 : decode cX2_turnTo 29 = .ok (.imul, 1) := by decide +kernel
theorem dX2_turnTo_30 : decode cX2_turnTo 30 = .ok (.iadd, 1) := by decide +kernel
theorem dX2_turnTo_31 : decode cX2_turnTo 31 = .ok (.iload_n 3, 1) := by decide +kernel
theorem dX2_turnTo_32 : decode cX2_turnTo 32 = .ok (.iload_n 2, 1) := by decide +kernel
theorem dX2_turnTo_33 : decode cX2_turnTo 33 = .ok (.invokestatic 25, 3) := by decide +kernel
theorem dX2_turnTo_36 : decode cX2_turnTo 36 = .ok (.iadd, 1) := by decide +kernel
theorem dX2_turnTo_37 : decode cX2_turnTo 37 = .ok (.bipush 7, 2) := by decide +kernel
theorem dX2_turnTo_39 : decode cX2_turnTo 39 = .ok (.irem, 1) := by decide +kernel
theorem dX2_turnTo_40 : decode cX2_turnTo 40 = .ok (.putfield 28, 3) := by decide +kernel
theorem dX2_turnTo_43 : decode cX2_turnTo 43 = .ok (.aload_n 0, 1) := by decide +kernel
theorem dX2_turnTo_44 : decode cX2_turnTo 44 = .ok (.aload_n 0, 1) := by decide +kernel
theorem dX2_turnTo_45 : decode cX2_turnTo 45 = .ok (.bipush 80, 2) := by decide +kernel
theorem dX2_turnTo_47 : decode cX2_turnTo 47 = .ok (.bipush 19, 2) := by decide +kernel
theorem dX2_turnTo_49 : decode cX2_turnTo 49 = .ok (.iload_n 2, 1) := by decide +kernel
theorem dX2_turnTo_50 : decode cX2_turnTo 50 = .ok (.bipush 19, 2) := by decide +kernel
theorem dX2_turnTo_52 : decode cX2_turnTo 52 = .ok (.irem, 1) := by decide +kernel
theorem dX2_turnTo_53 : decode cX2_turnTo 53 = .ok (.imul, 1) := by decide +kernel
theorem dX2_turnTo_54 : decode cX2_turnTo 54 = .ok (.aload_n 1, 1) := by decide +kernel
theorem dX2_turnTo_55 : decode cX2_turnTo 55 = .ok (.getfield 11, 3) := by decide +kernel
theorem dX2_turnTo_58 : decode cX2_turnTo 58 = .ok (.iconst 1, 1) := by decide +kernel
theorem dX2_turnTo_59 : decode cX2_turnTo 59 = .ok (.iaload, 1) := by decide +kernel
theorem dX2_turnTo_60 : decode cX2_turnTo 60 = .ok (.iadd, 1) := by decide +kernel
theorem dX2_turnTo_61 : decode cX2_turnTo 61 = .ok (.bipush 30, 2) := by decide +kernel
theorem dX2_turnTo_63 : decode cX2_turnTo 63 = .ok (.irem, 1) := by decide +kernel
theorem dX2_turnTo_64 : decode cX2_turnTo 64 = .ok (.iadd, 1) := by decide +kernel
theorem dX2_turnTo_65 : decode cX2_turnTo 65 = .ok (.invokevirtual 31, 3) := by decide +kernel
theorem dX2_turnTo_68 : decode cX2_turnTo 68 = .ok (.putfield 35, 3) := by decide +kernel
theorem dX2_turnTo_71 : decode cX2_turnTo 71 = .ok (.aload_n 0, 1) := by decide +kernel
theorem dX2_turnTo_72 : decode cX2_turnTo 72 = .ok (.aload_n 0, 1) := by decide +kernel
theorem dX2_turnTo_73 : decode cX2_turnTo 73 = .ok (.aload_n 0, 1) := by decide +kernel
theorem dX2_turnTo_74 : decode cX2_turnTo 74 = .ok (.getfield 35, 3) := by decide +kernel
theorem dX2_turnTo_77 : decode cX2_turnTo 77 = .ok (.iconst 1, 1) := by decide +kernel
theorem dX2_turnTo_78 : decode cX2_turnTo 78 = .ok (.iadd, 1) := by decide +kernel
theorem dX2_turnTo_79 : decode cX2_turnTo 79 = .ok (.invokevirtual 38, 3) := by decide +kernel
theorem dX2_turnTo_82 : decode cX2_turnTo 82 = .ok (.putfield 41, 3) := by decide +kernel
theorem dX2_turnTo_85 : decode cX2_turnTo 85 = .ok (.return_, 1) := by decide +kernel
theorem dX3_isFree_0 : decode cX3_isFree 0 = .ok (.iload_n 1, 1) := by decide +kernel
theorem dX3_isFree_1 : decode cX3_isFree 1 = .ok (.iconst 1, 1) := by decide +kernel
theorem dX3_isFree_2 : decode cX3_isFree 2 = .ok (.aload_n 0, 1) := by decide +kernel
theorem dX3_isFree_3 : decode cX3_isFree 3 = .ok (.getfield 15, 3) := by decide +kernel
theorem dX3_isFree_6 : decode cX3_isFree 6 = .ok (.getfield 80, 3) := by decide +kernel
theorem dX3_isFree_9 : decode cX3_isFree 9 = .ok (.invokestatic 91, 3) := by decide +kernel
theorem dX3_isFree_12 : decode cX3_isFree 12 = .ok (.ifCond .eq 17, 3) := by decide +kernel
theorem dX3_isFree_15 : decode cX3_isFree 15 = .ok (.aload_n 0, 1) := by decide +kernel
theorem dX3_isFree_16 : decode cX3_isFree 16 = .ok (.getfield 29, 3) := by decide +kernel
theorem dX3_isFree_19 : decode cX3_isFree 19 = .ok (.iload_n 1, 1) := by decide +kernel
theorem dX3_isFree_20 : decode cX3_isFree 20 = .ok (.iaload, 1) := by decide +kernel
theorem dX3_isFree_21 : decode cX3_isFree 21 = .ok (.iconst (-1), 1) := by decide +kernel
theorem dX3_isFree_22 : decode cX3_isFree 22 = .ok (.if_icmp .ne 7, 3) := by decide +kernel
theorem dX3_isFree_25 : decode cX3_isFree 25 = .ok (.iconst 1, 1) := by decide +kernel
theorem dX3_isFree_26 : decode cX3_isFree 26 = .ok (.goto 4, 3) := by decide +kernel
theorem dX3_isFree_29 : decode cX3_isFree 29 = .ok (.iconst 0, 1) := by decide +kernel
theorem dX3_isFree_30 : decode cX3_isFree 30 = .ok (.ireturn, 1) := by decide +kernel
theorem dX3_firstFree_0 : decode cX3_firstFree 0 = .ok (.iload_n 1, 1) := by decide +kernel
theorem dX3_firstFree_1 : decode cX3_firstFree 1 = .ok (.istore_n 3, 1) := by decide +kernel
theorem dX3_firstFree_2 : decode cX3_firstFree 2 = .ok (.iload_n 3, 1) := by decide +kernel
theorem dX3_firstFree_3 : decode cX3_firstFree 3 = .ok (.iload_n 2, 1) := by decide +kernel
theorem dX3_firstFree_4 : decode cX3_firstFree 4 = .ok (.if_icmp .gt 19, 3) := by decide +kernel
theorem dX3_firstFree_7 : decode cX3_firstFree 7 = .ok (.aload_n 0, 1) := by decide +kernel
theorem dX3_firstFree_8 : decode cX3_firstFree 8 = .ok (.iload_n 3, 1) := by decide +kernel
theorem dX3_firstFree_9 : decode cX3_firstFree 9 = .ok (.invokevirtual 69, 3) := by decide +kernel
theorem dX3_firstFree_12 : decode cX3_firstFree 12 = .ok (.ifCond .eq 5, 3) := by decide +kernel
theorem dX3_firstFree_15 : decode cX3_firstFree 15 = .ok (.iload_n 3, 1) := by decide +kernel
theorem dX3_firstFree_16 : decode cX3_firstFree 16 = .ok (.ireturn, 1) := by decide +kernel
theorem dX3_firstFree_17 : decode cX3_firstFree 17 = .ok (.iinc 3 1, 3) := by decide +kernel
theorem dX3_firstFree_20 : decode cX3_firstFree 20 = .ok (.goto (-18), 3) := by decide +kernel
theorem dX3_firstFree_23 : decode cX3_firstFree 23 = .ok (.ldc 50, 2) := by decide +kernel
theorem dX3_firstFree_25 : decode cX3_firstFree 25 = .ok (.ireturn, 1) := by decide +kernel
theorem dX3_hold_0 : decode cX3_hold 0 = .ok (.aload_n 0, 1) := by decide +kernel
theorem dX3_hold_1 : decode cX3_hold 1 = .ok (.getfield 23, 3) := by decide +kernel
theorem dX3_hold_4 : decode cX3_hold 4 = .ok (.iload_n 1, 1) := by decide +kernel
theorem dX3_hold_5 : decode cX3_hold 5 = .ok (.iload_n 3, 1) := by decide +kernel
theorem dX3_hold_6 : decode cX3_hold 6 = .ok (.iastore, 1) := by decide +kernel
theorem dX3_hold_7 : decode cX3_hold 7 = .ok (.aload_n 0, 1) := by decide +kernel
theorem dX3_hold_8 : decode cX3_hold 8 = .ok (.getfield 26, 3) := by decide +kernel
theorem dX3_hold_11 : decode cX3_hold 11 = .ok (.iload_n 1, 1) := by decide +kernel
theorem dX3_hold_12 : decode cX3_hold 12 = .ok (.iload_n 2, 1) := by decide +kernel
theorem dX3_hold_13 : decode cX3_hold 13 = .ok (.iastore, 1) := by decide +kernel
theorem dX3_hold_14 : decode cX3_hold 14 = .ok (.aload_n 0, 1) := by decide +kernel
theorem dX3_hold_15 : decode cX3_hold 15 = .ok (.getfield 29, 3) := by decide +kernel
theorem dX3_hold_18 : decode cX3_hold 18 = .ok (.iload_n 2, 1) := by decide +kernel
theorem dX3_hold_19 : decode cX3_hold 19 = .ok (.iload_n 1, 1) := by decide +kernel
theorem dX3_hold_20 : decode cX3_hold 20 = .ok (.iastore, 1) := by decide +kernel
theorem dX3_hold_21 : decode cX3_hold 21 = .ok (.return_, 1) := by decide +kernel
theorem dX3_settle_0 : decode cX3_settle 0 = .ok (.aload_n 0, 1) := by decide +kernel
theorem dX3_settle_1 : decode cX3_settle 1 = .ok (.getfield 19, 3) := by decide +kernel
theorem dX3_settle_4 : decode cX3_settle 4 = .ok (.iload_n 1, 1) := by decide +kernel
theorem dX3_settle_5 : decode cX3_settle 5 = .ok (.iaload, 1) := by decide +kernel
theorem dX3_settle_6 : decode cX3_settle 6 = .ok (.istore_n 3, 1) := by decide +kernel
theorem dX3_settle_7 : decode cX3_settle 7 = .ok (.aload_n 0, 1) := by decide +kernel
theorem dX3_settle_8 : decode cX3_settle 8 = .ok (.iload_n 3, 1) := by decide +kernel
theorem dX3_settle_9 : decode cX3_settle 9 = .ok (.invokevirtual 69, 3) := by decide +kernel
theorem dX3_settle_12 : decode cX3_settle 12 = .ok (.ifCond .eq 27, 3) := by decide +kernel
theorem dX3_settle_15 : decode cX3_settle 15 = .ok (.iload_n 2, 1) := by decide +kernel
theorem dX3_settle_16 : decode cX3_settle 16 = .ok (.iconst 2, 1) := by decide +kernel
theorem dX3_settle_17 : decode cX3_settle 17 = .ok (.if_icmp .gt 14, 3) := by decide +kernel
theorem dX3_settle_20 : decode cX3_settle 20 = .ok (.aload_n 0, 1) := by decide +kernel
theorem dX3_settle_21 : decode cX3_settle 21 = .ok (.getfield 15, 3) := by decide +kernel
theorem dX3_settle_24 : decode cX3_settle 24 = .ok (.iload_n 3, 1) := by decide +kernel
theorem dX3_settle_25 : decode cX3_settle 25 = .ok (.invokevirtual 73, 3) := by decide +kernel
theorem dX3_settle_28 : decode cX3_settle 28 = .ok (.ifCond .eq 11, 3) := by decide +kernel
theorem dX3_settle_31 : decode cX3_settle 31 = .ok (.aload_n 0, 1) := by decide +kernel
theorem dX3_settle_32 : decode cX3_settle 32 = .ok (.iload_n 1, 1) := by decide +kernel
theorem dX3_settle_33 : decode cX3_settle 33 = .ok (.iload_n 3, 1) := by decide +kernel
theorem dX3_settle_34 : decode cX3_settle 34 = .ok (.iconst 1, 1) := by decide +kernel
theorem dX3_settle_35 : decode cX3_settle 35 = .ok (.invokevirtual 76, 3) := by decide +kernel
theorem dX3_settle_38 : decode cX3_settle 38 = .ok (.return_, 1) := by decide +kernel
theorem dX3_settle_39 : decode cX3_settle 39 = .ok (.iload_n 2, 1) := by decide +kernel
theorem dX3_settle_40 : decode cX3_settle 40 = .ok (.iconst 3, 1) := by decide +kernel
theorem dX3_settle_41 : decode cX3_settle 41 = .ok (.if_icmp .le 13, 3) := by decide +kernel
theorem dX3_settle_44 : decode cX3_settle 44 = .ok (.aload_n 0, 1) := by decide +kernel
theorem dX3_settle_45 : decode cX3_settle 45 = .ok (.getfield 15, 3) := by decide +kernel
theorem dX3_settle_48 : decode cX3_settle 48 = .ok (.getfield 80, 3) := by decide +kernel
theorem dX3_settle_51 : decode cX3_settle 51 = .ok (.goto 26, 3) := by decide +kernel
theorem dX3_settle_54 : decode cX3_settle 54 = .ok (.iload_n 2, 1) := by decide +kernel
theorem dX3_settle_55 : decode cX3_settle 55 = .ok (.iconst 3, 1) := by decide +kernel
theorem dX3_settle_56 : decode cX3_settle 56 = .ok (.if_icmp .ne 20, 3) := by decide +kernel
theorem dX3_settle_59 : decode cX3_settle 59 = .ok (.iload_n 3, 1) := by decide +kernel
theorem dX3_settle_60 : decode cX3_settle 60 = .ok (.bipush 7, 2) := by decide +kernel
theorem dX3_settle_62 : decode cX3_settle 62 = .ok (.iadd, 1) := by decide +kernel
theorem dX3_settle_63 : decode cX3_settle 63 = .ok (.aload_n 0, 1) := by decide +kernel
theorem dX3_settle_64 : decode cX3_settle 64 = .ok (.getfield 15, 3) := by decide +kernel
theorem dX3_settle_67 : decode cX3_settle 67 = .ok (.getfield 80, 3) := by decide +kernel
theorem dX3_settle_70 : decode cX3_settle 70 = .ok (.invokestatic 83, 3) := by decide +kernel
theorem dX3_settle_73 : decode cX3_settle 73 = .ok (.goto 4, 3) := by decide +kernel
theorem dX3_settle_76 : decode cX3_settle 76 = .ok (.iload_n 3, 1) := by decide +kernel
theorem dX3_settle_77 : decode cX3_settle 77 = .ok (.istore 4, 2) := by decide +kernel
theorem dX3_settle_79 : decode cX3_settle 79 = .ok (.aload_n 0, 1) := by decide +kernel
theorem dX3_settle_80 : decode cX3_settle 80 = .ok (.iload_n 3, 1) := by decide +kernel
theorem dX3_settle_81 : decode cX3_settle 81 = .ok (.iconst 1, 1) := by decide +kernel
theorem dX3_settle_82 : decode cX3_settle 82 = .ok (.iadd, 1) := by decide +kernel
theorem dX3_settle_83 : decode cX3_settle 83 = .ok (.iload 4, 2) := by decide +kernel
theorem dX3_settle_85 : decode cX3_settle 85 = .ok (.invokevirtual 88, 3) := by decide +kernel
theorem dX3_settle_88 : decode cX3_settle 88 = .ok (.istore 5, 2) := by decide +kernel
theorem dX3_settle_90 : decode cX3_settle 90 = .ok (.iload 5, 2) := by decide +kernel
theorem dX3_settle_92 : decode cX3_settle 92 = .ok (.ldc 50, 2) := by decide +kernel
theorem dX3_settle_94 : decode cX3_settle 94 = .ok (.if_icmp .eq 14, 3) := by decide +kernel
theorem dX3_settle_97 : decode cX3_settle 97 = .ok (.aload_n 0, 1) := by decide +kernel
theorem dX3_settle_98 : decode cX3_settle 98 = .ok (.iload_n 1, 1) := by decide +kernel
theorem dX3_settle_99 : decode cX3_settle 99 = .ok (.iload 5, 2) := by decide +kernel
theorem dX3_settle_101 : decode cX3_settle 101 = .ok (.iconst 2, 1) := by decide +kernel
theorem dX3_settle_102 : decode cX3_settle 102 = .ok (.invokevirtual 76, 3) := by decide +kernel
theorem dX3_settle_105 : decode cX3_settle 105 = .ok (.goto 46, 3) := by decide +kernel
theorem dX3_settle_108 : decode cX3_settle 108 = .ok (.iload_n 2, 1) := by decide +kernel
theorem dX3_settle_109 : decode cX3_settle 109 = .ok (.iconst 3, 1) := by decide +kernel
theorem dX3_settle_110 : decode cX3_settle 110 = .ok (.if_icmp .eq 8, 3) := by decide +kernel
theorem dX3_settle_113 : decode cX3_settle 113 = .ok (.iload_n 2, 1) := by decide +kernel
theorem dX3_settle_114 : decode cX3_settle 114 = .ok (.iconst 2, 1) := by decide +kernel
theorem dX3_settle_115 : decode cX3_settle 115 = .ok (.if_icmp .ne 20, 3) := by decide +kernel
theorem dX3_settle_118 : decode cX3_settle 118 = .ok (.aload_n 0, 1) := by decide +kernel
theorem dX3_settle_119 : decode cX3_settle 119 = .ok (.getfield 23, 3) := by decide +kernel
theorem dX3_settle_122 : decode cX3_settle 122 = .ok (.iload_n 1, 1) := by decide +kernel
theorem dX3_settle_123 : decode cX3_settle 123 = .ok (.iconst 3, 1) := by decide +kernel
theorem dX3_settle_124 : decode cX3_settle 124 = .ok (.iastore, 1) := by decide +kernel
theorem dX3_settle_125 : decode cX3_settle 125 = .ok (.aload_n 0, 1) := by decide +kernel
theorem dX3_settle_126 : decode cX3_settle 126 = .ok (.getfield 26, 3) := by decide +kernel
theorem dX3_settle_129 : decode cX3_settle 129 = .ok (.iload_n 1, 1) := by decide +kernel
theorem dX3_settle_130 : decode cX3_settle 130 = .ok (.iload_n 3, 1) := by decide +kernel
theorem dX3_settle_131 : decode cX3_settle 131 = .ok (.iastore, 1) := by decide +kernel
theorem dX3_settle_132 : decode cX3_settle 132 = .ok (.goto 19, 3) := by decide +kernel
theorem dX3_settle_135 : decode cX3_settle 135 = .ok (.aload_n 0, 1) := by decide +kernel
theorem dX3_settle_136 : decode cX3_settle 136 = .ok (.getfield 23, 3) := by decide +kernel
theorem dX3_settle_139 : decode cX3_settle 139 = .ok (.iload_n 1, 1) := by decide +kernel
theorem dX3_settle_140 : decode cX3_settle 140 = .ok (.iload_n 2, 1) := by decide +kernel
theorem dX3_settle_141 : decode cX3_settle 141 = .ok (.iconst 1, 1) := by decide +kernel
theorem dX3_settle_142 : decode cX3_settle 142 = .ok (.if_icmp .ne 7, 3) := by decide +kernel
theorem dX3_settle_145 : decode cX3_settle 145 = .ok (.iconst 4, 1) := by decide +kernel
theorem dX3_settle_146 : decode cX3_settle 146 = .ok (.goto 4, 3) := by decide +kernel
theorem dX3_settle_149 : decode cX3_settle 149 = .ok (.iconst 5, 1) := by decide +kernel
theorem dX3_settle_150 : decode cX3_settle 150 = .ok (.iastore, 1) := by decide +kernel
theorem dX3_settle_151 : decode cX3_settle 151 = .ok (.return_, 1) := by decide +kernel
theorem dX3_settleAll_0 : decode cX3_settleAll 0 = .ok (.iconst 0, 1) := by decide +kernel
theorem dX3_settleAll_1 : decode cX3_settleAll 1 = .ok (.istore_n 3, 1) := by decide +kernel
theorem dX3_settleAll_2 : decode cX3_settleAll 2 = .ok (.iload_n 3, 1) := by decide +kernel
theorem dX3_settleAll_3 : decode cX3_settleAll 3 = .ok (.aload_n 0, 1) := by decide +kernel
theorem dX3_settleAll_4 : decode cX3_settleAll 4 = .ok (.getfield 9, 3) := by decide +kernel
theorem dX3_settleAll_7 : decode cX3_settleAll 7 = .ok (.getfield 44, 3) := by decide +kernel
theorem dX3_settleAll_10 : decode cX3_settleAll 10 = .ok (.if_icmp .ge 52, 3) := by decide +kernel
theorem dX3_settleAll_13 : decode cX3_settleAll 13 = .ok (.aload_n 0, 1) := by decide +kernel
theorem dX3_settleAll_14 : decode cX3_settleAll 14 = .ok (.getfield 19, 3) := by decide +kernel
theorem dX3_settleAll_17 : decode cX3_settleAll 17 = .ok (.iload_n 3, 1) := by decide +kernel
theorem dX3_settleAll_18 : decode cX3_settleAll 18 = .ok (.iaload, 1) := by decide +kernel
theorem dX3_settleAll_19 : decode cX3_settleAll 19 = .ok (.ldc 50, 2) := by decide +kernel
theorem dX3_settleAll_21 : decode cX3_settleAll 21 = .ok (.if_icmp .eq 35, 3) := by decide +kernel
theorem dX3_settleAll_24 : decode cX3_settleAll 24 = .ok (.aload_n 0, 1) := by decide +kernel
theorem dX3_settleAll_25 : decode cX3_settleAll 25 = .ok (.getfield 9, 3) := by decide +kernel
theorem dX3_settleAll_28 : decode cX3_settleAll 28 = .ok (.iload_n 3, 1) := by decide +kernel
theorem dX3_settleAll_29 : decode cX3_settleAll 29 = .ok (.iconst 2, 1) := by decide +kernel
theorem dX3_settleAll_30 : decode cX3_settleAll 30 = .ok (.invokevirtual 59, 3) := by decide +kernel
theorem dX3_settleAll_33 : decode cX3_settleAll 33 = .ok (.iload_n 1, 1) := by decide +kernel
theorem dX3_settleAll_34 : decode cX3_settleAll 34 = .ok (.if_icmp .ne 22, 3) := by decide +kernel
theorem dX3_settleAll_37 : decode cX3_settleAll 37 = .ok (.aload_n 0, 1) := by decide +kernel
theorem dX3_settleAll_38 : decode cX3_settleAll 38 = .ok (.getfield 9, 3) := by decide +kernel
theorem dX3_settleAll_41 : decode cX3_settleAll 41 = .ok (.iload_n 3, 1) := by decide +kernel
theorem dX3_settleAll_42 : decode cX3_settleAll 42 = .ok (.iconst 0, 1) := by decide +kernel
theorem dX3_settleAll_43 : decode cX3_settleAll 43 = .ok (.invokevirtual 59, 3) := by decide +kernel
theorem dX3_settleAll_46 : decode cX3_settleAll 46 = .ok (.iload_n 2, 1) := by decide +kernel
theorem dX3_settleAll_47 : decode cX3_settleAll 47 = .ok (.if_icmp .ne 9, 3) := by decide +kernel
theorem dX3_settleAll_50 : decode cX3_settleAll 50 = .ok (.aload_n 0, 1) := by decide +kernel
theorem dX3_settleAll_51 : decode cX3_settleAll 51 = .ok (.iload_n 3, 1) := by decide +kernel
theorem dX3_settleAll_52 : decode cX3_settleAll 52 = .ok (.iload_n 1, 1) := by decide +kernel
theorem dX3_settleAll_53 : decode cX3_settleAll 53 = .ok (.invokevirtual 66, 3) := by decide +kernel
theorem dX3_settleAll_56 : decode cX3_settleAll 56 = .ok (.iinc 3 1, 3) := by decide +kernel
theorem dX3_settleAll_59 : decode cX3_settleAll 59 = .ok (.goto (-57), 3) := by decide +kernel
theorem dX3_settleAll_62 : decode cX3_settleAll 62 = .ok (.return_, 1) := by decide +kernel
theorem dX2_unboundDay_0 : decode cX2_unboundDay 0 = .ok (.iload_n 1, 1) := by decide +kernel
theorem dX2_unboundDay_1 : decode cX2_unboundDay 1 = .ok (.tableswitch 51 0 2 #[27, 34, 41], 27) := by decide +kernel
theorem dX2_unboundDay_28 : decode cX2_unboundDay 28 = .ok (.aload_n 0, 1) := by decide +kernel
theorem dX2_unboundDay_29 : decode cX2_unboundDay 29 = .ok (.getfield 41, 3) := by decide +kernel
theorem dX2_unboundDay_32 : decode cX2_unboundDay 32 = .ok (.iload_n 2, 1) := by decide +kernel
theorem dX2_unboundDay_33 : decode cX2_unboundDay 33 = .ok (.isub, 1) := by decide +kernel
theorem dX2_unboundDay_34 : decode cX2_unboundDay 34 = .ok (.ireturn, 1) := by decide +kernel
theorem dX2_unboundDay_35 : decode cX2_unboundDay 35 = .ok (.aload_n 0, 1) := by decide +kernel
theorem dX2_unboundDay_36 : decode cX2_unboundDay 36 = .ok (.getfield 41, 3) := by decide +kernel
theorem dX2_unboundDay_39 : decode cX2_unboundDay 39 = .ok (.iload_n 2, 1) := by decide +kernel
