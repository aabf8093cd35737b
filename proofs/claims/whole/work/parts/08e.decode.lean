theorem dX8_meet_13 : decode cX8_meet 13 = .ok (.ifCond .eq 15, 3) := by decide +kernel
theorem dX8_meet_16 : decode cX8_meet 16 = .ok (.iload_n 1, 1) := by decide +kernel
theorem dX8_meet_17 : decode cX8_meet 17 = .ok (.iload_n 2, 1) := by decide +kernel
theorem dX8_meet_18 : decode cX8_meet 18 = .ok (.if_icmp .eq 10, 3) := by decide +kernel
theorem dX8_meet_21 : decode cX8_meet 21 = .ok (.iload_n 3, 1) := by decide +kernel
theorem dX8_meet_22 : decode cX8_meet 22 = .ok (.invokestatic 283, 3) := by decide +kernel
theorem dX8_meet_25 : decode cX8_meet 25 = .ok (.ifCond .ne 6, 3) := by decide +kernel
theorem dX8_meet_28 : decode cX8_meet 28 = .ok (.ldc 209, 2) := by decide +kernel
theorem dX8_meet_30 : decode cX8_meet 30 = .ok (.ireturn, 1) := by decide +kernel
theorem dX8_meet_31 : decode cX8_meet 31 = .ok (.iload_n 3, 1) := by decide +kernel
theorem dX8_meet_32 : decode cX8_meet 32 = .ok (.istore 4, 2) := by decide +kernel
theorem dX8_meet_34 : decode cX8_meet 34 = .ok (.iload 4, 2) := by decide +kernel
theorem dX8_meet_36 : decode cX8_meet 36 = .ok (.iload_n 3, 1) := by decide +kernel
theorem dX8_meet_37 : decode cX8_meet 37 = .ok (.bipush 99, 2) := by decide +kernel
theorem dX8_meet_39 : decode cX8_meet 39 = .ok (.iadd, 1) := by decide +kernel
theorem dX8_meet_40 : decode cX8_meet 40 = .ok (.if_icmp .ge 54, 3) := by decide +kernel
theorem dX8_meet_43 : decode cX8_meet 43 = .ok (.iload 4, 2) := by decide +kernel
theorem dX8_meet_45 : decode cX8_meet 45 = .ok (.sipush 1000, 3) := by decide +kernel
theorem dX8_meet_48 : decode cX8_meet 48 = .ok (.if_icmp .ge 46, 3) := by decide +kernel
theorem dX8_meet_51 : decode cX8_meet 51 = .ok (.aload_n 0, 1) := by decide +kernel
theorem dX8_meet_52 : decode cX8_meet 52 = .ok (.iload 4, 2) := by decide +kernel
theorem dX8_meet_54 : decode cX8_meet 54 = .ok (.invokevirtual 101, 3) := by decide +kernel
theorem dX8_meet_57 : decode cX8_meet 57 = .ok (.aload_n 0, 1) := by decide +kernel
theorem dX8_meet_58 : decode cX8_meet 58 = .ok (.iload 4, 2) := by decide +kernel
theorem dX8_meet_60 : decode cX8_meet 60 = .ok (.iload_n 1, 1) := by decide +kernel
theorem dX8_meet_61 : decode cX8_meet 61 = .ok (.invokevirtual 105, 3) := by decide +kernel
theorem dX8_meet_64 : decode cX8_meet 64 = .ok (.istore 5, 2) := by decide +kernel
theorem dX8_meet_66 : decode cX8_meet 66 = .ok (.iload 5, 2) := by decide +kernel
theorem dX8_meet_68 : decode cX8_meet 68 = .ok (.ldc 90, 2) := by decide +kernel
theorem dX8_meet_70 : decode cX8_meet 70 = .ok (.if_icmp .eq 18, 3) := by decide +kernel
theorem dX8_meet_73 : decode cX8_meet 73 = .ok (.iload 5, 2) := by decide +kernel
theorem dX8_meet_75 : decode cX8_meet 75 = .ok (.aload_n 0, 1) := by decide +kernel
theorem dX8_meet_76 : decode cX8_meet 76 = .ok (.iload 4, 2) := by decide +kernel
theorem dX8_meet_78 : decode cX8_meet 78 = .ok (.iload_n 2, 1) := by decide +kernel
theorem dX8_meet_79 : decode cX8_meet 79 = .ok (.invokevirtual 105, 3) := by decide +kernel
theorem dX8_meet_82 : decode cX8_meet 82 = .ok (.if_icmp .ne 6, 3) := by decide +kernel
theorem dX8_meet_85 : decode cX8_meet 85 = .ok (.iload 4, 2) := by decide +kernel
theorem dX8_meet_87 : decode cX8_meet 87 = .ok (.ireturn, 1) := by decide +kernel
theorem dX8_meet_88 : decode cX8_meet 88 = .ok (.iinc 4 1, 3) := by decide +kernel
theorem dX8_meet_91 : decode cX8_meet 91 = .ok (.goto (-57), 3) := by decide +kernel
theorem dX8_meet_94 : decode cX8_meet 94 = .ok (.ldc 90, 2) := by decide +kernel
theorem dX8_meet_96 : decode cX8_meet 96 = .ok (.ireturn, 1) := by decide +kernel
theorem dX2_dateOfSpring_0 : decode cX2_dateOfSpring 0 = .ok (.aload_n 0, 1) := by decide +kernel
theorem dX2_dateOfSpring_1 : decode cX2_dateOfSpring 1 = .ok (.invokevirtual 44, 3) := by decide +kernel
theorem dX2_dateOfSpring_4 : decode cX2_dateOfSpring 4 = .ok (.ifCond .eq 12, 3) := by decide +kernel
theorem dX2_dateOfSpring_7 : decode cX2_dateOfSpring 7 = .ok (.aload_n 0, 1) := by decide +kernel
theorem dX2_dateOfSpring_8 : decode cX2_dateOfSpring 8 = .ok (.getfield 41, 3) := by decide +kernel
theorem dX2_dateOfSpring_11 : decode cX2_dateOfSpring 11 = .ok (.iconst 1, 1) := by decide +kernel
theorem dX2_dateOfSpring_12 : decode cX2_dateOfSpring 12 = .ok (.isub, 1) := by decide +kernel
theorem dX2_dateOfSpring_13 : decode cX2_dateOfSpring 13 = .ok (.goto 7, 3) := by decide +kernel
theorem dX2_dateOfSpring_16 : decode cX2_dateOfSpring 16 = .ok (.aload_n 0, 1) := by decide +kernel
theorem dX2_dateOfSpring_17 : decode cX2_dateOfSpring 17 = .ok (.getfield 41, 3) := by decide +kernel
theorem dX2_dateOfSpring_20 : decode cX2_dateOfSpring 20 = .ok (.ireturn, 1) := by decide +kernel
theorem dX7_springs_0 : decode cX7_springs 0 = .ok (.aload_n 0, 1) := by decide +kernel
theorem dX7_springs_1 : decode cX7_springs 1 = .ok (.getfield 36, 3) := by decide +kernel
theorem dX7_springs_4 : decode cX7_springs 4 = .ok (.getfield 128, 3) := by decide +kernel
theorem dX7_springs_7 : decode cX7_springs 7 = .ok (.ifCond .ne 6, 3) := by decide +kernel
theorem dX7_springs_10 : decode cX7_springs 10 = .ok (.ldc 105, 2) := by decide +kernel
theorem dX7_springs_12 : decode cX7_springs 12 = .ok (.ireturn, 1) := by decide +kernel
theorem dX7_springs_13 : decode cX7_springs 13 = .ok (.iload_n 1, 1) := by decide +kernel
theorem dX7_springs_14 : decode cX7_springs 14 = .ok (.invokestatic 153, 3) := by decide +kernel
theorem dX7_springs_17 : decode cX7_springs 17 = .ok (.ifCond .eq 22, 3) := by decide +kernel
theorem dX7_springs_20 : decode cX7_springs 20 = .ok (.iload_n 2, 1) := by decide +kernel
theorem dX7_springs_21 : decode cX7_springs 21 = .ok (.iconst 1, 1) := by decide +kernel
theorem dX7_springs_22 : decode cX7_springs 22 = .ok (.bipush 99, 2) := by decide +kernel
theorem dX7_springs_24 : decode cX7_springs 24 = .ok (.invokestatic 68, 3) := by decide +kernel
theorem dX7_springs_27 : decode cX7_springs 27 = .ok (.ifCond .eq 12, 3) := by decide +kernel
theorem dX7_springs_30 : decode cX7_springs 30 = .ok (.iload_n 3, 1) := by decide +kernel
theorem dX7_springs_31 : decode cX7_springs 31 = .ok (.iconst 0, 1) := by decide +kernel
theorem dX7_springs_32 : decode cX7_springs 32 = .ok (.iconst 2, 1) := by decide +kernel
theorem dX7_springs_33 : decode cX7_springs 33 = .ok (.invokestatic 68, 3) := by decide +kernel
theorem dX7_springs_36 : decode cX7_springs 36 = .ok (.ifCond .ne 6, 3) := by decide +kernel
theorem dX7_springs_39 : decode cX7_springs 39 = .ok (.ldc 72, 2) := by decide +kernel
theorem dX7_springs_41 : decode cX7_springs 41 = .ok (.ireturn, 1) := by decide +kernel
theorem dX7_springs_42 : decode cX7_springs 42 = .ok (.sipush 366, 3) := by decide +kernel
theorem dX7_springs_45 : decode cX7_springs 45 = .ok (.istore 4, 2) := by decide +kernel
theorem dX7_springs_47 : decode cX7_springs 47 = .ok (.iconst 0, 1) := by decide +kernel
theorem dX7_springs_48 : decode cX7_springs 48 = .ok (.istore 5, 2) := by decide +kernel
theorem dX7_springs_50 : decode cX7_springs 50 = .ok (.iconst 0, 1) := by decide +kernel
theorem dX7_springs_51 : decode cX7_springs 51 = .ok (.istore 6, 2) := by decide +kernel
theorem dX7_springs_53 : decode cX7_springs 53 = .ok (.iload_n 1, 1) := by decide +kernel
theorem dX7_springs_54 : decode cX7_springs 54 = .ok (.iload_n 2, 1) := by decide +kernel
theorem dX7_springs_55 : decode cX7_springs 55 = .ok (.invokestatic 249, 3) := by decide +kernel
theorem dX7_springs_58 : decode cX7_springs 58 = .ok (.istore 7, 2) := by decide +kernel
theorem dX7_springs_60 : decode cX7_springs 60 = .ok (.iload_n 1, 1) := by decide +kernel
theorem dX7_springs_61 : decode cX7_springs 61 = .ok (.istore 8, 2) := by decide +kernel
theorem dX7_springs_63 : decode cX7_springs 63 = .ok (.iload 8, 2) := by decide +kernel
theorem dX7_springs_65 : decode cX7_springs 65 = .ok (.iload 7, 2) := by decide +kernel
theorem dX7_springs_67 : decode cX7_springs 67 = .ok (.if_icmp .gt 78, 3) := by decide +kernel
theorem dX7_springs_70 : decode cX7_springs 70 = .ok (.aload_n 0, 1) := by decide +kernel
theorem dX7_springs_71 : decode cX7_springs 71 = .ok (.getfield 51, 3) := by decide +kernel
theorem dX7_springs_74 : decode cX7_springs 74 = .ok (.getfield 160, 3) := by decide +kernel
theorem dX7_springs_77 : decode cX7_springs 77 = .ok (.aload_n 0, 1) := by decide +kernel
theorem dX7_springs_78 : decode cX7_springs 78 = .ok (.getfield 36, 3) := by decide +kernel
theorem dX7_springs_81 : decode cX7_springs 81 = .ok (.iload 8, 2) := by decide +kernel
theorem dX7_springs_83 : decode cX7_springs 83 = .ok (.invokevirtual 252, 3) := by decide +kernel
theorem dX7_springs_86 : decode cX7_springs 86 = .ok (.aload_n 0, 1) := by decide +kernel
theorem dX7_springs_87 : decode cX7_springs 87 = .ok (.getfield 51, 3) := by decide +kernel
theorem dX7_springs_90 : decode cX7_springs 90 = .ok (.getfield 160, 3) := by decide +kernel
theorem dX7_springs_93 : decode cX7_springs 93 = .ok (.invokevirtual 259, 3) := by decide +kernel
theorem dX7_springs_96 : decode cX7_springs 96 = .ok (.istore 9, 2) := by decide +kernel
theorem dX7_springs_98 : decode cX7_springs 98 = .ok (.iload 4, 2) := by decide +kernel
theorem dX7_springs_100 : decode cX7_springs 100 = .ok (.iload 9, 2) := by decide +kernel
theorem dX7_springs_102 : decode cX7_springs 102 = .ok (.invokestatic 262, 3) := by decide +kernel
theorem dX7_springs_105 : decode cX7_springs 105 = .ok (.istore 4, 2) := by decide +kernel
theorem dX7_springs_107 : decode cX7_springs 107 = .ok (.iload 5, 2) := by decide +kernel
theorem dX7_springs_109 : decode cX7_springs 109 = .ok (.iload 9, 2) := by decide +kernel
theorem dX7_springs_111 : decode cX7_springs 111 = .ok (.invokestatic 225, 3) := by decide +kernel
theorem dX7_springs_114 : decode cX7_springs 114 = .ok (.istore 5, 2) := by decide +kernel
theorem dX7_springs_116 : decode cX7_springs 116 = .ok (.iload 6, 2) := by decide +kernel
theorem dX7_springs_118 : decode cX7_springs 118 = .ok (.aload_n 0, 1) := by decide +kernel
theorem dX7_springs_119 : decode cX7_springs 119 = .ok (.getfield 51, 3) := by decide +kernel
theorem dX7_springs_122 : decode cX7_springs 122 = .ok (.getfield 160, 3) := by decide +kernel
theorem dX7_springs_125 : decode cX7_springs 125 = .ok (.invokevirtual 265, 3) := by decide +kernel
theorem dX7_springs_128 : decode cX7_springs 128 = .ok (.ifCond .eq 7, 3) := by decide +kernel
theorem dX7_springs_131 : decode cX7_springs 131 = .ok (.iconst 1, 1) := by decide +kernel
theorem dX7_springs_132 : decode cX7_springs 132 = .ok (.goto 4, 3) := by decide +kernel
theorem dX7_springs_135 : decode cX7_springs 135 = .ok (.iconst 0, 1) := by decide +kernel
theorem dX7_springs_136 : decode cX7_springs 136 = .ok (.iadd, 1) := by decide +kernel
theorem dX7_springs_137 : decode cX7_springs 137 = .ok (.istore 6, 2) := by decide +kernel
theorem dX7_springs_139 : decode cX7_springs 139 = .ok (.iinc 8 1, 3) := by decide +kernel
theorem dX7_springs_142 : decode cX7_springs 142 = .ok (.goto (-79), 3) := by decide +kernel
theorem dX7_springs_145 : decode cX7_springs 145 = .ok (.iload_n 3, 1) := by decide +kernel
theorem dX7_springs_146 : decode cX7_springs 146 = .ok (.ifCond .ne 8, 3) := by decide +kernel
theorem dX7_springs_149 : decode cX7_springs 149 = .ok (.iload 4, 2) := by decide +kernel
theorem dX7_springs_151 : decode cX7_springs 151 = .ok (.goto 15, 3) := by decide +kernel
theorem dX7_springs_154 : decode cX7_springs 154 = .ok (.iload_n 3, 1) := by decide +kernel
theorem dX7_springs_155 : decode cX7_springs 155 = .ok (.iconst 1, 1) := by decide +kernel
theorem dX7_springs_156 : decode cX7_springs 156 = .ok (.if_icmp .ne 8, 3) := by decide +kernel
theorem dX7_springs_159 : decode cX7_springs 159 = .ok (.iload 5, 2) := by decide +kernel
theorem dX7_springs_161 : decode cX7_springs 161 = .ok (.goto 5, 3) := by decide +kernel
theorem dX7_springs_164 : decode cX7_springs 164 = .ok (.iload 6, 2) := by decide +kernel
theorem dX7_springs_166 : decode cX7_springs 166 = .ok (.ireturn, 1) := by decide +kernel
theorem dX8_springs_0 : decode cX8_springs 0 = .ok (.aload_n 0, 1) := by decide +kernel
theorem dX8_springs_1 : decode cX8_springs 1 = .ok (.invokevirtual 261, 3) := by decide +kernel
theorem dX8_springs_4 : decode cX8_springs 4 = .ok (.ifCond .ne 6, 3) := by decide +kernel
theorem dX8_springs_7 : decode cX8_springs 7 = .ok (.ldc 238, 2) := by decide +kernel
theorem dX8_springs_9 : decode cX8_springs 9 = .ok (.ireturn, 1) := by decide +kernel
theorem dX8_springs_10 : decode cX8_springs 10 = .ok (.iload_n 1, 1) := by decide +kernel
theorem dX8_springs_11 : decode cX8_springs 11 = .ok (.invokestatic 283, 3) := by decide +kernel
theorem dX8_springs_14 : decode cX8_springs 14 = .ok (.ifCond .eq 27, 3) := by decide +kernel
theorem dX8_springs_17 : decode cX8_springs 17 = .ok (.iload_n 2, 1) := by decide +kernel
theorem dX8_springs_18 : decode cX8_springs 18 = .ok (.i2l, 1) := by decide +kernel
theorem dX8_springs_19 : decode cX8_springs 19 = .ok (.lconst 1, 1) := by decide +kernel
theorem dX8_springs_20 : decode cX8_springs 20 = .ok (.ldc2_w 239, 3) := by decide +kernel
theorem dX8_springs_23 : decode cX8_springs 23 = .ok (.invokestatic 55, 3) := by decide +kernel
theorem dX8_springs_26 : decode cX8_springs 26 = .ok (.ifCond .eq 15, 3) := by decide +kernel
theorem dX8_springs_29 : decode cX8_springs 29 = .ok (.iload_n 3, 1) := by decide +kernel
theorem dX8_springs_30 : decode cX8_springs 30 = .ok (.i2l, 1) := by decide +kernel
theorem dX8_springs_31 : decode cX8_springs 31 = .ok (.lconst 0, 1) := by decide +kernel
theorem dX8_springs_32 : decode cX8_springs 32 = .ok (.ldc2_w 265, 3) := by decide +kernel
theorem dX8_springs_35 : decode cX8_springs 35 = .ok (.invokestatic 55, 3) := by decide +kernel
theorem dX8_springs_38 : decode cX8_springs 38 = .ok (.ifCond .ne 6, 3) := by decide +kernel
theorem dX8_springs_41 : decode cX8_springs 41 = .ok (.ldc 209, 2) := by decide +kernel
theorem dX8_springs_43 : decode cX8_springs 43 = .ok (.ireturn, 1) := by decide +kernel
theorem dX8_springs_44 : decode cX8_springs 44 = .ok (.sipush 999, 3) := by decide +kernel
theorem dX8_springs_47 : decode cX8_springs 47 = .ok (.istore 4, 2) := by decide +kernel
theorem dX8_springs_49 : decode cX8_springs 49 = .ok (.iconst 0, 1) := by decide +kernel
theorem dX8_springs_50 : decode cX8_springs 50 = .ok (.istore 5, 2) := by decide +kernel
theorem dX8_springs_52 : decode cX8_springs 52 = .ok (.iconst 0, 1) := by decide +kernel
theorem dX8_springs_53 : decode cX8_springs 53 = .ok (.istore 6, 2) := by decide +kernel
theorem dX8_springs_55 : decode cX8_springs 55 = .ok (.iload_n 1, 1) := by decide +kernel
theorem dX8_springs_56 : decode cX8_springs 56 = .ok (.istore 7, 2) := by decide +kernel
theorem dX8_springs_58 : decode cX8_springs 58 = .ok (.iload 7, 2) := by decide +kernel
theorem dX8_springs_60 : decode cX8_springs 60 = .ok (.iload_n 1, 1) := by decide +kernel
theorem dX8_springs_61 : decode cX8_springs 61 = .ok (.iload_n 2, 1) := by decide +kernel
theorem dX8_springs_62 : decode cX8_springs 62 = .ok (.iadd, 1) := by decide +kernel
theorem dX8_springs_63 : decode cX8_springs 63 = .ok (.if_icmp .ge 97, 3) := by decide +kernel
theorem dX8_springs_66 : decode cX8_springs 66 = .ok (.iload 7, 2) := by decide +kernel
theorem dX8_springs_68 : decode cX8_springs 68 = .ok (.sipush 1000, 3) := by decide +kernel
theorem dX8_springs_71 : decode cX8_springs 71 = .ok (.if_icmp .ge 89, 3) := by decide +kernel
theorem dX8_springs_74 : decode cX8_springs 74 = .ok (.aload_n 0, 1) := by decide +kernel
theorem dX8_springs_75 : decode cX8_springs 75 = .ok (.iload 7, 2) := by decide +kernel
theorem dX8_springs_77 : decode cX8_springs 77 = .ok (.invokevirtual 101, 3) := by decide +kernel
theorem dX8_springs_80 : decode cX8_springs 80 = .ok (.aload_n 0, 1) := by decide +kernel
theorem dX8_springs_81 : decode cX8_springs 81 = .ok (.iload 7, 2) := by decide +kernel
theorem dX8_springs_83 : decode cX8_springs 83 = .ok (.invokevirtual 87, 3) := by decide +kernel
theorem dX8_springs_86 : decode cX8_springs 86 = .ok (.aload_n 0, 1) := by decide +kernel
theorem dX8_springs_87 : decode cX8_springs 87 = .ok (.iload 7, 2) := by decide +kernel
theorem dX8_springs_89 : decode cX8_springs 89 = .ok (.invokevirtual 59, 3) := by decide +kernel
theorem dX8_springs_92 : decode cX8_springs 92 = .ok (.ifCond .eq 7, 3) := by decide +kernel
theorem dX8_springs_95 : decode cX8_springs 95 = .ok (.iconst 1, 1) := by decide +kernel
theorem dX8_springs_96 : decode cX8_springs 96 = .ok (.goto 4, 3) := by decide +kernel
theorem dX8_springs_99 : decode cX8_springs 99 = .ok (.iconst 0, 1) := by decide +kernel
theorem dX8_springs_100 : decode cX8_springs 100 = .ok (.isub, 1) := by decide +kernel
theorem dX8_springs_101 : decode cX8_springs 101 = .ok (.istore 8, 2) := by decide +kernel
theorem dX8_springs_103 : decode cX8_springs 103 = .ok (.iload 8, 2) := by decide +kernel
theorem dX8_springs_105 : decode cX8_springs 105 = .ok (.iload 4, 2) := by decide +kernel
theorem dX8_springs_107 : decode cX8_springs 107 = .ok (.if_icmp .ge 8, 3) := by decide +kernel
theorem dX8_springs_110 : decode cX8_springs 110 = .ok (.iload 8, 2) := by decide +kernel
theorem dX8_springs_112 : decode cX8_springs 112 = .ok (.goto 5, 3) := by decide +kernel
theorem dX8_springs_115 : decode cX8_springs 115 = .ok (.iload 4, 2) := by decide +kernel
theorem dX8_springs_117 : decode cX8_springs 117 = .ok (.istore 4, 2) := by decide +kernel
theorem dX8_springs_119 : decode cX8_springs 119 = .ok (.iload 8, 2) := by decide +kernel
theorem dX8_springs_121 : decode cX8_springs 121 = .ok (.iload 5, 2) := by decide +kernel
theorem dX8_springs_123 : decode cX8_springs 123 = .ok (.if_icmp .le 8, 3) := by decide +kernel
theorem dX8_springs_126 : decode cX8_springs 126 = .ok (.iload 8, 2) := by decide +kernel
theorem dX8_springs_128 : decode cX8_springs 128 = .ok (.goto 5, 3) := by decide +kernel
theorem dX8_springs_131 : decode cX8_springs 131 = .ok (.iload 5, 2) := by decide +kernel
theorem dX8_springs_133 : decode cX8_springs 133 = .ok (.istore 5, 2) := by decide +kernel
theorem dX8_springs_135 : decode cX8_springs 135 = .ok (.iload 6, 2) := by decide +kernel
theorem dX8_springs_137 : decode cX8_springs 137 = .ok (.aload_n 0, 1) := by decide +kernel
theorem dX8_springs_138 : decode cX8_springs 138 = .ok (.iload 7, 2) := by decide +kernel
theorem dX8_springs_140 : decode cX8_springs 140 = .ok (.invokevirtual 59, 3) := by decide +kernel
theorem dX8_springs_143 : decode cX8_springs 143 = .ok (.ifCond .eq 7, 3) := by decide +kernel
theorem dX8_springs_146 : decode cX8_springs 146 = .ok (.iconst 1, 1) := by decide +kernel
theorem dX8_springs_147 : decode cX8_springs 147 = .ok (.goto 4, 3) := by decide +kernel
theorem dX8_springs_150 : decode cX8_springs 150 = .ok (.iconst 0, 1) := by decide +kernel
theorem dX8_springs_151 : decode cX8_springs 151 = .ok (.iadd, 1) := by decide +kernel
theorem dX8_springs_152 : decode cX8_springs 152 = .ok (.istore 6, 2) := by decide +kernel
theorem dX8_springs_154 : decode cX8_springs 154 = .ok (.iinc 7 1, 3) := by decide +kernel
theorem dX8_springs_157 : decode cX8_springs 157 = .ok (.goto (-99), 3) := by decide +kernel
theorem dX8_springs_160 : decode cX8_springs 160 = .ok (.iload_n 3, 1) := by decide +kernel
theorem dX8_springs_161 : decode cX8_springs 161 = .ok (.ifCond .ne 8, 3) := by decide +kernel
theorem dX8_springs_164 : decode cX8_springs 164 = .ok (.iload 4, 2) := by decide +kernel
theorem dX8_springs_166 : decode cX8_springs 166 = .ok (.goto 15, 3) := by decide +kernel
theorem dX8_springs_169 : decode cX8_springs 169 = .ok (.iload_n 3, 1) := by decide +kernel
theorem dX8_springs_170 : decode cX8_springs 170 = .ok (.iconst 1, 1) := by decide +kernel
theorem dX8_springs_171 : decode cX8_springs 171 = .ok (.if_icmp .ne 8, 3) := by decide +kernel
theorem dX8_springs_174 : decode cX8_springs 174 = .ok (.iload 5, 2) := by decide +kernel
theorem dX8_springs_176 : decode cX8_springs 176 = .ok (.goto 5, 3) := by decide +kernel
theorem dX8_springs_179 : decode cX8_springs 179 = .ok (.iload 6, 2) := by decide +kernel
theorem dX8_springs_181 : decode cX8_springs 181 = .ok (.ireturn, 1) := by decide +kernel
theorem dX7_often_0 : decode cX7_often 0 = .ok (.aload_n 0, 1) := by decide +kernel
theorem dX7_often_1 : decode cX7_often 1 = .ok (.getfield 36, 3) := by decide +kernel
theorem dX7_often_4 : decode cX7_often 4 = .ok (.iload_n 1, 1) := by decide +kernel
theorem dX7_often_5 : decode cX7_often 5 = .ok (.invokevirtual 109, 3) := by decide +kernel
theorem dX7_often_8 : decode cX7_often 8 = .ok (.ifCond .eq 30, 3) := by decide +kernel
theorem dX7_often_11 : decode cX7_often 11 = .ok (.iload_n 2, 1) := by decide +kernel
theorem dX7_often_12 : decode cX7_often 12 = .ok (.invokestatic 153, 3) := by decide +kernel
theorem dX7_often_15 : decode cX7_often 15 = .ok (.ifCond .eq 23, 3) := by decide +kernel
theorem dX7_often_18 : decode cX7_often 18 = .ok (.iload_n 3, 1) := by decide +kernel
theorem dX7_often_19 : decode cX7_often 19 = .ok (.iconst 1, 1) := by decide +kernel
theorem dX7_often_20 : decode cX7_often 20 = .ok (.bipush 30, 2) := by decide +kernel
theorem dX7_often_22 : decode cX7_often 22 = .ok (.invokestatic 68, 3) := by decide +kernel
theorem dX7_often_25 : decode cX7_often 25 = .ok (.ifCond .eq 13, 3) := by decide +kernel
theorem dX7_often_28 : decode cX7_often 28 = .ok (.iload 4, 2) := by decide +kernel
theorem dX7_often_30 : decode cX7_often 30 = .ok (.iconst 0, 1) := by decide +kernel
theorem dX7_often_31 : decode cX7_often 31 = .ok (.iconst 5, 1) := by decide +kernel
theorem dX7_often_32 : decode cX7_often 32 = .ok (.invokestatic 68, 3) := by decide +kernel
theorem dX7_often_35 : decode cX7_often 35 = .ok (.ifCond .ne 6, 3) := by decide +kernel
theorem dX7_often_38 : decode cX7_often 38 = .ok (.ldc 72, 2) := by decide +kernel
theorem dX7_often_40 : decode cX7_often 40 = .ok (.ireturn, 1) := by decide +kernel
theorem dX7_often_41 : decode cX7_often 41 = .ok (.iconst 0, 1) := by decide +kernel
theorem dX7_often_42 : decode cX7_often 42 = .ok (.istore 5, 2) := by decide +kernel
theorem dX7_often_44 : decode cX7_often 44 = .ok (.iload_n 2, 1) := by decide +kernel
theorem dX7_often_45 : decode cX7_often 45 = .ok (.iload_n 3, 1) := by decide +kernel
theorem dX7_often_46 : decode cX7_often 46 = .ok (.invokestatic 249, 3) := by decide +kernel
theorem dX7_often_49 : decode cX7_often 49 = .ok (.istore 6, 2) := by decide +kernel
theorem dX7_often_51 : decode cX7_often 51 = .ok (.iload_n 2, 1) := by decide +kernel
theorem dX7_often_52 : decode cX7_often 52 = .ok (.istore 7, 2) := by decide +kernel
theorem dX7_often_54 : decode cX7_often 54 = .ok (.iload 7, 2) := by decide +kernel
theorem dX7_often_56 : decode cX7_often 56 = .ok (.iload 6, 2) := by decide +kernel
theorem dX7_often_58 : decode cX7_often 58 = .ok (.if_icmp .gt 43, 3) := by decide +kernel
theorem dX7_often_61 : decode cX7_often 61 = .ok (.aload_n 0, 1) := by decide +kernel
theorem dX7_often_62 : decode cX7_often 62 = .ok (.getfield 51, 3) := by decide +kernel
theorem dX7_often_65 : decode cX7_often 65 = .ok (.iload 7, 2) := by decide +kernel
theorem dX7_often_67 : decode cX7_often 67 = .ok (.iconst (-1), 1) := by decide +kernel
theorem dX7_often_68 : decode cX7_often 68 = .ok (.invokevirtual 156, 3) := by decide +kernel
theorem dX7_often_71 : decode cX7_often 71 = .ok (.iload 5, 2) := by decide +kernel
theorem dX7_often_73 : decode cX7_often 73 = .ok (.aload_n 0, 1) := by decide +kernel
theorem dX7_often_74 : decode cX7_often 74 = .ok (.getfield 51, 3) := by decide +kernel
theorem dX7_often_77 : decode cX7_often 77 = .ok (.getfield 216, 3) := by decide +kernel
theorem dX7_often_80 : decode cX7_often 80 = .ok (.iload_n 1, 1) := by decide +kernel
theorem dX7_often_81 : decode cX7_often 81 = .ok (.iaload, 1) := by decide +kernel
theorem dX7_often_82 : decode cX7_often 82 = .ok (.iload 4, 2) := by decide +kernel
theorem dX7_often_84 : decode cX7_often 84 = .ok (.if_icmp .ne 7, 3) := by decide +kernel
theorem dX7_often_87 : decode cX7_often 87 = .ok (.iconst 1, 1) := by decide +kernel
theorem dX7_often_88 : decode cX7_often 88 = .ok (.goto 4, 3) := by decide +kernel
theorem dX7_often_91 : decode cX7_often 91 = .ok (.iconst 0, 1) := by decide +kernel
theorem dX7_often_92 : decode cX7_often 92 = .ok (.iadd, 1) := by decide +kernel
theorem dX7_often_93 : decode cX7_often 93 = .ok (.istore 5, 2) := by decide +kernel
theorem dX7_often_95 : decode cX7_often 95 = .ok (.iinc 7 1, 3) := by decide +kernel
theorem dX7_often_98 : decode cX7_often 98 = .ok (.goto (-44), 3) := by decide +kernel
theorem dX7_often_101 : decode cX7_often 101 = .ok (.iload 5, 2) := by decide +kernel
theorem dX7_often_103 : decode cX7_often 103 = .ok (.ireturn, 1) := by decide +kernel
theorem dX8_often_0 : decode cX8_often 0 = .ok (.aload_n 0, 1) := by decide +kernel
theorem dX8_often_1 : decode cX8_often 1 = .ok (.iload_n 1, 1) := by decide +kernel
theorem dX8_often_2 : decode cX8_often 2 = .ok (.invokevirtual 252, 3) := by decide +kernel
theorem dX8_often_5 : decode cX8_often 5 = .ok (.ifCond .eq 35, 3) := by decide +kernel
theorem dX8_often_8 : decode cX8_often 8 = .ok (.iload_n 2, 1) := by decide +kernel
theorem dX8_often_9 : decode cX8_often 9 = .ok (.invokestatic 283, 3) := by decide +kernel
theorem dX8_often_12 : decode cX8_often 12 = .ok (.ifCond .eq 28, 3) := by decide +kernel
theorem dX8_often_15 : decode cX8_often 15 = .ok (.iload_n 3, 1) := by decide +kernel
theorem dX8_often_16 : decode cX8_often 16 = .ok (.i2l, 1) := by decide +kernel
theorem dX8_often_17 : decode cX8_often 17 = .ok (.lconst 1, 1) := by decide +kernel
theorem dX8_often_18 : decode cX8_often 18 = .ok (.ldc2_w 313, 3) := by decide +kernel
theorem dX8_often_21 : decode cX8_often 21 = .ok (.invokestatic 55, 3) := by decide +kernel
theorem dX8_often_24 : decode cX8_often 24 = .ok (.ifCond .eq 16, 3) := by decide +kernel
theorem dX8_often_27 : decode cX8_often 27 = .ok (.iload 4, 2) := by decide +kernel
theorem dX8_often_29 : decode cX8_often 29 = .ok (.i2l, 1) := by decide +kernel
theorem dX8_often_30 : decode cX8_often 30 = .ok (.lconst 0, 1) := by decide +kernel
theorem dX8_often_31 : decode cX8_often 31 = .ok (.ldc2_w 248, 3) := by decide +kernel
theorem dX8_often_34 : decode cX8_often 34 = .ok (.invokestatic 55, 3) := by decide +kernel
theorem dX8_often_37 : decode cX8_often 37 = .ok (.ifCond .ne 6, 3) := by decide +kernel
theorem dX8_often_40 : decode cX8_often 40 = .ok (.ldc 209, 2) := by decide +kernel
theorem dX8_often_42 : decode cX8_often 42 = .ok (.ireturn, 1) := by decide +kernel
theorem dX8_often_43 : decode cX8_often 43 = .ok (.iconst 0, 1) := by decide +kernel
theorem dX8_often_44 : decode cX8_often 44 = .ok (.istore 5, 2) := by decide +kernel
theorem dX8_often_46 : decode cX8_often 46 = .ok (.iload_n 2, 1) := by decide +kernel
theorem dX8_often_47 : decode cX8_often 47 = .ok (.istore 6, 2) := by decide +kernel
theorem dX8_often_49 : decode cX8_often 49 = .ok (.iload 6, 2) := by decide +kernel
theorem dX8_often_51 : decode cX8_often 51 = .ok (.iload_n 2, 1) := by decide +kernel
theorem dX8_often_52 : decode cX8_often 52 = .ok (.iload_n 3, 1) := by decide +kernel
theorem dX8_often_53 : decode cX8_often 53 = .ok (.iadd, 1) := by decide +kernel
theorem dX8_often_54 : decode cX8_often 54 = .ok (.if_icmp .ge 46, 3) := by decide +kernel
theorem dX8_often_57 : decode cX8_often 57 = .ok (.iload 6, 2) := by decide +kernel
theorem dX8_often_59 : decode cX8_often 59 = .ok (.sipush 1000, 3) := by decide +kernel
theorem dX8_often_62 : decode cX8_often 62 = .ok (.if_icmp .ge 38, 3) := by decide +kernel
theorem dX8_often_65 : decode cX8_often 65 = .ok (.aload_n 0, 1) := by decide +kernel
theorem dX8_often_66 : decode cX8_often 66 = .ok (.iload 6, 2) := by decide +kernel
theorem dX8_often_68 : decode cX8_often 68 = .ok (.ldc 90, 2) := by decide +kernel
theorem dX8_often_70 : decode cX8_often 70 = .ok (.invokevirtual 288, 3) := by decide +kernel
theorem dX8_often_73 : decode cX8_often 73 = .ok (.iload 5, 2) := by decide +kernel
theorem dX8_often_75 : decode cX8_often 75 = .ok (.aload_n 0, 1) := by decide +kernel
theorem dX8_often_76 : decode cX8_often 76 = .ok (.getfield 35, 3) := by decide +kernel
theorem dX8_often_79 : decode cX8_often 79 = .ok (.iload_n 1, 1) := by decide +kernel
theorem dX8_often_80 : decode cX8_often 80 = .ok (.iaload, 1) := by decide +kernel
theorem dX8_often_81 : decode cX8_often 81 = .ok (.iload 4, 2) := by decide +kernel
theorem dX8_often_83 : decode cX8_often 83 = .ok (.if_icmp .ne 7, 3) := by decide +kernel
theorem dX8_often_86 : decode cX8_often 86 = .ok (.iconst 1, 1) := by decide +kernel
theorem dX8_often_87 : decode cX8_often 87 = .ok (.goto 4, 3) := by decide +kernel
theorem dX8_often_90 : decode cX8_often 90 = .ok (.iconst 0, 1) := by decide +kernel
theorem dX8_often_91 : decode cX8_often 91 = .ok (.iadd, 1) := by decide +kernel
theorem dX8_often_92 : decode cX8_often 92 = .ok (.istore 5, 2) := by decide +kernel
theorem dX8_often_94 : decode cX8_often 94 = .ok (.iinc 6 1, 3) := by decide +kernel
theorem dX8_often_97 : decode cX8_often 97 = .ok (.goto (-48), 3) := by decide +kernel
theorem dX8_often_100 : decode cX8_often 100 = .ok (.iload 5, 2) := by decide +kernel
theorem dX8_often_102 : decode cX8_often 102 = .ok (.ireturn, 1) := by decide +kernel
theorem dX7_enough_0 : decode cX7_enough 0 = .ok (.aload_n 0, 1) := by decide +kernel
theorem dX7_enough_1 : decode cX7_enough 1 = .ok (.getfield 36, 3) := by decide +kernel
theorem dX7_enough_4 : decode cX7_enough 4 = .ok (.getfield 128, 3) := by decide +kernel
theorem dX7_enough_7 : decode cX7_enough 7 = .ok (.ifCond .ne 6, 3) := by decide +kernel
theorem dX7_enough_10 : decode cX7_enough 10 = .ok (.ldc 105, 2) := by decide +kernel
theorem dX7_enough_12 : decode cX7_enough 12 = .ok (.ireturn, 1) := by decide +kernel
theorem dX7_enough_13 : decode cX7_enough 13 = .ok (.iload_n 1, 1) := by decide +kernel
theorem dX7_enough_14 : decode cX7_enough 14 = .ok (.invokestatic 153, 3) := by decide +kernel
theorem dX7_enough_17 : decode cX7_enough 17 = .ok (.ifCond .eq 14, 3) := by decide +kernel
theorem dX7_enough_20 : decode cX7_enough 20 = .ok (.iload_n 2, 1) := by decide +kernel
theorem dX7_enough_21 : decode cX7_enough 21 = .ok (.iconst 1, 1) := by decide +kernel
theorem dX7_enough_22 : decode cX7_enough 22 = .ok (.sipush 400, 3) := by decide +kernel
theorem dX7_enough_25 : decode cX7_enough 25 = .ok (.invokestatic 68, 3) := by decide +kernel
theorem dX7_enough_28 : decode cX7_enough 28 = .ok (.ifCond .ne 6, 3) := by decide +kernel
theorem dX7_enough_31 : decode cX7_enough 31 = .ok (.ldc 72, 2) := by decide +kernel
theorem dX7_enough_33 : decode cX7_enough 33 = .ok (.ireturn, 1) := by decide +kernel
theorem dX7_enough_34 : decode cX7_enough 34 = .ok (.aload_n 0, 1) := by decide +kernel
theorem dX7_enough_35 : decode cX7_enough 35 = .ok (.getfield 51, 3) := by decide +kernel
theorem dX7_enough_38 : decode cX7_enough 38 = .ok (.iload_n 1, 1) := by decide +kernel
theorem dX7_enough_39 : decode cX7_enough 39 = .ok (.iconst (-1), 1) := by decide +kernel
theorem dX7_enough_40 : decode cX7_enough 40 = .ok (.invokevirtual 156, 3) := by decide +kernel
theorem dX7_enough_43 : decode cX7_enough 43 = .ok (.aload_n 0, 1) := by decide +kernel
theorem dX7_enough_44 : decode cX7_enough 44 = .ok (.getfield 51, 3) := by decide +kernel
theorem dX7_enough_47 : decode cX7_enough 47 = .ok (.aload_n 0, 1) := by decide +kernel
theorem dX7_enough_48 : decode cX7_enough 48 = .ok (.getfield 51, 3) := by decide +kernel
theorem dX7_enough_51 : decode cX7_enough 51 = .ok (.getfield 160, 3) := by decide +kernel
theorem dX7_enough_54 : decode cX7_enough 54 = .ok (.getfield 164, 3) := by decide +kernel
theorem dX7_enough_57 : decode cX7_enough 57 = .ok (.invokevirtual 230, 3) := by decide +kernel
theorem dX7_enough_60 : decode cX7_enough 60 = .ok (.istore_n 3, 1) := by decide +kernel
theorem dX7_enough_61 : decode cX7_enough 61 = .ok (.iconst 1, 1) := by decide +kernel
theorem dX7_enough_62 : decode cX7_enough 62 = .ok (.istore 4, 2) := by decide +kernel
theorem dX7_enough_64 : decode cX7_enough 64 = .ok (.iload 4, 2) := by decide +kernel
theorem dX7_enough_66 : decode cX7_enough 66 = .ok (.bipush 9, 2) := by decide +kernel
theorem dX7_enough_68 : decode cX7_enough 68 = .ok (.if_icmp .gt 30, 3) := by decide +kernel
theorem dX7_enough_71 : decode cX7_enough 71 = .ok (.iload_n 3, 1) := by decide +kernel
theorem dX7_enough_72 : decode cX7_enough 72 = .ok (.iload 4, 2) := by decide +kernel
theorem dX7_enough_74 : decode cX7_enough 74 = .ok (.imul, 1) := by decide +kernel
theorem dX7_enough_75 : decode cX7_enough 75 = .ok (.iload_n 2, 1) := by decide +kernel
theorem dX7_enough_76 : decode cX7_enough 76 = .ok (.aload_n 0, 1) := by decide +kernel
theorem dX7_enough_77 : decode cX7_enough 77 = .ok (.getfield 36, 3) := by decide +kernel
theorem dX7_enough_80 : decode cX7_enough 80 = .ok (.getfield 141, 3) := by decide +kernel
theorem dX7_enough_83 : decode cX7_enough 83 = .ok (.iconst 3, 1) := by decide +kernel
theorem dX7_enough_84 : decode cX7_enough 84 = .ok (.iaload, 1) := by decide +kernel
theorem dX7_enough_85 : decode cX7_enough 85 = .ok (.imul, 1) := by decide +kernel
theorem dX7_enough_86 : decode cX7_enough 86 = .ok (.if_icmp .lt 6, 3) := by decide +kernel
theorem dX7_enough_89 : decode cX7_enough 89 = .ok (.iload 4, 2) := by decide +kernel
theorem dX7_enough_91 : decode cX7_enough 91 = .ok (.ireturn, 1) := by decide +kernel
theorem dX7_enough_92 : decode cX7_enough 92 = .ok (.iinc 4 1, 3) := by decide +kernel
theorem dX7_enough_95 : decode cX7_enough 95 = .ok (.goto (-31), 3) := by decide +kernel
theorem dX7_enough_98 : decode cX7_enough 98 = .ok (.ldc 203, 2) := by decide +kernel
theorem dX7_enough_100 : decode cX7_enough 100 = .ok (.ireturn, 1) := by decide +kernel
theorem dX8_enough_0 : decode cX8_enough 0 = .ok (.aload_n 0, 1) := by decide +kernel
theorem dX8_enough_1 : decode cX8_enough 1 = .ok (.invokevirtual 261, 3) := by decide +kernel
theorem dX8_enough_4 : decode cX8_enough 4 = .ok (.ifCond .ne 6, 3) := by decide +kernel
theorem dX8_enough_7 : decode cX8_enough 7 = .ok (.ldc 238, 2) := by decide +kernel
theorem dX8_enough_9 : decode cX8_enough 9 = .ok (.ireturn, 1) := by decide +kernel
theorem dX8_enough_10 : decode cX8_enough 10 = .ok (.iload_n 1, 1) := by decide +kernel
theorem dX8_enough_11 : decode cX8_enough 11 = .ok (.invokestatic 283, 3) := by decide +kernel
theorem dX8_enough_14 : decode cX8_enough 14 = .ok (.ifCond .eq 15, 3) := by decide +kernel
theorem dX8_enough_17 : decode cX8_enough 17 = .ok (.iload_n 2, 1) := by decide +kernel
theorem dX8_enough_18 : decode cX8_enough 18 = .ok (.i2l, 1) := by decide +kernel
theorem dX8_enough_19 : decode cX8_enough 19 = .ok (.lconst 1, 1) := by decide +kernel
theorem dX8_enough_20 : decode cX8_enough 20 = .ok (.ldc2_w 315, 3) := by decide +kernel
theorem dX8_enough_23 : decode cX8_enough 23 = .ok (.invokestatic 55, 3) := by decide +kernel
theorem dX8_enough_26 : decode cX8_enough 26 = .ok (.ifCond .ne 6, 3) := by decide +kernel
theorem dX8_enough_29 : decode cX8_enough 29 = .ok (.ldc 209, 2) := by decide +kernel
theorem dX8_enough_31 : decode cX8_enough 31 = .ok (.ireturn, 1) := by decide +kernel
theorem dX8_enough_32 : decode cX8_enough 32 = .ok (.aload_n 0, 1) := by decide +kernel
theorem dX8_enough_33 : decode cX8_enough 33 = .ok (.iload_n 1, 1) := by decide +kernel
theorem dX8_enough_34 : decode cX8_enough 34 = .ok (.ldc 90, 2) := by decide +kernel
theorem dX8_enough_36 : decode cX8_enough 36 = .ok (.invokevirtual 288, 3) := by decide +kernel
theorem dX8_enough_39 : decode cX8_enough 39 = .ok (.aload_n 0, 1) := by decide +kernel
theorem dX8_enough_40 : decode cX8_enough 40 = .ok (.aload_n 0, 1) := by decide +kernel
theorem dX8_enough_41 : decode cX8_enough 41 = .ok (.getfield 71, 3) := by decide +kernel
theorem dX8_enough_44 : decode cX8_enough 44 = .ok (.invokevirtual 307, 3) := by decide +kernel
theorem dX8_enough_47 : decode cX8_enough 47 = .ok (.istore_n 3, 1) := by decide +kernel
theorem dX8_enough_48 : decode cX8_enough 48 = .ok (.iconst 1, 1) := by decide +kernel
theorem dX8_enough_49 : decode cX8_enough 49 = .ok (.istore 4, 2) := by decide +kernel
theorem dX8_enough_51 : decode cX8_enough 51 = .ok (.iload 4, 2) := by decide +kernel
theorem dX8_enough_53 : decode cX8_enough 53 = .ok (.bipush 10, 2) := by decide +kernel
theorem dX8_enough_55 : decode cX8_enough 55 = .ok (.if_icmp .ge 27, 3) := by decide +kernel
theorem dX8_enough_58 : decode cX8_enough 58 = .ok (.iload 4, 2) := by decide +kernel
theorem dX8_enough_60 : decode cX8_enough 60 = .ok (.iload_n 3, 1) := by decide +kernel
theorem dX8_enough_61 : decode cX8_enough 61 = .ok (.imul, 1) := by decide +kernel
theorem dX8_enough_62 : decode cX8_enough 62 = .ok (.aload_n 0, 1) := by decide +kernel
theorem dX8_enough_63 : decode cX8_enough 63 = .ok (.getfield 7, 3) := by decide +kernel
theorem dX8_enough_66 : decode cX8_enough 66 = .ok (.iconst 3, 1) := by decide +kernel
theorem dX8_enough_67 : decode cX8_enough 67 = .ok (.iaload, 1) := by decide +kernel
theorem dX8_enough_68 : decode cX8_enough 68 = .ok (.idiv, 1) := by decide +kernel
theorem dX8_enough_69 : decode cX8_enough 69 = .ok (.iload_n 2, 1) := by decide +kernel
theorem dX8_enough_70 : decode cX8_enough 70 = .ok (.if_icmp .lt 6, 3) := by decide +kernel
theorem dX8_enough_73 : decode cX8_enough 73 = .ok (.iload 4, 2) := by decide +kernel
theorem dX8_enough_75 : decode cX8_enough 75 = .ok (.ireturn, 1) := by decide +kernel
theorem dX8_enough_76 : decode cX8_enough 76 = .ok (.iinc 4 1, 3) := by decide +kernel
theorem dX8_enough_79 : decode cX8_enough 79 = .ok (.goto (-28), 3) := by decide +kernel
theorem dX8_enough_82 : decode cX8_enough 82 = .ok (.ldc 90, 2) := by decide +kernel
theorem dX8_enough_84 : decode cX8_enough 84 = .ok (.ireturn, 1) := by decide +kernel
theorem dX7_best_0 : decode cX7_best 0 = .ok (.aload_n 0, 1) := by decide +kernel
theorem dX7_best_1 : decode cX7_best 1 = .ok (.getfield 36, 3) := by decide +kernel
theorem dX7_best_4 : decode cX7_best 4 = .ok (.getfield 128, 3) := by decide +kernel
theorem dX7_best_7 : decode cX7_best 7 = .ok (.ifCond .ne 6, 3) := by decide +kernel
theorem dX7_best_10 : decode cX7_best 10 = .ok (.ldc 105, 2) := by decide +kernel
theorem dX7_best_12 : decode cX7_best 12 = .ok (.ireturn, 1) := by decide +kernel
theorem dX7_best_13 : decode cX7_best 13 = .ok (.iload_n 1, 1) := by decide +kernel
theorem dX7_best_14 : decode cX7_best 14 = .ok (.invokestatic 153, 3) := by decide +kernel
theorem dX7_best_17 : decode cX7_best 17 = .ok (.ifCond .ne 6, 3) := by decide +kernel
theorem dX7_best_20 : decode cX7_best 20 = .ok (.ldc 72, 2) := by decide +kernel
theorem dX7_best_22 : decode cX7_best 22 = .ok (.ireturn, 1) := by decide +kernel
theorem dX7_best_23 : decode cX7_best 23 = .ok (.aload_n 0, 1) := by decide +kernel
theorem dX7_best_24 : decode cX7_best 24 = .ok (.getfield 51, 3) := by decide +kernel
theorem dX7_best_27 : decode cX7_best 27 = .ok (.iload_n 1, 1) := by decide +kernel
theorem dX7_best_28 : decode cX7_best 28 = .ok (.iconst (-1), 1) := by decide +kernel
theorem dX7_best_29 : decode cX7_best 29 = .ok (.invokevirtual 156, 3) := by decide +kernel
theorem dX7_best_32 : decode cX7_best 32 = .ok (.ldc 203, 2) := by decide +kernel
theorem dX7_best_34 : decode cX7_best 34 = .ok (.istore_n 2, 1) := by decide +kernel
theorem dX7_best_35 : decode cX7_best 35 = .ok (.iconst 0, 1) := by decide +kernel
theorem dX7_best_36 : decode cX7_best 36 = .ok (.istore_n 3, 1) := by decide +kernel
theorem dX7_best_37 : decode cX7_best 37 = .ok (.getstatic 135, 3) := by decide +kernel
theorem dX7_best_40 : decode cX7_best 40 = .ok (.iconst 5, 1) := by decide +kernel
theorem dX7_best_41 : decode cX7_best 41 = .ok (.iaload, 1) := by decide +kernel
theorem dX7_best_42 : decode cX7_best 42 = .ok (.istore 4, 2) := by decide +kernel
theorem dX7_best_44 : decode cX7_best 44 = .ok (.iload 4, 2) := by decide +kernel
theorem dX7_best_46 : decode cX7_best 46 = .ok (.getstatic 138, 3) := by decide +kernel
theorem dX7_best_49 : decode cX7_best 49 = .ok (.iconst 5, 1) := by decide +kernel
theorem dX7_best_50 : decode cX7_best 50 = .ok (.iaload, 1) := by decide +kernel
theorem dX7_best_51 : decode cX7_best 51 = .ok (.if_icmp .gt 56, 3) := by decide +kernel
theorem dX7_best_54 : decode cX7_best 54 = .ok (.aload_n 0, 1) := by decide +kernel
theorem dX7_best_55 : decode cX7_best 55 = .ok (.getfield 60, 3) := by decide +kernel
theorem dX7_best_58 : decode cX7_best 58 = .ok (.iload 4, 2) := by decide +kernel
theorem dX7_best_60 : decode cX7_best 60 = .ok (.aload_n 0, 1) := by decide +kernel
theorem dX7_best_61 : decode cX7_best 61 = .ok (.getfield 51, 3) := by decide +kernel
theorem dX7_best_64 : decode cX7_best 64 = .ok (.getfield 160, 3) := by decide +kernel
theorem dX7_best_67 : decode cX7_best 67 = .ok (.getfield 164, 3) := by decide +kernel
theorem dX7_best_70 : decode cX7_best 70 = .ok (.invokevirtual 187, 3) := by decide +kernel
theorem dX7_best_73 : decode cX7_best 73 = .ok (.iload_n 2, 1) := by decide +kernel
theorem dX7_best_74 : decode cX7_best 74 = .ok (.ldc 203, 2) := by decide +kernel
theorem dX7_best_76 : decode cX7_best 76 = .ok (.if_icmp .eq 14, 3) := by decide +kernel
theorem dX7_best_79 : decode cX7_best 79 = .ok (.aload_n 0, 1) := by decide +kernel
theorem dX7_best_80 : decode cX7_best 80 = .ok (.getfield 60, 3) := by decide +kernel
theorem dX7_best_83 : decode cX7_best 83 = .ok (.invokevirtual 246, 3) := by decide +kernel
theorem dX7_best_86 : decode cX7_best 86 = .ok (.iload_n 3, 1) := by decide +kernel
theorem dX7_best_87 : decode cX7_best 87 = .ok (.if_icmp .ge 14, 3) := by decide +kernel
theorem dX7_best_90 : decode cX7_best 90 = .ok (.aload_n 0, 1) := by decide +kernel
theorem dX7_best_91 : decode cX7_best 91 = .ok (.getfield 60, 3) := by decide +kernel
theorem dX7_best_94 : decode cX7_best 94 = .ok (.invokevirtual 246, 3) := by decide +kernel
theorem dX7_best_97 : decode cX7_best 97 = .ok (.istore_n 3, 1) := by decide +kernel
theorem dX7_best_98 : decode cX7_best 98 = .ok (.iload 4, 2) := by decide +kernel
theorem dX7_best_100 : decode cX7_best 100 = .ok (.istore_n 2, 1) := by decide +kernel
theorem dX7_best_101 : decode cX7_best 101 = .ok (.iinc 4 1, 3) := by decide +kernel
theorem dX7_best_104 : decode cX7_best 104 = .ok (.goto (-60), 3) := by decide +kernel
theorem dX7_best_107 : decode cX7_best 107 = .ok (.iload_n 2, 1) := by decide +kernel
theorem dX7_best_108 : decode cX7_best 108 = .ok (.ireturn, 1) := by decide +kernel
theorem dX8_best_0 : decode cX8_best 0 = .ok (.aload_n 0, 1) := by decide +kernel
theorem dX8_best_1 : decode cX8_best 1 = .ok (.invokevirtual 261, 3) := by decide +kernel
theorem dX8_best_4 : decode cX8_best 4 = .ok (.ifCond .ne 6, 3) := by decide +kernel
theorem dX8_best_7 : decode cX8_best 7 = .ok (.ldc 238, 2) := by decide +kernel
theorem dX8_best_9 : decode cX8_best 9 = .ok (.ireturn, 1) := by decide +kernel
theorem dX8_best_10 : decode cX8_best 10 = .ok (.iload_n 1, 1) := by decide +kernel
theorem dX8_best_11 : decode cX8_best 11 = .ok (.invokestatic 283, 3) := by decide +kernel
theorem dX8_best_14 : decode cX8_best 14 = .ok (.ifCond .ne 6, 3) := by decide +kernel
theorem dX8_best_17 : decode cX8_best 17 = .ok (.ldc 209, 2) := by decide +kernel
theorem dX8_best_19 : decode cX8_best 19 = .ok (.ireturn, 1) := by decide +kernel
theorem dX8_best_20 : decode cX8_best 20 = .ok (.aload_n 0, 1) := by decide +kernel
theorem dX8_best_21 : decode cX8_best 21 = .ok (.iload_n 1, 1) := by decide +kernel
theorem dX8_best_22 : decode cX8_best 22 = .ok (.ldc 90, 2) := by decide +kernel
theorem dX8_best_24 : decode cX8_best 24 = .ok (.invokevirtual 288, 3) := by decide +kernel
theorem dX8_best_27 : decode cX8_best 27 = .ok (.iconst 0, 1) := by decide +kernel
theorem dX8_best_28 : decode cX8_best 28 = .ok (.istore_n 2, 1) := by decide +kernel
theorem dX8_best_29 : decode cX8_best 29 = .ok (.aload_n 0, 1) := by decide +kernel
theorem dX8_best_30 : decode cX8_best 30 = .ok (.iconst 0, 1) := by decide +kernel
theorem dX8_best_31 : decode cX8_best 31 = .ok (.invokevirtual 310, 3) := by decide +kernel
theorem dX8_best_34 : decode cX8_best 34 = .ok (.istore_n 3, 1) := by decide +kernel
theorem dX8_best_35 : decode cX8_best 35 = .ok (.iconst 1, 1) := by decide +kernel
theorem dX8_best_36 : decode cX8_best 36 = .ok (.istore 4, 2) := by decide +kernel
theorem dX8_best_38 : decode cX8_best 38 = .ok (.iload 4, 2) := by decide +kernel
theorem dX8_best_40 : decode cX8_best 40 = .ok (.iconst 3, 1) := by decide +kernel
theorem dX8_best_41 : decode cX8_best 41 = .ok (.if_icmp .ge 43, 3) := by decide +kernel
theorem dX8_best_44 : decode cX8_best 44 = .ok (.aload_n 0, 1) := by decide +kernel
theorem dX8_best_45 : decode cX8_best 45 = .ok (.iload 4, 2) := by decide +kernel
theorem dX8_best_47 : decode cX8_best 47 = .ok (.invokevirtual 310, 3) := by decide +kernel
theorem dX8_best_50 : decode cX8_best 50 = .ok (.istore 5, 2) := by decide +kernel
theorem dX8_best_52 : decode cX8_best 52 = .ok (.iload 5, 2) := by decide +kernel
theorem dX8_best_54 : decode cX8_best 54 = .ok (.iload_n 3, 1) := by decide +kernel
theorem dX8_best_55 : decode cX8_best 55 = .ok (.if_icmp .ge 8, 3) := by decide +kernel
theorem dX8_best_58 : decode cX8_best 58 = .ok (.iload 4, 2) := by decide +kernel
theorem dX8_best_60 : decode cX8_best 60 = .ok (.goto 4, 3) := by decide +kernel
theorem dX8_best_63 : decode cX8_best 63 = .ok (.iload_n 2, 1) := by decide +kernel
theorem dX8_best_64 : decode cX8_best 64 = .ok (.istore_n 2, 1) := by decide +kernel
theorem dX8_best_65 : decode cX8_best 65 = .ok (.iload 5, 2) := by decide +kernel
theorem dX8_best_67 : decode cX8_best 67 = .ok (.iload_n 3, 1) := by decide +kernel
theorem dX8_best_68 : decode cX8_best 68 = .ok (.if_icmp .ge 8, 3) := by decide +kernel
theorem dX8_best_71 : decode cX8_best 71 = .ok (.iload 5, 2) := by decide +kernel
theorem dX8_best_73 : decode cX8_best 73 = .ok (.goto 4, 3) := by decide +kernel
theorem dX8_best_76 : decode cX8_best 76 = .ok (.iload_n 3, 1) := by decide +kernel
theorem dX8_best_77 : decode cX8_best 77 = .ok (.istore_n 3, 1) := by decide +kernel
theorem dX8_best_78 : decode cX8_best 78 = .ok (.iinc 4 1, 3) := by decide +kernel
theorem dX8_best_81 : decode cX8_best 81 = .ok (.goto (-43), 3) := by decide +kernel
theorem dX8_best_84 : decode cX8_best 84 = .ok (.iload_n 2, 1) := by decide +kernel
theorem dX8_best_85 : decode cX8_best 85 = .ok (.ireturn, 1) := by decide +kernel
theorem dX7_bars_0 : decode cX7_bars 0 = .ok (.aload_n 0, 1) := by decide +kernel
theorem dX7_bars_1 : decode cX7_bars 1 = .ok (.getfield 36, 3) := by decide +kernel
theorem dX7_bars_4 : decode cX7_bars 4 = .ok (.iload_n 1, 1) := by decide +kernel
theorem dX7_bars_5 : decode cX7_bars 5 = .ok (.invokevirtual 109, 3) := by decide +kernel
theorem dX7_bars_8 : decode cX7_bars 8 = .ok (.ifCond .eq 10, 3) := by decide +kernel
theorem dX7_bars_11 : decode cX7_bars 11 = .ok (.iload_n 2, 1) := by decide +kernel
theorem dX7_bars_12 : decode cX7_bars 12 = .ok (.invokestatic 153, 3) := by decide +kernel
theorem dX7_bars_15 : decode cX7_bars 15 = .ok (.ifCond .ne 6, 3) := by decide +kernel
theorem dX7_bars_18 : decode cX7_bars 18 = .ok (.ldc 72, 2) := by decide +kernel
theorem dX7_bars_20 : decode cX7_bars 20 = .ok (.ireturn, 1) := by decide +kernel
theorem dX7_bars_21 : decode cX7_bars 21 = .ok (.aload_n 0, 1) := by decide +kernel
theorem dX7_bars_22 : decode cX7_bars 22 = .ok (.getfield 51, 3) := by decide +kernel
theorem dX7_bars_25 : decode cX7_bars 25 = .ok (.iload_n 2, 1) := by decide +kernel
theorem dX7_bars_26 : decode cX7_bars 26 = .ok (.iconst (-1), 1) := by decide +kernel
theorem dX7_bars_27 : decode cX7_bars 27 = .ok (.invokevirtual 156, 3) := by decide +kernel
theorem dX7_bars_30 : decode cX7_bars 30 = .ok (.aload_n 0, 1) := by decide +kernel
theorem dX7_bars_31 : decode cX7_bars 31 = .ok (.getfield 51, 3) := by decide +kernel
theorem dX7_bars_34 : decode cX7_bars 34 = .ok (.getfield 216, 3) := by decide +kernel
theorem dX7_bars_37 : decode cX7_bars 37 = .ok (.iload_n 1, 1) := by decide +kernel
theorem dX7_bars_38 : decode cX7_bars 38 = .ok (.iaload, 1) := by decide +kernel
theorem dX7_bars_39 : decode cX7_bars 39 = .ok (.iconst 1, 1) := by decide +kernel
theorem dX7_bars_40 : decode cX7_bars 40 = .ok (.if_icmp .eq 15, 3) := by decide +kernel
theorem dX7_bars_43 : decode cX7_bars 43 = .ok (.aload_n 0, 1) := by decide +kernel
theorem dX7_bars_44 : decode cX7_bars 44 = .ok (.getfield 51, 3) := by decide +kernel
theorem dX7_bars_47 : decode cX7_bars 47 = .ok (.getfield 216, 3) := by decide +kernel
theorem dX7_bars_50 : decode cX7_bars 50 = .ok (.iload_n 1, 1) := by decide +kernel
theorem dX7_bars_51 : decode cX7_bars 51 = .ok (.iaload, 1) := by decide +kernel
theorem dX7_bars_52 : decode cX7_bars 52 = .ok (.ifCond .ne 5, 3) := by decide +kernel
theorem dX7_bars_55 : decode cX7_bars 55 = .ok (.iconst 0, 1) := by decide +kernel
theorem dX7_bars_56 : decode cX7_bars 56 = .ok (.ireturn, 1) := by decide +kernel
theorem dX7_bars_57 : decode cX7_bars 57 = .ok (.iconst 0, 1) := by decide +kernel
theorem dX7_bars_58 : decode cX7_bars 58 = .ok (.istore_n 3, 1) := by decide +kernel
theorem dX7_bars_59 : decode cX7_bars 59 = .ok (.iconst 0, 1) := by decide +kernel
theorem dX7_bars_60 : decode cX7_bars 60 = .ok (.istore 4, 2) := by decide +kernel
theorem dX7_bars_62 : decode cX7_bars 62 = .ok (.iload 4, 2) := by decide +kernel
theorem dX7_bars_64 : decode cX7_bars 64 = .ok (.aload_n 0, 1) := by decide +kernel
theorem dX7_bars_65 : decode cX7_bars 65 = .ok (.getfield 36, 3) := by decide +kernel
theorem dX7_bars_68 : decode cX7_bars 68 = .ok (.getfield 102, 3) := by decide +kernel
theorem dX7_bars_71 : decode cX7_bars 71 = .ok (.if_icmp .ge 39, 3) := by decide +kernel
theorem dX7_bars_74 : decode cX7_bars 74 = .ok (.aload_n 0, 1) := by decide +kernel
theorem dX7_bars_75 : decode cX7_bars 75 = .ok (.getfield 51, 3) := by decide +kernel
theorem dX7_bars_78 : decode cX7_bars 78 = .ok (.iload_n 2, 1) := by decide +kernel
theorem dX7_bars_79 : decode cX7_bars 79 = .ok (.iload 4, 2) := by decide +kernel
theorem dX7_bars_81 : decode cX7_bars 81 = .ok (.invokevirtual 156, 3) := by decide +kernel
theorem dX7_bars_84 : decode cX7_bars 84 = .ok (.aload_n 0, 1) := by decide +kernel
theorem dX7_bars_85 : decode cX7_bars 85 = .ok (.getfield 51, 3) := by decide +kernel
theorem dX7_bars_88 : decode cX7_bars 88 = .ok (.getfield 216, 3) := by decide +kernel
theorem dX7_bars_91 : decode cX7_bars 91 = .ok (.iload_n 1, 1) := by decide +kernel
theorem dX7_bars_92 : decode cX7_bars 92 = .ok (.iaload, 1) := by decide +kernel
theorem dX7_bars_93 : decode cX7_bars 93 = .ok (.iconst 1, 1) := by decide +kernel
theorem dX7_bars_94 : decode cX7_bars 94 = .ok (.if_icmp .ne 10, 3) := by decide +kernel
theorem dX7_bars_97 : decode cX7_bars 97 = .ok (.iload_n 3, 1) := by decide +kernel
theorem dX7_bars_98 : decode cX7_bars 98 = .ok (.iconst 1, 1) := by decide +kernel
theorem dX7_bars_99 : decode cX7_bars 99 = .ok (.iload 4, 2) := by decide +kernel
theorem dX7_bars_101 : decode cX7_bars 101 = .ok (.ishl, 1) := by decide +kernel
theorem dX7_bars_102 : decode cX7_bars 102 = .ok (.ior, 1) := by decide +kernel
theorem dX7_bars_103 : decode cX7_bars 103 = .ok (.istore_n 3, 1) := by decide +kernel
theorem dX7_bars_104 : decode cX7_bars 104 = .ok (.iinc 4 1, 3) := by decide +kernel
theorem dX7_bars_107 : decode cX7_bars 107 = .ok (.goto (-45), 3) := by decide +kernel
theorem dX7_bars_110 : decode cX7_bars 110 = .ok (.iload_n 3, 1) := by decide +kernel
theorem dX7_bars_111 : decode cX7_bars 111 = .ok (.ireturn, 1) := by decide +kernel
theorem dX8_bars_0 : decode cX8_bars 0 = .ok (.aload_n 0, 1) := by decide +kernel
theorem dX8_bars_1 : decode cX8_bars 1 = .ok (.iload_n 1, 1) := by decide +kernel
theorem dX8_bars_2 : decode cX8_bars 2 = .ok (.invokevirtual 252, 3) := by decide +kernel
theorem dX8_bars_5 : decode cX8_bars 5 = .ok (.ifCond .eq 10, 3) := by decide +kernel
theorem dX8_bars_8 : decode cX8_bars 8 = .ok (.iload_n 2, 1) := by decide +kernel
theorem dX8_bars_9 : decode cX8_bars 9 = .ok (.invokestatic 283, 3) := by decide +kernel
theorem dX8_bars_12 : decode cX8_bars 12 = .ok (.ifCond .ne 6, 3) := by decide +kernel
theorem dX8_bars_15 : decode cX8_bars 15 = .ok (.ldc 209, 2) := by decide +kernel
theorem dX8_bars_17 : decode cX8_bars 17 = .ok (.ireturn, 1) := by decide +kernel
theorem dX8_bars_18 : decode cX8_bars 18 = .ok (.aload_n 0, 1) := by decide +kernel
theorem dX8_bars_19 : decode cX8_bars 19 = .ok (.iload_n 2, 1) := by decide +kernel
theorem dX8_bars_20 : decode cX8_bars 20 = .ok (.ldc 90, 2) := by decide +kernel
theorem dX8_bars_22 : decode cX8_bars 22 = .ok (.invokevirtual 288, 3) := by decide +kernel
theorem dX8_bars_25 : decode cX8_bars 25 = .ok (.iconst 0, 1) := by decide +kernel
theorem dX8_bars_26 : decode cX8_bars 26 = .ok (.istore_n 3, 1) := by decide +kernel
theorem dX8_bars_27 : decode cX8_bars 27 = .ok (.aload_n 0, 1) := by decide +kernel
theorem dX8_bars_28 : decode cX8_bars 28 = .ok (.getfield 35, 3) := by decide +kernel
theorem dX8_bars_31 : decode cX8_bars 31 = .ok (.iload_n 1, 1) := by decide +kernel
theorem dX8_bars_32 : decode cX8_bars 32 = .ok (.iaload, 1) := by decide +kernel
theorem dX8_bars_33 : decode cX8_bars 33 = .ok (.ifCond .eq 13, 3) := by decide +kernel
theorem dX8_bars_36 : decode cX8_bars 36 = .ok (.aload_n 0, 1) := by decide +kernel
theorem dX8_bars_37 : decode cX8_bars 37 = .ok (.getfield 35, 3) := by decide +kernel
theorem dX8_bars_40 : decode cX8_bars 40 = .ok (.iload_n 1, 1) := by decide +kernel
theorem dX8_bars_41 : decode cX8_bars 41 = .ok (.iaload, 1) := by decide +kernel
theorem dX8_bars_42 : decode cX8_bars 42 = .ok (.iconst 1, 1) := by decide +kernel
theorem dX8_bars_43 : decode cX8_bars 43 = .ok (.if_icmp .ne 5, 3) := by decide +kernel
theorem dX8_bars_46 : decode cX8_bars 46 = .ok (.iconst 0, 1) := by decide +kernel
theorem dX8_bars_47 : decode cX8_bars 47 = .ok (.ireturn, 1) := by decide +kernel
theorem dX8_bars_48 : decode cX8_bars 48 = .ok (.iconst 0, 1) := by decide +kernel
theorem dX8_bars_49 : decode cX8_bars 49 = .ok (.istore 4, 2) := by decide +kernel
theorem dX8_bars_51 : decode cX8_bars 51 = .ok (.iload 4, 2) := by decide +kernel
theorem dX8_bars_53 : decode cX8_bars 53 = .ok (.aload_n 0, 1) := by decide +kernel
theorem dX8_bars_54 : decode cX8_bars 54 = .ok (.getfield 7, 3) := by decide +kernel
theorem dX8_bars_57 : decode cX8_bars 57 = .ok (.bipush 6, 2) := by decide +kernel
theorem dX8_bars_59 : decode cX8_bars 59 = .ok (.iaload, 1) := by decide +kernel
theorem dX8_bars_60 : decode cX8_bars 60 = .ok (.if_icmp .ge 43, 3) := by decide +kernel
theorem dX8_bars_63 : decode cX8_bars 63 = .ok (.iload 4, 2) := by decide +kernel
theorem dX8_bars_65 : decode cX8_bars 65 = .ok (.iload_n 1, 1) := by decide +kernel
theorem dX8_bars_66 : decode cX8_bars 66 = .ok (.if_icmp .eq 31, 3) := by decide +kernel
theorem dX8_bars_69 : decode cX8_bars 69 = .ok (.aload_n 0, 1) := by decide +kernel
theorem dX8_bars_70 : decode cX8_bars 70 = .ok (.iload_n 2, 1) := by decide +kernel
theorem dX8_bars_71 : decode cX8_bars 71 = .ok (.iload 4, 2) := by decide +kernel
theorem dX8_bars_73 : decode cX8_bars 73 = .ok (.invokevirtual 288, 3) := by decide +kernel
theorem dX8_bars_76 : decode cX8_bars 76 = .ok (.iload_n 3, 1) := by decide +kernel
theorem dX8_bars_77 : decode cX8_bars 77 = .ok (.aload_n 0, 1) := by decide +kernel
theorem dX8_bars_78 : decode cX8_bars 78 = .ok (.getfield 35, 3) := by decide +kernel
theorem dX8_bars_81 : decode cX8_bars 81 = .ok (.iload_n 1, 1) := by decide +kernel
theorem dX8_bars_82 : decode cX8_bars 82 = .ok (.iaload, 1) := by decide +kernel
theorem dX8_bars_83 : decode cX8_bars 83 = .ok (.iconst 1, 1) := by decide +kernel
theorem dX8_bars_84 : decode cX8_bars 84 = .ok (.if_icmp .ne 10, 3) := by decide +kernel
theorem dX8_bars_87 : decode cX8_bars 87 = .ok (.iconst 1, 1) := by decide +kernel
theorem dX8_bars_88 : decode cX8_bars 88 = .ok (.iload 4, 2) := by decide +kernel
theorem dX8_bars_90 : decode cX8_bars 90 = .ok (.ishl, 1) := by decide +kernel
theorem dX8_bars_91 : decode cX8_bars 91 = .ok (.goto 4, 3) := by decide +kernel
theorem dX8_bars_94 : decode cX8_bars 94 = .ok (.iconst 0, 1) := by decide +kernel
theorem dX8_bars_95 : decode cX8_bars 95 = .ok (.ior, 1) := by decide +kernel
theorem dX8_bars_96 : decode cX8_bars 96 = .ok (.istore_n 3, 1) := by decide +kernel
theorem dX8_bars_97 : decode cX8_bars 97 = .ok (.iinc 4 1, 3) := by decide +kernel
theorem dX8_bars_100 : decode cX8_bars 100 = .ok (.goto (-49), 3) := by decide +kernel
theorem dX8_bars_103 : decode cX8_bars 103 = .ok (.iload_n 3, 1) := by decide +kernel
theorem dX8_bars_104 : decode cX8_bars 104 = .ok (.ireturn, 1) := by decide +kernel
theorem dX7_image_0 : decode cX7_image 0 = .ok (.iload_n 1, 1) := by decide +kernel
theorem dX7_image_1 : decode cX7_image 1 = .ok (.iconst 0, 1) := by decide +kernel
theorem dX7_image_2 : decode cX7_image 2 = .ok (.iconst 1, 1) := by decide +kernel
theorem dX7_image_3 : decode cX7_image 3 = .ok (.invokestatic 68, 3) := by decide +kernel
theorem dX7_image_6 : decode cX7_image 6 = .ok (.ifCond .ne 6, 3) := by decide +kernel
theorem dX7_image_9 : decode cX7_image 9 = .ok (.ldc 72, 2) := by decide +kernel
theorem dX7_image_11 : decode cX7_image 11 = .ok (.ireturn, 1) := by decide +kernel
theorem dX7_image_12 : decode cX7_image 12 = .ok (.aload_n 0, 1) := by decide +kernel
theorem dX7_image_13 : decode cX7_image 13 = .ok (.getfield 36, 3) := by decide +kernel
theorem dX7_image_16 : decode cX7_image 16 = .ok (.getfield 128, 3) := by decide +kernel
theorem dX7_image_19 : decode cX7_image 19 = .ok (.ifCond .ne 6, 3) := by decide +kernel
theorem dX7_image_22 : decode cX7_image 22 = .ok (.ldc 105, 2) := by decide +kernel
theorem dX7_image_24 : decode cX7_image 24 = .ok (.ireturn, 1) := by decide +kernel
theorem dX7_image_25 : decode cX7_image 25 = .ok (.aload_n 0, 1) := by decide +kernel
theorem dX7_image_26 : decode cX7_image 26 = .ok (.getfield 40, 3) := by decide +kernel
theorem dX7_image_29 : decode cX7_image 29 = .ok (.iload_n 1, 1) := by decide +kernel
theorem dX7_image_30 : decode cX7_image 30 = .ok (.aaload, 1) := by decide +kernel
theorem dX7_image_31 : decode cX7_image 31 = .ok (.aload_n 0, 1) := by decide +kernel
theorem dX7_image_32 : decode cX7_image 32 = .ok (.getfield 36, 3) := by decide +kernel
theorem dX7_image_35 : decode cX7_image 35 = .ok (.invokevirtual 95, 3) := by decide +kernel
theorem dX7_image_38 : decode cX7_image 38 = .ok (.iconst 1, 1) := by decide +kernel
theorem dX7_image_39 : decode cX7_image 39 = .ok (.ireturn, 1) := by decide +kernel
theorem dX8_image_0 : decode cX8_image 0 = .ok (.iload_n 1, 1) := by decide +kernel
theorem dX8_image_1 : decode cX8_image 1 = .ok (.i2l, 1) := by decide +kernel
theorem dX8_image_2 : decode cX8_image 2 = .ok (.lconst 0, 1) := by decide +kernel
theorem dX8_image_3 : decode cX8_image 3 = .ok (.lconst 1, 1) := by decide +kernel
theorem dX8_image_4 : decode cX8_image 4 = .ok (.invokestatic 55, 3) := by decide +kernel
theorem dX8_image_7 : decode cX8_image 7 = .ok (.ifCond .ne 6, 3) := by decide +kernel
theorem dX8_image_10 : decode cX8_image 10 = .ok (.ldc 209, 2) := by decide +kernel
theorem dX8_image_12 : decode cX8_image 12 = .ok (.ireturn, 1) := by decide +kernel
theorem dX8_image_13 : decode cX8_image 13 = .ok (.aload_n 0, 1) := by decide +kernel
theorem dX8_image_14 : decode cX8_image 14 = .ok (.invokevirtual 261, 3) := by decide +kernel
theorem dX8_image_17 : decode cX8_image 17 = .ok (.ifCond .ne 6, 3) := by decide +kernel
theorem dX8_image_20 : decode cX8_image 20 = .ok (.ldc 238, 2) := by decide +kernel
theorem dX8_image_22 : decode cX8_image 22 = .ok (.ireturn, 1) := by decide +kernel
theorem dX8_image_23 : decode cX8_image 23 = .ok (.aload_n 0, 1) := by decide +kernel
theorem dX8_image_24 : decode cX8_image 24 = .ok (.getfield 7, 3) := by decide +kernel
theorem dX8_image_27 : decode cX8_image 27 = .ok (.iconst 0, 1) := by decide +kernel
theorem dX8_image_28 : decode cX8_image 28 = .ok (.aload_n 0, 1) := by decide +kernel
theorem dX8_image_29 : decode cX8_image 29 = .ok (.getfield 19, 3) := by decide +kernel
theorem dX8_image_32 : decode cX8_image 32 = .ok (.bipush 79, 2) := by decide +kernel
theorem dX8_image_34 : decode cX8_image 34 = .ok (.iload_n 1, 1) := by decide +kernel
theorem dX8_image_35 : decode cX8_image 35 = .ok (.imul, 1) := by decide +kernel
theorem dX8_image_36 : decode cX8_image 36 = .ok (.invokestatic 231, 3) := by decide +kernel
theorem dX8_image_39 : decode cX8_image 39 = .ok (.aload_n 0, 1) := by decide +kernel
theorem dX8_image_40 : decode cX8_image 40 = .ok (.getfield 22, 3) := by decide +kernel
theorem dX8_image_43 : decode cX8_image 43 = .ok (.iload_n 1, 1) := by decide +kernel
theorem dX8_image_44 : decode cX8_image 44 = .ok (.iconst 1, 1) := by decide +kernel
theorem dX8_image_45 : decode cX8_image 45 = .ok (.bastore, 1) := by decide +kernel
theorem dX8_image_46 : decode cX8_image 46 = .ok (.iconst 1, 1) := by decide +kernel
theorem dX8_image_47 : decode cX8_image 47 = .ok (.ireturn, 1) := by decide +kernel
theorem dX7_restore_0 : decode cX7_restore 0 = .ok (.iload_n 1, 1) := by decide +kernel
theorem dX7_restore_1 : decode cX7_restore 1 = .ok (.iconst 0, 1) := by decide +kernel
theorem dX7_restore_2 : decode cX7_restore 2 = .ok (.iconst 1, 1) := by decide +kernel
theorem dX7_restore_3 : decode cX7_restore 3 = .ok (.invokestatic 68, 3) := by decide +kernel
theorem dX7_restore_6 : decode cX7_restore 6 = .ok (.ifCond .ne 6, 3) := by decide +kernel
theorem dX7_restore_9 : decode cX7_restore 9 = .ok (.ldc 72, 2) := by decide +kernel
theorem dX7_restore_11 : decode cX7_restore 11 = .ok (.ireturn, 1) := by decide +kernel
theorem dX7_restore_12 : decode cX7_restore 12 = .ok (.aload_n 0, 1) := by decide +kernel
theorem dX7_restore_13 : decode cX7_restore 13 = .ok (.getfield 40, 3) := by decide +kernel
theorem dX7_restore_16 : decode cX7_restore 16 = .ok (.iload_n 1, 1) := by decide +kernel
theorem dX7_restore_17 : decode cX7_restore 17 = .ok (.aaload, 1) := by decide +kernel
theorem dX7_restore_18 : decode cX7_restore 18 = .ok (.getfield 128, 3) := by decide +kernel
theorem dX7_restore_21 : decode cX7_restore 21 = .ok (.ifCond .ne 6, 3) := by decide +kernel
theorem dX7_restore_24 : decode cX7_restore 24 = .ok (.ldc 105, 2) := by decide +kernel
theorem dX7_restore_26 : decode cX7_restore 26 = .ok (.ireturn, 1) := by decide +kernel
theorem dX7_restore_27 : decode cX7_restore 27 = .ok (.aload_n 0, 1) := by decide +kernel
theorem dX7_restore_28 : decode cX7_restore 28 = .ok (.getfield 36, 3) := by decide +kernel
theorem dX7_restore_31 : decode cX7_restore 31 = .ok (.aload_n 0, 1) := by decide +kernel
theorem dX7_restore_32 : decode cX7_restore 32 = .ok (.getfield 40, 3) := by decide +kernel
theorem dX7_restore_35 : decode cX7_restore 35 = .ok (.iload_n 1, 1) := by decide +kernel
theorem dX7_restore_36 : decode cX7_restore 36 = .ok (.aaload, 1) := by decide +kernel
theorem dX7_restore_37 : decode cX7_restore 37 = .ok (.invokevirtual 95, 3) := by decide +kernel
theorem dX7_restore_40 : decode cX7_restore 40 = .ok (.aload_n 0, 1) := by decide +kernel
theorem dX7_restore_41 : decode cX7_restore 41 = .ok (.getfield 47, 3) := by decide +kernel
theorem dX7_restore_44 : decode cX7_restore 44 = .ok (.iconst 0, 1) := by decide +kernel
theorem dX7_restore_45 : decode cX7_restore 45 = .ok (.putfield 99, 3) := by decide +kernel
theorem dX7_restore_48 : decode cX7_restore 48 = .ok (.iconst 1, 1) := by decide +kernel
theorem dX7_restore_49 : decode cX7_restore 49 = .ok (.ireturn, 1) := by decide +kernel
theorem dX8_restore_0 : decode cX8_restore 0 = .ok (.iload_n 1, 1) := by decide +kernel
theorem dX8_restore_1 : decode cX8_restore 1 = .ok (.i2l, 1) := by decide +kernel
theorem dX8_restore_2 : decode cX8_restore 2 = .ok (.lconst 0, 1) := by decide +kernel
theorem dX8_restore_3 : decode cX8_restore 3 = .ok (.lconst 1, 1) := by decide +kernel
theorem dX8_restore_4 : decode cX8_restore 4 = .ok (.invokestatic 55, 3) := by decide +kernel
theorem dX8_restore_7 : decode cX8_restore 7 = .ok (.ifCond .ne 6, 3) := by decide +kernel
theorem dX8_restore_10 : decode cX8_restore 10 = .ok (.ldc 209, 2) := by decide +kernel
theorem dX8_restore_12 : decode cX8_restore 12 = .ok (.ireturn, 1) := by decide +kernel
theorem dX8_restore_13 : decode cX8_restore 13 = .ok (.aload_n 0, 1) := by decide +kernel
theorem dX8_restore_14 : decode cX8_restore 14 = .ok (.getfield 22, 3) := by decide +kernel
theorem dX8_restore_17 : decode cX8_restore 17 = .ok (.iload_n 1, 1) := by decide +kernel
theorem dX8_restore_18 : decode cX8_restore 18 = .ok (.baload, 1) := by decide +kernel
theorem dX8_restore_19 : decode cX8_restore 19 = .ok (.ifCond .ne 6, 3) := by decide +kernel
theorem dX8_restore_22 : decode cX8_restore 22 = .ok (.ldc 238, 2) := by decide +kernel
theorem dX8_restore_24 : decode cX8_restore 24 = .ok (.ireturn, 1) := by decide +kernel
theorem dX8_restore_25 : decode cX8_restore 25 = .ok (.aload_n 0, 1) := by decide +kernel
theorem dX8_restore_26 : decode cX8_restore 26 = .ok (.getfield 19, 3) := by decide +kernel
theorem dX8_restore_29 : decode cX8_restore 29 = .ok (.bipush 79, 2) := by decide +kernel
theorem dX8_restore_31 : decode cX8_restore 31 = .ok (.iload_n 1, 1) := by decide +kernel
theorem dX8_restore_32 : decode cX8_restore 32 = .ok (.imul, 1) := by decide +kernel
theorem dX8_restore_33 : decode cX8_restore 33 = .ok (.aload_n 0, 1) := by decide +kernel
theorem dX8_restore_34 : decode cX8_restore 34 = .ok (.getfield 7, 3) := by decide +kernel
theorem dX8_restore_37 : decode cX8_restore 37 = .ok (.iconst 0, 1) := by decide +kernel
theorem dX8_restore_38 : decode cX8_restore 38 = .ok (.invokestatic 231, 3) := by decide +kernel
theorem dX8_restore_41 : decode cX8_restore 41 = .ok (.aload_n 0, 1) := by decide +kernel
theorem dX8_restore_42 : decode cX8_restore 42 = .ok (.iconst 0, 1) := by decide +kernel
theorem dX8_restore_43 : decode cX8_restore 43 = .ok (.putfield 235, 3) := by decide +kernel
theorem dX8_restore_46 : decode cX8_restore 46 = .ok (.iconst 1, 1) := by decide +kernel
theorem dX8_restore_47 : decode cX8_restore 47 = .ok (.ireturn, 1) := by decide +kernel
theorem dX7_count_0 : decode cX7_count 0 = .ok (.iload_n 1, 1) := by decide +kernel
theorem dX7_count_1 : decode cX7_count 1 = .ok (.tableswitch 75 0 4 #[35, 43, 51, 59, 67], 35) := by decide +kernel
theorem dX7_count_36 : decode cX7_count 36 = .ok (.aload_n 0, 1) := by decide +kernel
theorem dX7_count_37 : decode cX7_count 37 = .ok (.getfield 36, 3) := by decide +kernel
theorem dX7_count_40 : decode cX7_count 40 = .ok (.getfield 102, 3) := by decide +kernel
theorem dX7_count_43 : decode cX7_count 43 = .ok (.ireturn, 1) := by decide +kernel
theorem dX7_count_44 : decode cX7_count 44 = .ok (.aload_n 0, 1) := by decide +kernel
theorem dX7_count_45 : decode cX7_count 45 = .ok (.getfield 36, 3) := by decide +kernel
theorem dX7_count_48 : decode cX7_count 48 = .ok (.getfield 268, 3) := by decide +kernel
theorem dX7_count_51 : decode cX7_count 51 = .ok (.ireturn, 1) := by decide +kernel
theorem dX7_count_52 : decode cX7_count 52 = .ok (.aload_n 0, 1) := by decide +kernel
theorem dX7_count_53 : decode cX7_count 53 = .ok (.getfield 36, 3) := by decide +kernel
theorem dX7_count_56 : decode cX7_count 56 = .ok (.getfield 271, 3) := by decide +kernel
theorem dX7_count_59 : decode cX7_count 59 = .ok (.ireturn, 1) := by decide +kernel
theorem dX7_count_60 : decode cX7_count 60 = .ok (.aload_n 0, 1) := by decide +kernel
theorem dX7_count_61 : decode cX7_count 61 = .ok (.getfield 47, 3) := by decide +kernel
theorem dX7_count_64 : decode cX7_count 64 = .ok (.getfield 99, 3) := by decide +kernel
theorem dX7_count_67 : decode cX7_count 67 = .ok (.ireturn, 1) := by decide +kernel
theorem dX7_count_68 : decode cX7_count 68 = .ok (.aload_n 0, 1) := by decide +kernel
theorem dX7_count_69 : decode cX7_count 69 = .ok (.getfield 23, 3) := by decide +kernel
theorem dX7_count_72 : decode cX7_count 72 = .ok (.getfield 77, 3) := by decide +kernel
theorem dX7_count_75 : decode cX7_count 75 = .ok (.ireturn, 1) := by decide +kernel
theorem dX7_count_76 : decode cX7_count 76 = .ok (.ldc 72, 2) := by decide +kernel
theorem dX7_count_78 : decode cX7_count 78 = .ok (.ireturn, 1) := by decide +kernel
theorem dX8_count_0 : decode cX8_count 0 = .ok (.iload_n 1, 1) := by decide +kernel
theorem dX8_count_1 : decode cX8_count 1 = .ok (.tableswitch 69 0 4 #[35, 43, 51, 59, 64], 35) := by decide +kernel
theorem dX8_count_36 : decode cX8_count 36 = .ok (.aload_n 0, 1) := by decide +kernel
theorem dX8_count_37 : decode cX8_count 37 = .ok (.getfield 7, 3) := by decide +kernel
theorem dX8_count_40 : decode cX8_count 40 = .ok (.bipush 6, 2) := by decide +kernel
theorem dX8_count_42 : decode cX8_count 42 = .ok (.iaload, 1) := by decide +kernel
theorem dX8_count_43 : decode cX8_count 43 = .ok (.ireturn, 1) := by decide +kernel
theorem dX8_count_44 : decode cX8_count 44 = .ok (.aload_n 0, 1) := by decide +kernel
theorem dX8_count_45 : decode cX8_count 45 = .ok (.getfield 7, 3) := by decide +kernel
theorem dX8_count_48 : decode cX8_count 48 = .ok (.bipush 7, 2) := by decide +kernel
theorem dX8_count_50 : decode cX8_count 50 = .ok (.iaload, 1) := by decide +kernel
theorem dX8_count_51 : decode cX8_count 51 = .ok (.ireturn, 1) := by decide +kernel
theorem dX8_count_52 : decode cX8_count 52 = .ok (.aload_n 0, 1) := by decide +kernel
theorem dX8_count_53 : decode cX8_count 53 = .ok (.getfield 7, 3) := by decide +kernel
theorem dX8_count_56 : decode cX8_count 56 = .ok (.bipush 8, 2) := by decide +kernel
theorem dX8_count_58 : decode cX8_count 58 = .ok (.iaload, 1) := by decide +kernel
theorem dX8_count_59 : decode cX8_count 59 = .ok (.ireturn, 1) := by decide +kernel
theorem dX8_count_60 : decode cX8_count 60 = .ok (.aload_n 0, 1) := by decide +kernel
theorem dX8_count_61 : decode cX8_count 61 = .ok (.getfield 235, 3) := by decide +kernel
theorem dX8_count_64 : decode cX8_count 64 = .ok (.ireturn, 1) := by decide +kernel
theorem dX8_count_65 : decode cX8_count 65 = .ok (.aload_n 0, 1) := by decide +kernel
theorem dX8_count_66 : decode cX8_count 66 = .ok (.getfield 152, 3) := by decide +kernel
theorem dX8_count_69 : decode cX8_count 69 = .ok (.ireturn, 1) := by decide +kernel
theorem dX8_count_70 : decode cX8_count 70 = .ok (.ldc 209, 2) := by decide +kernel
theorem dX8_count_72 : decode cX8_count 72 = .ok (.ireturn, 1) := by decide +kernel
