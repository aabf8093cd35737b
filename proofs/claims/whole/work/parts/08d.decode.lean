theorem dX8_isHeld_21 : decode cX8_isHeld 21 = .ok (.goto 4, 3) := by decide +kernel
theorem dX8_isHeld_24 : decode cX8_isHeld 24 = .ok (.iconst 0, 1) := by decide +kernel
theorem dX8_isHeld_25 : decode cX8_isHeld 25 = .ok (.ireturn, 1) := by decide +kernel
theorem dX8_manyHeld_0 : decode cX8_manyHeld 0 = .ok (.iconst 0, 1) := by decide +kernel
theorem dX8_manyHeld_1 : decode cX8_manyHeld 1 = .ok (.istore_n 2, 1) := by decide +kernel
theorem dX8_manyHeld_2 : decode cX8_manyHeld 2 = .ok (.iconst 0, 1) := by decide +kernel
theorem dX8_manyHeld_3 : decode cX8_manyHeld 3 = .ok (.istore_n 3, 1) := by decide +kernel
theorem dX8_manyHeld_4 : decode cX8_manyHeld 4 = .ok (.iload_n 3, 1) := by decide +kernel
theorem dX8_manyHeld_5 : decode cX8_manyHeld 5 = .ok (.aload_n 0, 1) := by decide +kernel
theorem dX8_manyHeld_6 : decode cX8_manyHeld 6 = .ok (.getfield 7, 3) := by decide +kernel
theorem dX8_manyHeld_9 : decode cX8_manyHeld 9 = .ok (.bipush 6, 2) := by decide +kernel
theorem dX8_manyHeld_11 : decode cX8_manyHeld 11 = .ok (.iaload, 1) := by decide +kernel
theorem dX8_manyHeld_12 : decode cX8_manyHeld 12 = .ok (.if_icmp .ge 42, 3) := by decide +kernel
theorem dX8_manyHeld_15 : decode cX8_manyHeld 15 = .ok (.iload_n 2, 1) := by decide +kernel
theorem dX8_manyHeld_16 : decode cX8_manyHeld 16 = .ok (.iload_n 1, 1) := by decide +kernel
theorem dX8_manyHeld_17 : decode cX8_manyHeld 17 = .ok (.ifCond .eq 16, 3) := by decide +kernel
theorem dX8_manyHeld_20 : decode cX8_manyHeld 20 = .ok (.aload_n 0, 1) := by decide +kernel
theorem dX8_manyHeld_21 : decode cX8_manyHeld 21 = .ok (.getfield 35, 3) := by decide +kernel
theorem dX8_manyHeld_24 : decode cX8_manyHeld 24 = .ok (.iload_n 3, 1) := by decide +kernel
theorem dX8_manyHeld_25 : decode cX8_manyHeld 25 = .ok (.iaload, 1) := by decide +kernel
theorem dX8_manyHeld_26 : decode cX8_manyHeld 26 = .ok (.iconst 3, 1) := by decide +kernel
theorem dX8_manyHeld_27 : decode cX8_manyHeld 27 = .ok (.if_icmp .ne 18, 3) := by decide +kernel
theorem dX8_manyHeld_30 : decode cX8_manyHeld 30 = .ok (.goto 11, 3) := by decide +kernel
theorem dX8_manyHeld_33 : decode cX8_manyHeld 33 = .ok (.aload_n 0, 1) := by decide +kernel
theorem dX8_manyHeld_34 : decode cX8_manyHeld 34 = .ok (.iload_n 3, 1) := by decide +kernel
theorem dX8_manyHeld_35 : decode cX8_manyHeld 35 = .ok (.invokevirtual 119, 3) := by decide +kernel
theorem dX8_manyHeld_38 : decode cX8_manyHeld 38 = .ok (.ifCond .eq 7, 3) := by decide +kernel
theorem dX8_manyHeld_41 : decode cX8_manyHeld 41 = .ok (.iconst 1, 1) := by decide +kernel
theorem dX8_manyHeld_42 : decode cX8_manyHeld 42 = .ok (.goto 4, 3) := by decide +kernel
theorem dX8_manyHeld_45 : decode cX8_manyHeld 45 = .ok (.iconst 0, 1) := by decide +kernel
theorem dX8_manyHeld_46 : decode cX8_manyHeld 46 = .ok (.iadd, 1) := by decide +kernel
theorem dX8_manyHeld_47 : decode cX8_manyHeld 47 = .ok (.istore_n 2, 1) := by decide +kernel
theorem dX8_manyHeld_48 : decode cX8_manyHeld 48 = .ok (.iinc 3 1, 3) := by decide +kernel
theorem dX8_manyHeld_51 : decode cX8_manyHeld 51 = .ok (.goto (-47), 3) := by decide +kernel
theorem dX8_manyHeld_54 : decode cX8_manyHeld 54 = .ok (.iload_n 2, 1) := by decide +kernel
theorem dX8_manyHeld_55 : decode cX8_manyHeld 55 = .ok (.ireturn, 1) := by decide +kernel
theorem dX8_sundays_0 : decode cX8_sundays 0 = .ok (.iconst 0, 1) := by decide +kernel
theorem dX8_sundays_1 : decode cX8_sundays 1 = .ok (.istore_n 1, 1) := by decide +kernel
theorem dX8_sundays_2 : decode cX8_sundays 2 = .ok (.iconst 1, 1) := by decide +kernel
theorem dX8_sundays_3 : decode cX8_sundays 3 = .ok (.istore_n 2, 1) := by decide +kernel
theorem dX8_sundays_4 : decode cX8_sundays 4 = .ok (.iload_n 2, 1) := by decide +kernel
theorem dX8_sundays_5 : decode cX8_sundays 5 = .ok (.aload_n 0, 1) := by decide +kernel
theorem dX8_sundays_6 : decode cX8_sundays 6 = .ok (.getfield 71, 3) := by decide +kernel
theorem dX8_sundays_9 : decode cX8_sundays 9 = .ok (.if_icmp .gt 25, 3) := by decide +kernel
theorem dX8_sundays_12 : decode cX8_sundays 12 = .ok (.iload_n 1, 1) := by decide +kernel
theorem dX8_sundays_13 : decode cX8_sundays 13 = .ok (.aload_n 0, 1) := by decide +kernel
theorem dX8_sundays_14 : decode cX8_sundays 14 = .ok (.iload_n 2, 1) := by decide +kernel
theorem dX8_sundays_15 : decode cX8_sundays 15 = .ok (.invokevirtual 67, 3) := by decide +kernel
theorem dX8_sundays_18 : decode cX8_sundays 18 = .ok (.ifCond .ne 7, 3) := by decide +kernel
theorem dX8_sundays_21 : decode cX8_sundays 21 = .ok (.iconst 1, 1) := by decide +kernel
theorem dX8_sundays_22 : decode cX8_sundays 22 = .ok (.goto 4, 3) := by decide +kernel
theorem dX8_sundays_25 : decode cX8_sundays 25 = .ok (.iconst 0, 1) := by decide +kernel
theorem dX8_sundays_26 : decode cX8_sundays 26 = .ok (.iadd, 1) := by decide +kernel
theorem dX8_sundays_27 : decode cX8_sundays 27 = .ok (.istore_n 1, 1) := by decide +kernel
theorem dX8_sundays_28 : decode cX8_sundays 28 = .ok (.iinc 2 1, 3) := by decide +kernel
theorem dX8_sundays_31 : decode cX8_sundays 31 = .ok (.goto (-27), 3) := by decide +kernel
theorem dX8_sundays_34 : decode cX8_sundays 34 = .ok (.iload_n 1, 1) := by decide +kernel
theorem dX8_sundays_35 : decode cX8_sundays 35 = .ok (.ireturn, 1) := by decide +kernel
theorem dX8_year_0 : decode cX8_year 0 = .ok (.aload_n 0, 1) := by decide +kernel
theorem dX8_year_1 : decode cX8_year 1 = .ok (.invokevirtual 261, 3) := by decide +kernel
theorem dX8_year_4 : decode cX8_year 4 = .ok (.ifCond .ne 6, 3) := by decide +kernel
theorem dX8_year_7 : decode cX8_year 7 = .ok (.ldc 238, 2) := by decide +kernel
theorem dX8_year_9 : decode cX8_year 9 = .ok (.ireturn, 1) := by decide +kernel
theorem dX8_year_10 : decode cX8_year 10 = .ok (.iload_n 1, 1) := by decide +kernel
theorem dX8_year_11 : decode cX8_year 11 = .ok (.invokestatic 283, 3) := by decide +kernel
theorem dX8_year_14 : decode cX8_year 14 = .ok (.ifCond .eq 15, 3) := by decide +kernel
theorem dX8_year_17 : decode cX8_year 17 = .ok (.iload_n 2, 1) := by decide +kernel
theorem dX8_year_18 : decode cX8_year 18 = .ok (.i2l, 1) := by decide +kernel
theorem dX8_year_19 : decode cX8_year 19 = .ok (.lconst 0, 1) := by decide +kernel
theorem dX8_year_20 : decode cX8_year 20 = .ok (.ldc2_w 286, 3) := by decide +kernel
theorem dX8_year_23 : decode cX8_year 23 = .ok (.invokestatic 55, 3) := by decide +kernel
theorem dX8_year_26 : decode cX8_year 26 = .ok (.ifCond .ne 6, 3) := by decide +kernel
theorem dX8_year_29 : decode cX8_year 29 = .ok (.ldc 209, 2) := by decide +kernel
theorem dX8_year_31 : decode cX8_year 31 = .ok (.ireturn, 1) := by decide +kernel
theorem dX8_year_32 : decode cX8_year 32 = .ok (.aload_n 0, 1) := by decide +kernel
theorem dX8_year_33 : decode cX8_year 33 = .ok (.iload_n 1, 1) := by decide +kernel
theorem dX8_year_34 : decode cX8_year 34 = .ok (.ldc 90, 2) := by decide +kernel
theorem dX8_year_36 : decode cX8_year 36 = .ok (.invokevirtual 288, 3) := by decide +kernel
theorem dX8_year_39 : decode cX8_year 39 = .ok (.iload_n 2, 1) := by decide +kernel
theorem dX8_year_40 : decode cX8_year 40 = .ok (.tableswitch 83 0 6 #[44, 49, 54, 60, 66, 71, 77], 44) := by decide +kernel
theorem dX8_year_84 : decode cX8_year 84 = .ok (.aload_n 0, 1) := by decide +kernel
theorem dX8_year_85 : decode cX8_year 85 = .ok (.getfield 71, 3) := by decide +kernel
theorem dX8_year_88 : decode cX8_year 88 = .ok (.ireturn, 1) := by decide +kernel
theorem dX8_year_89 : decode cX8_year 89 = .ok (.aload_n 0, 1) := by decide +kernel
theorem dX8_year_90 : decode cX8_year 90 = .ok (.getfield 63, 3) := by decide +kernel
theorem dX8_year_93 : decode cX8_year 93 = .ok (.ireturn, 1) := by decide +kernel
theorem dX8_year_94 : decode cX8_year 94 = .ok (.aload_n 0, 1) := by decide +kernel
theorem dX8_year_95 : decode cX8_year 95 = .ok (.iload_n 1, 1) := by decide +kernel
theorem dX8_year_96 : decode cX8_year 96 = .ok (.invokevirtual 78, 3) := by decide +kernel
theorem dX8_year_99 : decode cX8_year 99 = .ok (.ireturn, 1) := by decide +kernel
theorem dX8_year_100 : decode cX8_year 100 = .ok (.aload_n 0, 1) := by decide +kernel
theorem dX8_year_101 : decode cX8_year 101 = .ok (.iload_n 1, 1) := by decide +kernel
theorem dX8_year_102 : decode cX8_year 102 = .ok (.invokevirtual 87, 3) := by decide +kernel
theorem dX8_year_105 : decode cX8_year 105 = .ok (.ireturn, 1) := by decide +kernel
theorem dX8_year_106 : decode cX8_year 106 = .ok (.aload_n 0, 1) := by decide +kernel
theorem dX8_year_107 : decode cX8_year 107 = .ok (.invokevirtual 291, 3) := by decide +kernel
theorem dX8_year_110 : decode cX8_year 110 = .ok (.ireturn, 1) := by decide +kernel
theorem dX8_year_111 : decode cX8_year 111 = .ok (.aload_n 0, 1) := by decide +kernel
theorem dX8_year_112 : decode cX8_year 112 = .ok (.iconst 0, 1) := by decide +kernel
theorem dX8_year_113 : decode cX8_year 113 = .ok (.invokevirtual 294, 3) := by decide +kernel
theorem dX8_year_116 : decode cX8_year 116 = .ok (.ireturn, 1) := by decide +kernel
theorem dX8_year_117 : decode cX8_year 117 = .ok (.aload_n 0, 1) := by decide +kernel
theorem dX8_year_118 : decode cX8_year 118 = .ok (.iconst 1, 1) := by decide +kernel
theorem dX8_year_119 : decode cX8_year 119 = .ok (.invokevirtual 294, 3) := by decide +kernel
theorem dX8_year_122 : decode cX8_year 122 = .ok (.ireturn, 1) := by decide +kernel
theorem dX8_year_123 : decode cX8_year 123 = .ok (.aload_n 0, 1) := by decide +kernel
theorem dX8_year_124 : decode cX8_year 124 = .ok (.aload_n 0, 1) := by decide +kernel
theorem dX8_year_125 : decode cX8_year 125 = .ok (.getfield 7, 3) := by decide +kernel
theorem dX8_year_128 : decode cX8_year 128 = .ok (.iconst 5, 1) := by decide +kernel
theorem dX8_year_129 : decode cX8_year 129 = .ok (.iaload, 1) := by decide +kernel
theorem dX8_year_130 : decode cX8_year 130 = .ok (.aload_n 0, 1) := by decide +kernel
theorem dX8_year_131 : decode cX8_year 131 = .ok (.getfield 71, 3) := by decide +kernel
theorem dX8_year_134 : decode cX8_year 134 = .ok (.invokevirtual 148, 3) := by decide +kernel
theorem dX8_year_137 : decode cX8_year 137 = .ok (.iload_n 2, 1) := by decide +kernel
theorem dX8_year_138 : decode cX8_year 138 = .ok (.bipush 7, 2) := by decide +kernel
theorem dX8_year_140 : decode cX8_year 140 = .ok (.if_icmp .ne 10, 3) := by decide +kernel
theorem dX8_year_143 : decode cX8_year 143 = .ok (.aload_n 0, 1) := by decide +kernel
theorem dX8_year_144 : decode cX8_year 144 = .ok (.getfield 135, 3) := by decide +kernel
theorem dX8_year_147 : decode cX8_year 147 = .ok (.goto 7, 3) := by decide +kernel
theorem dX8_year_150 : decode cX8_year 150 = .ok (.aload_n 0, 1) := by decide +kernel
theorem dX8_year_151 : decode cX8_year 151 = .ok (.getfield 138, 3) := by decide +kernel
theorem dX8_year_154 : decode cX8_year 154 = .ok (.ireturn, 1) := by decide +kernel
theorem dX7_isDay_0 : decode cX7_isDay 0 = .ok (.iload_n 1, 1) := by decide +kernel
theorem dX7_isDay_1 : decode cX7_isDay 1 = .ok (.invokestatic 153, 3) := by decide +kernel
theorem dX7_isDay_4 : decode cX7_isDay 4 = .ok (.ifCond .eq 28, 3) := by decide +kernel
theorem dX7_isDay_7 : decode cX7_isDay 7 = .ok (.iload_n 2, 1) := by decide +kernel
theorem dX7_isDay_8 : decode cX7_isDay 8 = .ok (.iconst 1, 1) := by decide +kernel
theorem dX7_isDay_9 : decode cX7_isDay 9 = .ok (.aload_n 0, 1) := by decide +kernel
theorem dX7_isDay_10 : decode cX7_isDay 10 = .ok (.getfield 36, 3) := by decide +kernel
theorem dX7_isDay_13 : decode cX7_isDay 13 = .ok (.getfield 141, 3) := by decide +kernel
theorem dX7_isDay_16 : decode cX7_isDay 16 = .ok (.iconst 0, 1) := by decide +kernel
theorem dX7_isDay_17 : decode cX7_isDay 17 = .ok (.iaload, 1) := by decide +kernel
theorem dX7_isDay_18 : decode cX7_isDay 18 = .ok (.iload_n 1, 1) := by decide +kernel
theorem dX7_isDay_19 : decode cX7_isDay 19 = .ok (.invokestatic 274, 3) := by decide +kernel
theorem dX7_isDay_22 : decode cX7_isDay 22 = .ok (.invokestatic 68, 3) := by decide +kernel
theorem dX7_isDay_25 : decode cX7_isDay 25 = .ok (.ifCond .eq 7, 3) := by decide +kernel
theorem dX7_isDay_28 : decode cX7_isDay 28 = .ok (.iconst 1, 1) := by decide +kernel
theorem dX7_isDay_29 : decode cX7_isDay 29 = .ok (.goto 4, 3) := by decide +kernel
theorem dX7_isDay_32 : decode cX7_isDay 32 = .ok (.iconst 0, 1) := by decide +kernel
theorem dX7_isDay_33 : decode cX7_isDay 33 = .ok (.ireturn, 1) := by decide +kernel
theorem dX3_rememberedOn_0 : decode cX3_rememberedOn 0 = .ok (.iconst 0, 1) := by decide +kernel
theorem dX3_rememberedOn_1 : decode cX3_rememberedOn 1 = .ok (.istore_n 2, 1) := by decide +kernel
theorem dX3_rememberedOn_2 : decode cX3_rememberedOn 2 = .ok (.iconst 0, 1) := by decide +kernel
theorem dX3_rememberedOn_3 : decode cX3_rememberedOn 3 = .ok (.istore_n 3, 1) := by decide +kernel
theorem dX3_rememberedOn_4 : decode cX3_rememberedOn 4 = .ok (.iload_n 3, 1) := by decide +kernel
theorem dX3_rememberedOn_5 : decode cX3_rememberedOn 5 = .ok (.aload_n 0, 1) := by decide +kernel
theorem dX3_rememberedOn_6 : decode cX3_rememberedOn 6 = .ok (.getfield 9, 3) := by decide +kernel
theorem dX3_rememberedOn_9 : decode cX3_rememberedOn 9 = .ok (.getfield 44, 3) := by decide +kernel
theorem dX3_rememberedOn_12 : decode cX3_rememberedOn 12 = .ok (.if_icmp .ge 37, 3) := by decide +kernel
theorem dX3_rememberedOn_15 : decode cX3_rememberedOn 15 = .ok (.iload_n 2, 1) := by decide +kernel
theorem dX3_rememberedOn_16 : decode cX3_rememberedOn 16 = .ok (.aload_n 0, 1) := by decide +kernel
theorem dX3_rememberedOn_17 : decode cX3_rememberedOn 17 = .ok (.getfield 23, 3) := by decide +kernel
theorem dX3_rememberedOn_20 : decode cX3_rememberedOn 20 = .ok (.iload_n 3, 1) := by decide +kernel
theorem dX3_rememberedOn_21 : decode cX3_rememberedOn 21 = .ok (.iaload, 1) := by decide +kernel
theorem dX3_rememberedOn_22 : decode cX3_rememberedOn 22 = .ok (.iconst 3, 1) := by decide +kernel
theorem dX3_rememberedOn_23 : decode cX3_rememberedOn 23 = .ok (.if_icmp .ne 17, 3) := by decide +kernel
theorem dX3_rememberedOn_26 : decode cX3_rememberedOn 26 = .ok (.aload_n 0, 1) := by decide +kernel
theorem dX3_rememberedOn_27 : decode cX3_rememberedOn 27 = .ok (.getfield 26, 3) := by decide +kernel
theorem dX3_rememberedOn_30 : decode cX3_rememberedOn 30 = .ok (.iload_n 3, 1) := by decide +kernel
theorem dX3_rememberedOn_31 : decode cX3_rememberedOn 31 = .ok (.iaload, 1) := by decide +kernel
theorem dX3_rememberedOn_32 : decode cX3_rememberedOn 32 = .ok (.iload_n 1, 1) := by decide +kernel
theorem dX3_rememberedOn_33 : decode cX3_rememberedOn 33 = .ok (.if_icmp .ne 7, 3) := by decide +kernel
theorem dX3_rememberedOn_36 : decode cX3_rememberedOn 36 = .ok (.iconst 1, 1) := by decide +kernel
theorem dX3_rememberedOn_37 : decode cX3_rememberedOn 37 = .ok (.goto 4, 3) := by decide +kernel
theorem dX3_rememberedOn_40 : decode cX3_rememberedOn 40 = .ok (.iconst 0, 1) := by decide +kernel
theorem dX3_rememberedOn_41 : decode cX3_rememberedOn 41 = .ok (.iadd, 1) := by decide +kernel
theorem dX3_rememberedOn_42 : decode cX3_rememberedOn 42 = .ok (.istore_n 2, 1) := by decide +kernel
theorem dX3_rememberedOn_43 : decode cX3_rememberedOn 43 = .ok (.iinc 3 1, 3) := by decide +kernel
theorem dX3_rememberedOn_46 : decode cX3_rememberedOn 46 = .ok (.goto (-42), 3) := by decide +kernel
theorem dX3_rememberedOn_49 : decode cX3_rememberedOn 49 = .ok (.iload_n 2, 1) := by decide +kernel
theorem dX3_rememberedOn_50 : decode cX3_rememberedOn 50 = .ok (.ireturn, 1) := by decide +kernel
theorem dX3_isHeld_0 : decode cX3_isHeld 0 = .ok (.aload_n 0, 1) := by decide +kernel
theorem dX3_isHeld_1 : decode cX3_isHeld 1 = .ok (.getfield 9, 3) := by decide +kernel
theorem dX3_isHeld_4 : decode cX3_isHeld 4 = .ok (.iload_n 1, 1) := by decide +kernel
theorem dX3_isHeld_5 : decode cX3_isHeld 5 = .ok (.invokevirtual 116, 3) := by decide +kernel
theorem dX3_isHeld_8 : decode cX3_isHeld 8 = .ok (.ifCond .eq 27, 3) := by decide +kernel
theorem dX3_isHeld_11 : decode cX3_isHeld 11 = .ok (.aload_n 0, 1) := by decide +kernel
theorem dX3_isHeld_12 : decode cX3_isHeld 12 = .ok (.getfield 23, 3) := by decide +kernel
theorem dX3_isHeld_15 : decode cX3_isHeld 15 = .ok (.iload_n 1, 1) := by decide +kernel
theorem dX3_isHeld_16 : decode cX3_isHeld 16 = .ok (.iaload, 1) := by decide +kernel
theorem dX3_isHeld_17 : decode cX3_isHeld 17 = .ok (.iconst 1, 1) := by decide +kernel
theorem dX3_isHeld_18 : decode cX3_isHeld 18 = .ok (.if_icmp .eq 13, 3) := by decide +kernel
theorem dX3_isHeld_21 : decode cX3_isHeld 21 = .ok (.aload_n 0, 1) := by decide +kernel
theorem dX3_isHeld_22 : decode cX3_isHeld 22 = .ok (.getfield 23, 3) := by decide +kernel
theorem dX3_isHeld_25 : decode cX3_isHeld 25 = .ok (.iload_n 1, 1) := by decide +kernel
theorem dX3_isHeld_26 : decode cX3_isHeld 26 = .ok (.iaload, 1) := by decide +kernel
theorem dX3_isHeld_27 : decode cX3_isHeld 27 = .ok (.iconst 2, 1) := by decide +kernel
theorem dX3_isHeld_28 : decode cX3_isHeld 28 = .ok (.if_icmp .ne 7, 3) := by decide +kernel
theorem dX3_isHeld_31 : decode cX3_isHeld 31 = .ok (.iconst 1, 1) := by decide +kernel
theorem dX3_isHeld_32 : decode cX3_isHeld 32 = .ok (.goto 4, 3) := by decide +kernel
theorem dX3_isHeld_35 : decode cX3_isHeld 35 = .ok (.iconst 0, 1) := by decide +kernel
theorem dX3_isHeld_36 : decode cX3_isHeld 36 = .ok (.ireturn, 1) := by decide +kernel
theorem dX3_liesIn_0 : decode cX3_liesIn 0 = .ok (.aload_n 0, 1) := by decide +kernel
theorem dX3_liesIn_1 : decode cX3_liesIn 1 = .ok (.iload_n 2, 1) := by decide +kernel
theorem dX3_liesIn_2 : decode cX3_liesIn 2 = .ok (.invokevirtual 113, 3) := by decide +kernel
theorem dX3_liesIn_5 : decode cX3_liesIn 5 = .ok (.ifCond .eq 35, 3) := by decide +kernel
theorem dX3_liesIn_8 : decode cX3_liesIn 8 = .ok (.aload_n 0, 1) := by decide +kernel
theorem dX3_liesIn_9 : decode cX3_liesIn 9 = .ok (.iload_n 3, 1) := by decide +kernel
theorem dX3_liesIn_10 : decode cX3_liesIn 10 = .ok (.invokevirtual 113, 3) := by decide +kernel
theorem dX3_liesIn_13 : decode cX3_liesIn 13 = .ok (.ifCond .eq 27, 3) := by decide +kernel
theorem dX3_liesIn_16 : decode cX3_liesIn 16 = .ok (.aload_n 0, 1) := by decide +kernel
theorem dX3_liesIn_17 : decode cX3_liesIn 17 = .ok (.getfield 26, 3) := by decide +kernel
theorem dX3_liesIn_20 : decode cX3_liesIn 20 = .ok (.iload_n 2, 1) := by decide +kernel
theorem dX3_liesIn_21 : decode cX3_liesIn 21 = .ok (.iaload, 1) := by decide +kernel
theorem dX3_liesIn_22 : decode cX3_liesIn 22 = .ok (.iload_n 1, 1) := by decide +kernel
theorem dX3_liesIn_23 : decode cX3_liesIn 23 = .ok (.if_icmp .gt 17, 3) := by decide +kernel
theorem dX3_liesIn_26 : decode cX3_liesIn 26 = .ok (.iload_n 1, 1) := by decide +kernel
theorem dX3_liesIn_27 : decode cX3_liesIn 27 = .ok (.aload_n 0, 1) := by decide +kernel
theorem dX3_liesIn_28 : decode cX3_liesIn 28 = .ok (.getfield 26, 3) := by decide +kernel
theorem dX3_liesIn_31 : decode cX3_liesIn 31 = .ok (.iload_n 3, 1) := by decide +kernel
theorem dX3_liesIn_32 : decode cX3_liesIn 32 = .ok (.iaload, 1) := by decide +kernel
theorem dX3_liesIn_33 : decode cX3_liesIn 33 = .ok (.if_icmp .ge 7, 3) := by decide +kernel
theorem dX3_liesIn_36 : decode cX3_liesIn 36 = .ok (.iconst 1, 1) := by decide +kernel
theorem dX3_liesIn_37 : decode cX3_liesIn 37 = .ok (.goto 4, 3) := by decide +kernel
theorem dX3_liesIn_40 : decode cX3_liesIn 40 = .ok (.iconst 0, 1) := by decide +kernel
theorem dX3_liesIn_41 : decode cX3_liesIn 41 = .ok (.ireturn, 1) := by decide +kernel
theorem dX3_colourOf_0 : decode cX3_colourOf 0 = .ok (.aload_n 0, 1) := by decide +kernel
theorem dX3_colourOf_1 : decode cX3_colourOf 1 = .ok (.iload_n 1, 1) := by decide +kernel
theorem dX3_colourOf_2 : decode cX3_colourOf 2 = .ok (.invokevirtual 95, 3) := by decide +kernel
theorem dX3_colourOf_5 : decode cX3_colourOf 5 = .ok (.istore_n 2, 1) := by decide +kernel
theorem dX3_colourOf_6 : decode cX3_colourOf 6 = .ok (.iload_n 2, 1) := by decide +kernel
theorem dX3_colourOf_7 : decode cX3_colourOf 7 = .ok (.iconst (-1), 1) := by decide +kernel
theorem dX3_colourOf_8 : decode cX3_colourOf 8 = .ok (.if_icmp .eq 13, 3) := by decide +kernel
theorem dX3_colourOf_11 : decode cX3_colourOf 11 = .ok (.aload_n 0, 1) := by decide +kernel
theorem dX3_colourOf_12 : decode cX3_colourOf 12 = .ok (.getfield 9, 3) := by decide +kernel
theorem dX3_colourOf_15 : decode cX3_colourOf 15 = .ok (.iload_n 2, 1) := by decide +kernel
theorem dX3_colourOf_16 : decode cX3_colourOf 16 = .ok (.iconst 3, 1) := by decide +kernel
theorem dX3_colourOf_17 : decode cX3_colourOf 17 = .ok (.invokevirtual 59, 3) := by decide +kernel
theorem dX3_colourOf_20 : decode cX3_colourOf 20 = .ok (.ireturn, 1) := by decide +kernel
theorem dX3_colourOf_21 : decode cX3_colourOf 21 = .ok (.iconst 0, 1) := by decide +kernel
theorem dX3_colourOf_22 : decode cX3_colourOf 22 = .ok (.istore_n 3, 1) := by decide +kernel
theorem dX3_colourOf_23 : decode cX3_colourOf 23 = .ok (.iload_n 3, 1) := by decide +kernel
theorem dX3_colourOf_24 : decode cX3_colourOf 24 = .ok (.aload_n 0, 1) := by decide +kernel
theorem dX3_colourOf_25 : decode cX3_colourOf 25 = .ok (.getfield 9, 3) := by decide +kernel
theorem dX3_colourOf_28 : decode cX3_colourOf 28 = .ok (.getfield 98, 3) := by decide +kernel
theorem dX3_colourOf_31 : decode cX3_colourOf 31 = .ok (.if_icmp .ge 45, 3) := by decide +kernel
theorem dX3_colourOf_34 : decode cX3_colourOf 34 = .ok (.aload_n 0, 1) := by decide +kernel
theorem dX3_colourOf_35 : decode cX3_colourOf 35 = .ok (.iload_n 1, 1) := by decide +kernel
theorem dX3_colourOf_36 : decode cX3_colourOf 36 = .ok (.aload_n 0, 1) := by decide +kernel
theorem dX3_colourOf_37 : decode cX3_colourOf 37 = .ok (.getfield 9, 3) := by decide +kernel
theorem dX3_colourOf_40 : decode cX3_colourOf 40 = .ok (.getfield 101, 3) := by decide +kernel
theorem dX3_colourOf_43 : decode cX3_colourOf 43 = .ok (.iload_n 3, 1) := by decide +kernel
theorem dX3_colourOf_44 : decode cX3_colourOf 44 = .ok (.iaload, 1) := by decide +kernel
theorem dX3_colourOf_45 : decode cX3_colourOf 45 = .ok (.aload_n 0, 1) := by decide +kernel
theorem dX3_colourOf_46 : decode cX3_colourOf 46 = .ok (.getfield 9, 3) := by decide +kernel
theorem dX3_colourOf_49 : decode cX3_colourOf 49 = .ok (.getfield 104, 3) := by decide +kernel
theorem dX3_colourOf_52 : decode cX3_colourOf 52 = .ok (.iload_n 3, 1) := by decide +kernel
theorem dX3_colourOf_53 : decode cX3_colourOf 53 = .ok (.iaload, 1) := by decide +kernel
theorem dX3_colourOf_54 : decode cX3_colourOf 54 = .ok (.invokevirtual 107, 3) := by decide +kernel
theorem dX3_colourOf_57 : decode cX3_colourOf 57 = .ok (.ifCond .eq 13, 3) := by decide +kernel
theorem dX3_colourOf_60 : decode cX3_colourOf 60 = .ok (.aload_n 0, 1) := by decide +kernel
theorem dX3_colourOf_61 : decode cX3_colourOf 61 = .ok (.getfield 9, 3) := by decide +kernel
theorem dX3_colourOf_64 : decode cX3_colourOf 64 = .ok (.getfield 110, 3) := by decide +kernel
theorem dX3_colourOf_67 : decode cX3_colourOf 67 = .ok (.iload_n 3, 1) := by decide +kernel
theorem dX3_colourOf_68 : decode cX3_colourOf 68 = .ok (.iaload, 1) := by decide +kernel
theorem dX3_colourOf_69 : decode cX3_colourOf 69 = .ok (.ireturn, 1) := by decide +kernel
theorem dX3_colourOf_70 : decode cX3_colourOf 70 = .ok (.iinc 3 1, 3) := by decide +kernel
theorem dX3_colourOf_73 : decode cX3_colourOf 73 = .ok (.goto (-50), 3) := by decide +kernel
theorem dX3_colourOf_76 : decode cX3_colourOf 76 = .ok (.iconst 0, 1) := by decide +kernel
theorem dX3_colourOf_77 : decode cX3_colourOf 77 = .ok (.ireturn, 1) := by decide +kernel
theorem dX7_day_0 : decode cX7_day 0 = .ok (.aload_n 0, 1) := by decide +kernel
theorem dX7_day_1 : decode cX7_day 1 = .ok (.getfield 36, 3) := by decide +kernel
theorem dX7_day_4 : decode cX7_day 4 = .ok (.getfield 128, 3) := by decide +kernel
theorem dX7_day_7 : decode cX7_day 7 = .ok (.ifCond .ne 6, 3) := by decide +kernel
theorem dX7_day_10 : decode cX7_day 10 = .ok (.ldc 105, 2) := by decide +kernel
theorem dX7_day_12 : decode cX7_day 12 = .ok (.ireturn, 1) := by decide +kernel
theorem dX7_day_13 : decode cX7_day 13 = .ok (.aload_n 0, 1) := by decide +kernel
theorem dX7_day_14 : decode cX7_day 14 = .ok (.iload_n 1, 1) := by decide +kernel
theorem dX7_day_15 : decode cX7_day 15 = .ok (.iload_n 2, 1) := by decide +kernel
theorem dX7_day_16 : decode cX7_day 16 = .ok (.invokevirtual 193, 3) := by decide +kernel
theorem dX7_day_19 : decode cX7_day 19 = .ok (.ifCond .eq 12, 3) := by decide +kernel
theorem dX7_day_22 : decode cX7_day 22 = .ok (.iload_n 3, 1) := by decide +kernel
theorem dX7_day_23 : decode cX7_day 23 = .ok (.iconst 0, 1) := by decide +kernel
theorem dX7_day_24 : decode cX7_day 24 = .ok (.iconst 5, 1) := by decide +kernel
theorem dX7_day_25 : decode cX7_day 25 = .ok (.invokestatic 68, 3) := by decide +kernel
theorem dX7_day_28 : decode cX7_day 28 = .ok (.ifCond .ne 6, 3) := by decide +kernel
theorem dX7_day_31 : decode cX7_day 31 = .ok (.ldc 72, 2) := by decide +kernel
theorem dX7_day_33 : decode cX7_day 33 = .ok (.ireturn, 1) := by decide +kernel
theorem dX7_day_34 : decode cX7_day 34 = .ok (.aload_n 0, 1) := by decide +kernel
theorem dX7_day_35 : decode cX7_day 35 = .ok (.getfield 51, 3) := by decide +kernel
theorem dX7_day_38 : decode cX7_day 38 = .ok (.iload_n 1, 1) := by decide +kernel
theorem dX7_day_39 : decode cX7_day 39 = .ok (.iconst (-1), 1) := by decide +kernel
theorem dX7_day_40 : decode cX7_day 40 = .ok (.invokevirtual 156, 3) := by decide +kernel
theorem dX7_day_43 : decode cX7_day 43 = .ok (.iload_n 3, 1) := by decide +kernel
theorem dX7_day_44 : decode cX7_day 44 = .ok (.tableswitch 101 0 4 #[36, 48, 74, 83, 92], 36) := by decide +kernel
theorem dX7_day_80 : decode cX7_day 80 = .ok (.aload_n 0, 1) := by decide +kernel
theorem dX7_day_81 : decode cX7_day 81 = .ok (.getfield 51, 3) := by decide +kernel
theorem dX7_day_84 : decode cX7_day 84 = .ok (.getfield 160, 3) := by decide +kernel
theorem dX7_day_87 : decode cX7_day 87 = .ok (.iload_n 2, 1) := by decide +kernel
theorem dX7_day_88 : decode cX7_day 88 = .ok (.invokevirtual 197, 3) := by decide +kernel
theorem dX7_day_91 : decode cX7_day 91 = .ok (.ireturn, 1) := by decide +kernel
theorem dX7_day_92 : decode cX7_day 92 = .ok (.aload_n 0, 1) := by decide +kernel
theorem dX7_day_93 : decode cX7_day 93 = .ok (.getfield 51, 3) := by decide +kernel
theorem dX7_day_96 : decode cX7_day 96 = .ok (.iload_n 2, 1) := by decide +kernel
theorem dX7_day_97 : decode cX7_day 97 = .ok (.invokevirtual 200, 3) := by decide +kernel
theorem dX7_day_100 : decode cX7_day 100 = .ok (.iconst (-1), 1) := by decide +kernel
theorem dX7_day_101 : decode cX7_day 101 = .ok (.if_icmp .ne 8, 3) := by decide +kernel
theorem dX7_day_104 : decode cX7_day 104 = .ok (.ldc 203, 2) := by decide +kernel
theorem dX7_day_106 : decode cX7_day 106 = .ok (.goto 11, 3) := by decide +kernel
theorem dX7_day_109 : decode cX7_day 109 = .ok (.aload_n 0, 1) := by decide +kernel
theorem dX7_day_110 : decode cX7_day 110 = .ok (.getfield 51, 3) := by decide +kernel
theorem dX7_day_113 : decode cX7_day 113 = .ok (.iload_n 2, 1) := by decide +kernel
theorem dX7_day_114 : decode cX7_day 114 = .ok (.invokevirtual 200, 3) := by decide +kernel
theorem dX7_day_117 : decode cX7_day 117 = .ok (.ireturn, 1) := by decide +kernel
theorem dX7_day_118 : decode cX7_day 118 = .ok (.aload_n 0, 1) := by decide +kernel
theorem dX7_day_119 : decode cX7_day 119 = .ok (.getfield 51, 3) := by decide +kernel
theorem dX7_day_122 : decode cX7_day 122 = .ok (.iload_n 2, 1) := by decide +kernel
theorem dX7_day_123 : decode cX7_day 123 = .ok (.invokevirtual 204, 3) := by decide +kernel
theorem dX7_day_126 : decode cX7_day 126 = .ok (.ireturn, 1) := by decide +kernel
theorem dX7_day_127 : decode cX7_day 127 = .ok (.aload_n 0, 1) := by decide +kernel
theorem dX7_day_128 : decode cX7_day 128 = .ok (.getfield 51, 3) := by decide +kernel
theorem dX7_day_131 : decode cX7_day 131 = .ok (.iload_n 2, 1) := by decide +kernel
theorem dX7_day_132 : decode cX7_day 132 = .ok (.invokevirtual 207, 3) := by decide +kernel
theorem dX7_day_135 : decode cX7_day 135 = .ok (.ireturn, 1) := by decide +kernel
theorem dX7_day_136 : decode cX7_day 136 = .ok (.aload_n 0, 1) := by decide +kernel
theorem dX7_day_137 : decode cX7_day 137 = .ok (.getfield 51, 3) := by decide +kernel
theorem dX7_day_140 : decode cX7_day 140 = .ok (.iload_n 2, 1) := by decide +kernel
theorem dX7_day_141 : decode cX7_day 141 = .ok (.invokevirtual 210, 3) := by decide +kernel
theorem dX7_day_144 : decode cX7_day 144 = .ok (.ireturn, 1) := by decide +kernel
theorem dX7_day_145 : decode cX7_day 145 = .ok (.aload_n 0, 1) := by decide +kernel
theorem dX7_day_146 : decode cX7_day 146 = .ok (.getfield 51, 3) := by decide +kernel
theorem dX7_day_149 : decode cX7_day 149 = .ok (.iload_n 2, 1) := by decide +kernel
theorem dX7_day_150 : decode cX7_day 150 = .ok (.invokevirtual 213, 3) := by decide +kernel
theorem dX7_day_153 : decode cX7_day 153 = .ok (.ireturn, 1) := by decide +kernel
theorem dX8_hasDay_0 : decode cX8_hasDay 0 = .ok (.iload_n 1, 1) := by decide +kernel
theorem dX8_hasDay_1 : decode cX8_hasDay 1 = .ok (.invokestatic 283, 3) := by decide +kernel
theorem dX8_hasDay_4 : decode cX8_hasDay 4 = .ok (.ifCond .ne 5, 3) := by decide +kernel
theorem dX8_hasDay_7 : decode cX8_hasDay 7 = .ok (.iconst 0, 1) := by decide +kernel
theorem dX8_hasDay_8 : decode cX8_hasDay 8 = .ok (.ireturn, 1) := by decide +kernel
theorem dX8_hasDay_9 : decode cX8_hasDay 9 = .ok (.aload_n 0, 1) := by decide +kernel
theorem dX8_hasDay_10 : decode cX8_hasDay 10 = .ok (.iload_n 1, 1) := by decide +kernel
theorem dX8_hasDay_11 : decode cX8_hasDay 11 = .ok (.ldc 90, 2) := by decide +kernel
theorem dX8_hasDay_13 : decode cX8_hasDay 13 = .ok (.invokevirtual 288, 3) := by decide +kernel
theorem dX8_hasDay_16 : decode cX8_hasDay 16 = .ok (.iload_n 2, 1) := by decide +kernel
theorem dX8_hasDay_17 : decode cX8_hasDay 17 = .ok (.i2l, 1) := by decide +kernel
theorem dX8_hasDay_18 : decode cX8_hasDay 18 = .ok (.iload_n 3, 1) := by decide +kernel
theorem dX8_hasDay_19 : decode cX8_hasDay 19 = .ok (.i2l, 1) := by decide +kernel
theorem dX8_hasDay_20 : decode cX8_hasDay 20 = .ok (.aload_n 0, 1) := by decide +kernel
theorem dX8_hasDay_21 : decode cX8_hasDay 21 = .ok (.getfield 71, 3) := by decide +kernel
theorem dX8_hasDay_24 : decode cX8_hasDay 24 = .ok (.i2l, 1) := by decide +kernel
theorem dX8_hasDay_25 : decode cX8_hasDay 25 = .ok (.invokestatic 55, 3) := by decide +kernel
theorem dX8_hasDay_28 : decode cX8_hasDay 28 = .ok (.ireturn, 1) := by decide +kernel
theorem dX8_rememberedOn_0 : decode cX8_rememberedOn 0 = .ok (.iconst 0, 1) := by decide +kernel
theorem dX8_rememberedOn_1 : decode cX8_rememberedOn 1 = .ok (.istore_n 2, 1) := by decide +kernel
theorem dX8_rememberedOn_2 : decode cX8_rememberedOn 2 = .ok (.iconst 0, 1) := by decide +kernel
theorem dX8_rememberedOn_3 : decode cX8_rememberedOn 3 = .ok (.istore_n 3, 1) := by decide +kernel
theorem dX8_rememberedOn_4 : decode cX8_rememberedOn 4 = .ok (.iload_n 3, 1) := by decide +kernel
theorem dX8_rememberedOn_5 : decode cX8_rememberedOn 5 = .ok (.aload_n 0, 1) := by decide +kernel
theorem dX8_rememberedOn_6 : decode cX8_rememberedOn 6 = .ok (.getfield 7, 3) := by decide +kernel
theorem dX8_rememberedOn_9 : decode cX8_rememberedOn 9 = .ok (.bipush 6, 2) := by decide +kernel
theorem dX8_rememberedOn_11 : decode cX8_rememberedOn 11 = .ok (.iaload, 1) := by decide +kernel
theorem dX8_rememberedOn_12 : decode cX8_rememberedOn 12 = .ok (.if_icmp .ge 37, 3) := by decide +kernel
theorem dX8_rememberedOn_15 : decode cX8_rememberedOn 15 = .ok (.iload_n 2, 1) := by decide +kernel
theorem dX8_rememberedOn_16 : decode cX8_rememberedOn 16 = .ok (.aload_n 0, 1) := by decide +kernel
theorem dX8_rememberedOn_17 : decode cX8_rememberedOn 17 = .ok (.getfield 35, 3) := by decide +kernel
theorem dX8_rememberedOn_20 : decode cX8_rememberedOn 20 = .ok (.iload_n 3, 1) := by decide +kernel
theorem dX8_rememberedOn_21 : decode cX8_rememberedOn 21 = .ok (.iaload, 1) := by decide +kernel
theorem dX8_rememberedOn_22 : decode cX8_rememberedOn 22 = .ok (.iconst 3, 1) := by decide +kernel
theorem dX8_rememberedOn_23 : decode cX8_rememberedOn 23 = .ok (.if_icmp .ne 17, 3) := by decide +kernel
theorem dX8_rememberedOn_26 : decode cX8_rememberedOn 26 = .ok (.aload_n 0, 1) := by decide +kernel
theorem dX8_rememberedOn_27 : decode cX8_rememberedOn 27 = .ok (.getfield 38, 3) := by decide +kernel
theorem dX8_rememberedOn_30 : decode cX8_rememberedOn 30 = .ok (.iload_n 3, 1) := by decide +kernel
theorem dX8_rememberedOn_31 : decode cX8_rememberedOn 31 = .ok (.iaload, 1) := by decide +kernel
theorem dX8_rememberedOn_32 : decode cX8_rememberedOn 32 = .ok (.iload_n 1, 1) := by decide +kernel
theorem dX8_rememberedOn_33 : decode cX8_rememberedOn 33 = .ok (.if_icmp .ne 7, 3) := by decide +kernel
theorem dX8_rememberedOn_36 : decode cX8_rememberedOn 36 = .ok (.iconst 1, 1) := by decide +kernel
theorem dX8_rememberedOn_37 : decode cX8_rememberedOn 37 = .ok (.goto 4, 3) := by decide +kernel
theorem dX8_rememberedOn_40 : decode cX8_rememberedOn 40 = .ok (.iconst 0, 1) := by decide +kernel
theorem dX8_rememberedOn_41 : decode cX8_rememberedOn 41 = .ok (.iadd, 1) := by decide +kernel
theorem dX8_rememberedOn_42 : decode cX8_rememberedOn 42 = .ok (.istore_n 2, 1) := by decide +kernel
theorem dX8_rememberedOn_43 : decode cX8_rememberedOn 43 = .ok (.iinc 3 1, 3) := by decide +kernel
theorem dX8_rememberedOn_46 : decode cX8_rememberedOn 46 = .ok (.goto (-42), 3) := by decide +kernel
theorem dX8_rememberedOn_49 : decode cX8_rememberedOn 49 = .ok (.iload_n 2, 1) := by decide +kernel
theorem dX8_rememberedOn_50 : decode cX8_rememberedOn 50 = .ok (.ireturn, 1) := by decide +kernel
theorem dX8_colourOf_0 : decode cX8_colourOf 0 = .ok (.aload_n 0, 1) := by decide +kernel
theorem dX8_colourOf_1 : decode cX8_colourOf 1 = .ok (.getfield 29, 3) := by decide +kernel
theorem dX8_colourOf_4 : decode cX8_colourOf 4 = .ok (.iload_n 1, 1) := by decide +kernel
theorem dX8_colourOf_5 : decode cX8_colourOf 5 = .ok (.iaload, 1) := by decide +kernel
theorem dX8_colourOf_6 : decode cX8_colourOf 6 = .ok (.ifCond .le 17, 3) := by decide +kernel
theorem dX8_colourOf_9 : decode cX8_colourOf 9 = .ok (.aload_n 0, 1) := by decide +kernel
theorem dX8_colourOf_10 : decode cX8_colourOf 10 = .ok (.aload_n 0, 1) := by decide +kernel
theorem dX8_colourOf_11 : decode cX8_colourOf 11 = .ok (.getfield 29, 3) := by decide +kernel
theorem dX8_colourOf_14 : decode cX8_colourOf 14 = .ok (.iload_n 1, 1) := by decide +kernel
theorem dX8_colourOf_15 : decode cX8_colourOf 15 = .ok (.iaload, 1) := by decide +kernel
theorem dX8_colourOf_16 : decode cX8_colourOf 16 = .ok (.iconst 1, 1) := by decide +kernel
theorem dX8_colourOf_17 : decode cX8_colourOf 17 = .ok (.isub, 1) := by decide +kernel
theorem dX8_colourOf_18 : decode cX8_colourOf 18 = .ok (.iconst 3, 1) := by decide +kernel
theorem dX8_colourOf_19 : decode cX8_colourOf 19 = .ok (.invokevirtual 84, 3) := by decide +kernel
theorem dX8_colourOf_22 : decode cX8_colourOf 22 = .ok (.ireturn, 1) := by decide +kernel
theorem dX8_colourOf_23 : decode cX8_colourOf 23 = .ok (.iconst 0, 1) := by decide +kernel
theorem dX8_colourOf_24 : decode cX8_colourOf 24 = .ok (.istore_n 2, 1) := by decide +kernel
theorem dX8_colourOf_25 : decode cX8_colourOf 25 = .ok (.aload_n 0, 1) := by decide +kernel
theorem dX8_colourOf_26 : decode cX8_colourOf 26 = .ok (.getfield 7, 3) := by decide +kernel
theorem dX8_colourOf_29 : decode cX8_colourOf 29 = .ok (.bipush 7, 2) := by decide +kernel
theorem dX8_colourOf_31 : decode cX8_colourOf 31 = .ok (.iaload, 1) := by decide +kernel
theorem dX8_colourOf_32 : decode cX8_colourOf 32 = .ok (.iconst 1, 1) := by decide +kernel
theorem dX8_colourOf_33 : decode cX8_colourOf 33 = .ok (.isub, 1) := by decide +kernel
theorem dX8_colourOf_34 : decode cX8_colourOf 34 = .ok (.istore_n 3, 1) := by decide +kernel
theorem dX8_colourOf_35 : decode cX8_colourOf 35 = .ok (.iload_n 3, 1) := by decide +kernel
theorem dX8_colourOf_36 : decode cX8_colourOf 36 = .ok (.ifCond .lt 107, 3) := by decide +kernel
theorem dX8_colourOf_39 : decode cX8_colourOf 39 = .ok (.aload_n 0, 1) := by decide +kernel
theorem dX8_colourOf_40 : decode cX8_colourOf 40 = .ok (.getfield 7, 3) := by decide +kernel
theorem dX8_colourOf_43 : decode cX8_colourOf 43 = .ok (.bipush 57, 2) := by decide +kernel
theorem dX8_colourOf_45 : decode cX8_colourOf 45 = .ok (.iconst 3, 1) := by decide +kernel
theorem dX8_colourOf_46 : decode cX8_colourOf 46 = .ok (.iload_n 3, 1) := by decide +kernel
theorem dX8_colourOf_47 : decode cX8_colourOf 47 = .ok (.imul, 1) := by decide +kernel
theorem dX8_colourOf_48 : decode cX8_colourOf 48 = .ok (.iadd, 1) := by decide +kernel
theorem dX8_colourOf_49 : decode cX8_colourOf 49 = .ok (.iaload, 1) := by decide +kernel
theorem dX8_colourOf_50 : decode cX8_colourOf 50 = .ok (.istore 4, 2) := by decide +kernel
theorem dX8_colourOf_52 : decode cX8_colourOf 52 = .ok (.aload_n 0, 1) := by decide +kernel
theorem dX8_colourOf_53 : decode cX8_colourOf 53 = .ok (.getfield 7, 3) := by decide +kernel
theorem dX8_colourOf_56 : decode cX8_colourOf 56 = .ok (.bipush 57, 2) := by decide +kernel
theorem dX8_colourOf_58 : decode cX8_colourOf 58 = .ok (.iconst 3, 1) := by decide +kernel
theorem dX8_colourOf_59 : decode cX8_colourOf 59 = .ok (.iload_n 3, 1) := by decide +kernel
theorem dX8_colourOf_60 : decode cX8_colourOf 60 = .ok (.imul, 1) := by decide +kernel
theorem dX8_colourOf_61 : decode cX8_colourOf 61 = .ok (.iadd, 1) := by decide +kernel
theorem dX8_colourOf_62 : decode cX8_colourOf 62 = .ok (.iconst 1, 1) := by decide +kernel
theorem dX8_colourOf_63 : decode cX8_colourOf 63 = .ok (.iadd, 1) := by decide +kernel
theorem dX8_colourOf_64 : decode cX8_colourOf 64 = .ok (.iaload, 1) := by decide +kernel
theorem dX8_colourOf_65 : decode cX8_colourOf 65 = .ok (.istore 5, 2) := by decide +kernel
theorem dX8_colourOf_67 : decode cX8_colourOf 67 = .ok (.aload_n 0, 1) := by decide +kernel
theorem dX8_colourOf_68 : decode cX8_colourOf 68 = .ok (.iload 4, 2) := by decide +kernel
theorem dX8_colourOf_70 : decode cX8_colourOf 70 = .ok (.invokevirtual 119, 3) := by decide +kernel
theorem dX8_colourOf_73 : decode cX8_colourOf 73 = .ok (.ifCond .eq 38, 3) := by decide +kernel
theorem dX8_colourOf_76 : decode cX8_colourOf 76 = .ok (.aload_n 0, 1) := by decide +kernel
theorem dX8_colourOf_77 : decode cX8_colourOf 77 = .ok (.iload 5, 2) := by decide +kernel
theorem dX8_colourOf_79 : decode cX8_colourOf 79 = .ok (.invokevirtual 119, 3) := by decide +kernel
theorem dX8_colourOf_82 : decode cX8_colourOf 82 = .ok (.ifCond .eq 29, 3) := by decide +kernel
theorem dX8_colourOf_85 : decode cX8_colourOf 85 = .ok (.aload_n 0, 1) := by decide +kernel
theorem dX8_colourOf_86 : decode cX8_colourOf 86 = .ok (.getfield 38, 3) := by decide +kernel
theorem dX8_colourOf_89 : decode cX8_colourOf 89 = .ok (.iload 4, 2) := by decide +kernel
theorem dX8_colourOf_91 : decode cX8_colourOf 91 = .ok (.iaload, 1) := by decide +kernel
theorem dX8_colourOf_92 : decode cX8_colourOf 92 = .ok (.iload_n 1, 1) := by decide +kernel
theorem dX8_colourOf_93 : decode cX8_colourOf 93 = .ok (.if_icmp .gt 18, 3) := by decide +kernel
theorem dX8_colourOf_96 : decode cX8_colourOf 96 = .ok (.iload_n 1, 1) := by decide +kernel
theorem dX8_colourOf_97 : decode cX8_colourOf 97 = .ok (.aload_n 0, 1) := by decide +kernel
theorem dX8_colourOf_98 : decode cX8_colourOf 98 = .ok (.getfield 38, 3) := by decide +kernel
theorem dX8_colourOf_101 : decode cX8_colourOf 101 = .ok (.iload 5, 2) := by decide +kernel
theorem dX8_colourOf_103 : decode cX8_colourOf 103 = .ok (.iaload, 1) := by decide +kernel
theorem dX8_colourOf_104 : decode cX8_colourOf 104 = .ok (.if_icmp .ge 7, 3) := by decide +kernel
theorem dX8_colourOf_107 : decode cX8_colourOf 107 = .ok (.iconst 1, 1) := by decide +kernel
theorem dX8_colourOf_108 : decode cX8_colourOf 108 = .ok (.goto 4, 3) := by decide +kernel
theorem dX8_colourOf_111 : decode cX8_colourOf 111 = .ok (.iconst 0, 1) := by decide +kernel
theorem dX8_colourOf_112 : decode cX8_colourOf 112 = .ok (.istore 6, 2) := by decide +kernel
theorem dX8_colourOf_114 : decode cX8_colourOf 114 = .ok (.iload 6, 2) := by decide +kernel
theorem dX8_colourOf_116 : decode cX8_colourOf 116 = .ok (.ifCond .eq 19, 3) := by decide +kernel
theorem dX8_colourOf_119 : decode cX8_colourOf 119 = .ok (.aload_n 0, 1) := by decide +kernel
theorem dX8_colourOf_120 : decode cX8_colourOf 120 = .ok (.getfield 7, 3) := by decide +kernel
theorem dX8_colourOf_123 : decode cX8_colourOf 123 = .ok (.bipush 57, 2) := by decide +kernel
theorem dX8_colourOf_125 : decode cX8_colourOf 125 = .ok (.iconst 3, 1) := by decide +kernel
theorem dX8_colourOf_126 : decode cX8_colourOf 126 = .ok (.iload_n 3, 1) := by decide +kernel
theorem dX8_colourOf_127 : decode cX8_colourOf 127 = .ok (.imul, 1) := by decide +kernel
theorem dX8_colourOf_128 : decode cX8_colourOf 128 = .ok (.iadd, 1) := by decide +kernel
theorem dX8_colourOf_129 : decode cX8_colourOf 129 = .ok (.iconst 2, 1) := by decide +kernel
theorem dX8_colourOf_130 : decode cX8_colourOf 130 = .ok (.iadd, 1) := by decide +kernel
theorem dX8_colourOf_131 : decode cX8_colourOf 131 = .ok (.iaload, 1) := by decide +kernel
theorem dX8_colourOf_132 : decode cX8_colourOf 132 = .ok (.goto 4, 3) := by decide +kernel
theorem dX8_colourOf_135 : decode cX8_colourOf 135 = .ok (.iload_n 2, 1) := by decide +kernel
theorem dX8_colourOf_136 : decode cX8_colourOf 136 = .ok (.istore_n 2, 1) := by decide +kernel
theorem dX8_colourOf_137 : decode cX8_colourOf 137 = .ok (.iinc 3 (-1), 3) := by decide +kernel
theorem dX8_colourOf_140 : decode cX8_colourOf 140 = .ok (.goto (-105), 3) := by decide +kernel
theorem dX8_colourOf_143 : decode cX8_colourOf 143 = .ok (.iload_n 2, 1) := by decide +kernel
theorem dX8_colourOf_144 : decode cX8_colourOf 144 = .ok (.ireturn, 1) := by decide +kernel
theorem dX8_day_0 : decode cX8_day 0 = .ok (.aload_n 0, 1) := by decide +kernel
theorem dX8_day_1 : decode cX8_day 1 = .ok (.invokevirtual 261, 3) := by decide +kernel
theorem dX8_day_4 : decode cX8_day 4 = .ok (.ifCond .ne 6, 3) := by decide +kernel
theorem dX8_day_7 : decode cX8_day 7 = .ok (.ldc 238, 2) := by decide +kernel
theorem dX8_day_9 : decode cX8_day 9 = .ok (.ireturn, 1) := by decide +kernel
theorem dX8_day_10 : decode cX8_day 10 = .ok (.aload_n 0, 1) := by decide +kernel
theorem dX8_day_11 : decode cX8_day 11 = .ok (.iload_n 1, 1) := by decide +kernel
theorem dX8_day_12 : decode cX8_day 12 = .ok (.iload_n 2, 1) := by decide +kernel
theorem dX8_day_13 : decode cX8_day 13 = .ok (.iconst 1, 1) := by decide +kernel
theorem dX8_day_14 : decode cX8_day 14 = .ok (.invokevirtual 298, 3) := by decide +kernel
theorem dX8_day_17 : decode cX8_day 17 = .ok (.ifCond .ne 6, 3) := by decide +kernel
theorem dX8_day_20 : decode cX8_day 20 = .ok (.ldc 209, 2) := by decide +kernel
theorem dX8_day_22 : decode cX8_day 22 = .ok (.ireturn, 1) := by decide +kernel
theorem dX8_day_23 : decode cX8_day 23 = .ok (.iload_n 3, 1) := by decide +kernel
theorem dX8_day_24 : decode cX8_day 24 = .ok (.tableswitch 93 0 5 #[40, 46, 69, 75, 81, 87], 40) := by decide +kernel
theorem dX8_day_64 : decode cX8_day 64 = .ok (.aload_n 0, 1) := by decide +kernel
theorem dX8_day_65 : decode cX8_day 65 = .ok (.iload_n 2, 1) := by decide +kernel
theorem dX8_day_66 : decode cX8_day 66 = .ok (.invokevirtual 67, 3) := by decide +kernel
theorem dX8_day_69 : decode cX8_day 69 = .ok (.ireturn, 1) := by decide +kernel
theorem dX8_day_70 : decode cX8_day 70 = .ok (.aload_n 0, 1) := by decide +kernel
theorem dX8_day_71 : decode cX8_day 71 = .ok (.getfield 29, 3) := by decide +kernel
theorem dX8_day_74 : decode cX8_day 74 = .ok (.iload_n 2, 1) := by decide +kernel
theorem dX8_day_75 : decode cX8_day 75 = .ok (.iaload, 1) := by decide +kernel
theorem dX8_day_76 : decode cX8_day 76 = .ok (.ifCond .le 14, 3) := by decide +kernel
theorem dX8_day_79 : decode cX8_day 79 = .ok (.aload_n 0, 1) := by decide +kernel
theorem dX8_day_80 : decode cX8_day 80 = .ok (.getfield 29, 3) := by decide +kernel
theorem dX8_day_83 : decode cX8_day 83 = .ok (.iload_n 2, 1) := by decide +kernel
theorem dX8_day_84 : decode cX8_day 84 = .ok (.iaload, 1) := by decide +kernel
theorem dX8_day_85 : decode cX8_day 85 = .ok (.iconst 1, 1) := by decide +kernel
theorem dX8_day_86 : decode cX8_day 86 = .ok (.isub, 1) := by decide +kernel
theorem dX8_day_87 : decode cX8_day 87 = .ok (.goto 5, 3) := by decide +kernel
theorem dX8_day_90 : decode cX8_day 90 = .ok (.ldc 90, 2) := by decide +kernel
theorem dX8_day_92 : decode cX8_day 92 = .ok (.ireturn, 1) := by decide +kernel
theorem dX8_day_93 : decode cX8_day 93 = .ok (.aload_n 0, 1) := by decide +kernel
theorem dX8_day_94 : decode cX8_day 94 = .ok (.iload_n 2, 1) := by decide +kernel
theorem dX8_day_95 : decode cX8_day 95 = .ok (.invokevirtual 122, 3) := by decide +kernel
theorem dX8_day_98 : decode cX8_day 98 = .ok (.ireturn, 1) := by decide +kernel
theorem dX8_day_99 : decode cX8_day 99 = .ok (.aload_n 0, 1) := by decide +kernel
theorem dX8_day_100 : decode cX8_day 100 = .ok (.iload_n 2, 1) := by decide +kernel
theorem dX8_day_101 : decode cX8_day 101 = .ok (.invokevirtual 301, 3) := by decide +kernel
theorem dX8_day_104 : decode cX8_day 104 = .ok (.ireturn, 1) := by decide +kernel
theorem dX8_day_105 : decode cX8_day 105 = .ok (.aload_n 0, 1) := by decide +kernel
theorem dX8_day_106 : decode cX8_day 106 = .ok (.iload_n 2, 1) := by decide +kernel
theorem dX8_day_107 : decode cX8_day 107 = .ok (.invokevirtual 141, 3) := by decide +kernel
theorem dX8_day_110 : decode cX8_day 110 = .ok (.ireturn, 1) := by decide +kernel
theorem dX8_day_111 : decode cX8_day 111 = .ok (.aload_n 0, 1) := by decide +kernel
theorem dX8_day_112 : decode cX8_day 112 = .ok (.iload_n 2, 1) := by decide +kernel
theorem dX8_day_113 : decode cX8_day 113 = .ok (.invokevirtual 304, 3) := by decide +kernel
theorem dX8_day_116 : decode cX8_day 116 = .ok (.ireturn, 1) := by decide +kernel
theorem dX8_day_117 : decode cX8_day 117 = .ok (.ldc 209, 2) := by decide +kernel
theorem dX8_day_119 : decode cX8_day 119 = .ok (.ireturn, 1) := by decide +kernel
theorem dX7_held_0 : decode cX7_held 0 = .ok (.aload_n 0, 1) := by decide +kernel
theorem dX7_held_1 : decode cX7_held 1 = .ok (.getfield 36, 3) := by decide +kernel
theorem dX7_held_4 : decode cX7_held 4 = .ok (.iload_n 1, 1) := by decide +kernel
theorem dX7_held_5 : decode cX7_held 5 = .ok (.invokevirtual 109, 3) := by decide +kernel
theorem dX7_held_8 : decode cX7_held 8 = .ok (.ifCond .eq 19, 3) := by decide +kernel
theorem dX7_held_11 : decode cX7_held 11 = .ok (.iload_n 2, 1) := by decide +kernel
theorem dX7_held_12 : decode cX7_held 12 = .ok (.invokestatic 153, 3) := by decide +kernel
theorem dX7_held_15 : decode cX7_held 15 = .ok (.ifCond .eq 12, 3) := by decide +kernel
theorem dX7_held_18 : decode cX7_held 18 = .ok (.iload_n 3, 1) := by decide +kernel
theorem dX7_held_19 : decode cX7_held 19 = .ok (.iconst 0, 1) := by decide +kernel
theorem dX7_held_20 : decode cX7_held 20 = .ok (.iconst 2, 1) := by decide +kernel
theorem dX7_held_21 : decode cX7_held 21 = .ok (.invokestatic 68, 3) := by decide +kernel
theorem dX7_held_24 : decode cX7_held 24 = .ok (.ifCond .ne 6, 3) := by decide +kernel
theorem dX7_held_27 : decode cX7_held 27 = .ok (.ldc 72, 2) := by decide +kernel
theorem dX7_held_29 : decode cX7_held 29 = .ok (.ireturn, 1) := by decide +kernel
theorem dX7_held_30 : decode cX7_held 30 = .ok (.aload_n 0, 1) := by decide +kernel
theorem dX7_held_31 : decode cX7_held 31 = .ok (.getfield 51, 3) := by decide +kernel
theorem dX7_held_34 : decode cX7_held 34 = .ok (.iload_n 2, 1) := by decide +kernel
theorem dX7_held_35 : decode cX7_held 35 = .ok (.iconst (-1), 1) := by decide +kernel
theorem dX7_held_36 : decode cX7_held 36 = .ok (.invokevirtual 156, 3) := by decide +kernel
theorem dX7_held_39 : decode cX7_held 39 = .ok (.iload_n 3, 1) := by decide +kernel
theorem dX7_held_40 : decode cX7_held 40 = .ok (.lookupswitch 48 #[(0, 28), (1, 38)], 28) := by decide +kernel
theorem dX7_held_68 : decode cX7_held 68 = .ok (.aload_n 0, 1) := by decide +kernel
theorem dX7_held_69 : decode cX7_held 69 = .ok (.getfield 51, 3) := by decide +kernel
theorem dX7_held_72 : decode cX7_held 72 = .ok (.getfield 216, 3) := by decide +kernel
theorem dX7_held_75 : decode cX7_held 75 = .ok (.iload_n 1, 1) := by decide +kernel
theorem dX7_held_76 : decode cX7_held 76 = .ok (.iaload, 1) := by decide +kernel
theorem dX7_held_77 : decode cX7_held 77 = .ok (.ireturn, 1) := by decide +kernel
theorem dX7_held_78 : decode cX7_held 78 = .ok (.aload_n 0, 1) := by decide +kernel
theorem dX7_held_79 : decode cX7_held 79 = .ok (.getfield 51, 3) := by decide +kernel
theorem dX7_held_82 : decode cX7_held 82 = .ok (.getfield 219, 3) := by decide +kernel
theorem dX7_held_85 : decode cX7_held 85 = .ok (.iload_n 1, 1) := by decide +kernel
theorem dX7_held_86 : decode cX7_held 86 = .ok (.iaload, 1) := by decide +kernel
theorem dX7_held_87 : decode cX7_held 87 = .ok (.ireturn, 1) := by decide +kernel
theorem dX7_held_88 : decode cX7_held 88 = .ok (.aload_n 0, 1) := by decide +kernel
theorem dX7_held_89 : decode cX7_held 89 = .ok (.getfield 51, 3) := by decide +kernel
theorem dX7_held_92 : decode cX7_held 92 = .ok (.getfield 222, 3) := by decide +kernel
theorem dX7_held_95 : decode cX7_held 95 = .ok (.iload_n 1, 1) := by decide +kernel
theorem dX7_held_96 : decode cX7_held 96 = .ok (.iaload, 1) := by decide +kernel
theorem dX7_held_97 : decode cX7_held 97 = .ok (.ireturn, 1) := by decide +kernel
theorem dX8_held_0 : decode cX8_held 0 = .ok (.aload_n 0, 1) := by decide +kernel
theorem dX8_held_1 : decode cX8_held 1 = .ok (.iload_n 1, 1) := by decide +kernel
theorem dX8_held_2 : decode cX8_held 2 = .ok (.invokevirtual 252, 3) := by decide +kernel
theorem dX8_held_5 : decode cX8_held 5 = .ok (.ifCond .eq 22, 3) := by decide +kernel
theorem dX8_held_8 : decode cX8_held 8 = .ok (.iload_n 2, 1) := by decide +kernel
theorem dX8_held_9 : decode cX8_held 9 = .ok (.invokestatic 283, 3) := by decide +kernel
theorem dX8_held_12 : decode cX8_held 12 = .ok (.ifCond .eq 15, 3) := by decide +kernel
theorem dX8_held_15 : decode cX8_held 15 = .ok (.iload_n 3, 1) := by decide +kernel
theorem dX8_held_16 : decode cX8_held 16 = .ok (.i2l, 1) := by decide +kernel
theorem dX8_held_17 : decode cX8_held 17 = .ok (.lconst 0, 1) := by decide +kernel
theorem dX8_held_18 : decode cX8_held 18 = .ok (.ldc2_w 265, 3) := by decide +kernel
theorem dX8_held_21 : decode cX8_held 21 = .ok (.invokestatic 55, 3) := by decide +kernel
theorem dX8_held_24 : decode cX8_held 24 = .ok (.ifCond .ne 6, 3) := by decide +kernel
theorem dX8_held_27 : decode cX8_held 27 = .ok (.ldc 209, 2) := by decide +kernel
theorem dX8_held_29 : decode cX8_held 29 = .ok (.ireturn, 1) := by decide +kernel
theorem dX8_held_30 : decode cX8_held 30 = .ok (.aload_n 0, 1) := by decide +kernel
theorem dX8_held_31 : decode cX8_held 31 = .ok (.iload_n 2, 1) := by decide +kernel
theorem dX8_held_32 : decode cX8_held 32 = .ok (.ldc 90, 2) := by decide +kernel
theorem dX8_held_34 : decode cX8_held 34 = .ok (.invokevirtual 288, 3) := by decide +kernel
theorem dX8_held_37 : decode cX8_held 37 = .ok (.iload_n 3, 1) := by decide +kernel
theorem dX8_held_38 : decode cX8_held 38 = .ok (.ifCond .ne 12, 3) := by decide +kernel
theorem dX8_held_41 : decode cX8_held 41 = .ok (.aload_n 0, 1) := by decide +kernel
theorem dX8_held_42 : decode cX8_held 42 = .ok (.getfield 35, 3) := by decide +kernel
theorem dX8_held_45 : decode cX8_held 45 = .ok (.iload_n 1, 1) := by decide +kernel
theorem dX8_held_46 : decode cX8_held 46 = .ok (.iaload, 1) := by decide +kernel
theorem dX8_held_47 : decode cX8_held 47 = .ok (.goto 23, 3) := by decide +kernel
theorem dX8_held_50 : decode cX8_held 50 = .ok (.iload_n 3, 1) := by decide +kernel
theorem dX8_held_51 : decode cX8_held 51 = .ok (.iconst 1, 1) := by decide +kernel
theorem dX8_held_52 : decode cX8_held 52 = .ok (.if_icmp .ne 12, 3) := by decide +kernel
theorem dX8_held_55 : decode cX8_held 55 = .ok (.aload_n 0, 1) := by decide +kernel
theorem dX8_held_56 : decode cX8_held 56 = .ok (.getfield 32, 3) := by decide +kernel
theorem dX8_held_59 : decode cX8_held 59 = .ok (.iload_n 1, 1) := by decide +kernel
theorem dX8_held_60 : decode cX8_held 60 = .ok (.iaload, 1) := by decide +kernel
theorem dX8_held_61 : decode cX8_held 61 = .ok (.goto 9, 3) := by decide +kernel
theorem dX8_held_64 : decode cX8_held 64 = .ok (.aload_n 0, 1) := by decide +kernel
theorem dX8_held_65 : decode cX8_held 65 = .ok (.getfield 38, 3) := by decide +kernel
theorem dX8_held_68 : decode cX8_held 68 = .ok (.iload_n 1, 1) := by decide +kernel
theorem dX8_held_69 : decode cX8_held 69 = .ok (.iaload, 1) := by decide +kernel
theorem dX8_held_70 : decode cX8_held 70 = .ok (.ireturn, 1) := by decide +kernel
theorem dX3_isReadingDay_0 : decode cX3_isReadingDay 0 = .ok (.aload_n 0, 1) := by decide +kernel
theorem dX3_isReadingDay_1 : decode cX3_isReadingDay 1 = .ok (.iload_n 1, 1) := by decide +kernel
theorem dX3_isReadingDay_2 : decode cX3_isReadingDay 2 = .ok (.invokevirtual 119, 3) := by decide +kernel
theorem dX3_isReadingDay_5 : decode cX3_isReadingDay 5 = .ok (.iconst 3, 1) := by decide +kernel
theorem dX3_isReadingDay_6 : decode cX3_isReadingDay 6 = .ok (.if_icmp .gt 7, 3) := by decide +kernel
theorem dX3_isReadingDay_9 : decode cX3_isReadingDay 9 = .ok (.iconst 1, 1) := by decide +kernel
theorem dX3_isReadingDay_10 : decode cX3_isReadingDay 10 = .ok (.goto 4, 3) := by decide +kernel
theorem dX3_isReadingDay_13 : decode cX3_isReadingDay 13 = .ok (.iconst 0, 1) := by decide +kernel
theorem dX3_isReadingDay_14 : decode cX3_isReadingDay 14 = .ok (.ireturn, 1) := by decide +kernel
theorem dX3_readingDays_0 : decode cX3_readingDays 0 = .ok (.iconst 0, 1) := by decide +kernel
theorem dX3_readingDays_1 : decode cX3_readingDays 1 = .ok (.istore_n 2, 1) := by decide +kernel
theorem dX3_readingDays_2 : decode cX3_readingDays 2 = .ok (.iconst 1, 1) := by decide +kernel
theorem dX3_readingDays_3 : decode cX3_readingDays 3 = .ok (.istore_n 3, 1) := by decide +kernel
theorem dX3_readingDays_4 : decode cX3_readingDays 4 = .ok (.iload_n 3, 1) := by decide +kernel
theorem dX3_readingDays_5 : decode cX3_readingDays 5 = .ok (.iload_n 1, 1) := by decide +kernel
theorem dX3_readingDays_6 : decode cX3_readingDays 6 = .ok (.if_icmp .gt 25, 3) := by decide +kernel
theorem dX3_readingDays_9 : decode cX3_readingDays 9 = .ok (.iload_n 2, 1) := by decide +kernel
theorem dX3_readingDays_10 : decode cX3_readingDays 10 = .ok (.aload_n 0, 1) := by decide +kernel
theorem dX3_readingDays_11 : decode cX3_readingDays 11 = .ok (.iload_n 3, 1) := by decide +kernel
theorem dX3_readingDays_12 : decode cX3_readingDays 12 = .ok (.invokevirtual 128, 3) := by decide +kernel
theorem dX3_readingDays_15 : decode cX3_readingDays 15 = .ok (.ifCond .eq 7, 3) := by decide +kernel
theorem dX3_readingDays_18 : decode cX3_readingDays 18 = .ok (.iconst 1, 1) := by decide +kernel
theorem dX3_readingDays_19 : decode cX3_readingDays 19 = .ok (.goto 4, 3) := by decide +kernel
theorem dX3_readingDays_22 : decode cX3_readingDays 22 = .ok (.iconst 0, 1) := by decide +kernel
theorem dX3_readingDays_23 : decode cX3_readingDays 23 = .ok (.iadd, 1) := by decide +kernel
theorem dX3_readingDays_24 : decode cX3_readingDays 24 = .ok (.istore_n 2, 1) := by decide +kernel
theorem dX3_readingDays_25 : decode cX3_readingDays 25 = .ok (.iinc 3 1, 3) := by decide +kernel
theorem dX3_readingDays_28 : decode cX3_readingDays 28 = .ok (.goto (-24), 3) := by decide +kernel
theorem dX3_readingDays_31 : decode cX3_readingDays 31 = .ok (.iload_n 2, 1) := by decide +kernel
theorem dX3_readingDays_32 : decode cX3_readingDays 32 = .ok (.ireturn, 1) := by decide +kernel
theorem dX7_psalm_0 : decode cX7_psalm 0 = .ok (.aload_n 0, 1) := by decide +kernel
theorem dX7_psalm_1 : decode cX7_psalm 1 = .ok (.getfield 36, 3) := by decide +kernel
theorem dX7_psalm_4 : decode cX7_psalm 4 = .ok (.getfield 128, 3) := by decide +kernel
theorem dX7_psalm_7 : decode cX7_psalm 7 = .ok (.ifCond .ne 6, 3) := by decide +kernel
theorem dX7_psalm_10 : decode cX7_psalm 10 = .ok (.ldc 105, 2) := by decide +kernel
theorem dX7_psalm_12 : decode cX7_psalm 12 = .ok (.ireturn, 1) := by decide +kernel
theorem dX7_psalm_13 : decode cX7_psalm 13 = .ok (.aload_n 0, 1) := by decide +kernel
theorem dX7_psalm_14 : decode cX7_psalm 14 = .ok (.iload_n 1, 1) := by decide +kernel
theorem dX7_psalm_15 : decode cX7_psalm 15 = .ok (.iload_n 2, 1) := by decide +kernel
theorem dX7_psalm_16 : decode cX7_psalm 16 = .ok (.invokevirtual 193, 3) := by decide +kernel
theorem dX7_psalm_19 : decode cX7_psalm 19 = .ok (.ifCond .eq 12, 3) := by decide +kernel
theorem dX7_psalm_22 : decode cX7_psalm 22 = .ok (.iload_n 3, 1) := by decide +kernel
theorem dX7_psalm_23 : decode cX7_psalm 23 = .ok (.iconst 0, 1) := by decide +kernel
theorem dX7_psalm_24 : decode cX7_psalm 24 = .ok (.iconst 2, 1) := by decide +kernel
theorem dX7_psalm_25 : decode cX7_psalm 25 = .ok (.invokestatic 68, 3) := by decide +kernel
theorem dX7_psalm_28 : decode cX7_psalm 28 = .ok (.ifCond .ne 6, 3) := by decide +kernel
theorem dX7_psalm_31 : decode cX7_psalm 31 = .ok (.ldc 72, 2) := by decide +kernel
theorem dX7_psalm_33 : decode cX7_psalm 33 = .ok (.ireturn, 1) := by decide +kernel
theorem dX7_psalm_34 : decode cX7_psalm 34 = .ok (.aload_n 0, 1) := by decide +kernel
theorem dX7_psalm_35 : decode cX7_psalm 35 = .ok (.getfield 51, 3) := by decide +kernel
theorem dX7_psalm_38 : decode cX7_psalm 38 = .ok (.iload_n 1, 1) := by decide +kernel
theorem dX7_psalm_39 : decode cX7_psalm 39 = .ok (.iconst (-1), 1) := by decide +kernel
theorem dX7_psalm_40 : decode cX7_psalm 40 = .ok (.invokevirtual 156, 3) := by decide +kernel
theorem dX7_psalm_43 : decode cX7_psalm 43 = .ok (.aload_n 0, 1) := by decide +kernel
theorem dX7_psalm_44 : decode cX7_psalm 44 = .ok (.getfield 36, 3) := by decide +kernel
theorem dX7_psalm_47 : decode cX7_psalm 47 = .ok (.getfield 141, 3) := by decide +kernel
theorem dX7_psalm_50 : decode cX7_psalm 50 = .ok (.iconst 4, 1) := by decide +kernel
theorem dX7_psalm_51 : decode cX7_psalm 51 = .ok (.iaload, 1) := by decide +kernel
theorem dX7_psalm_52 : decode cX7_psalm 52 = .ok (.istore 4, 2) := by decide +kernel
theorem dX7_psalm_54 : decode cX7_psalm 54 = .ok (.iconst 1, 1) := by decide +kernel
theorem dX7_psalm_55 : decode cX7_psalm 55 = .ok (.aload_n 0, 1) := by decide +kernel
theorem dX7_psalm_56 : decode cX7_psalm 56 = .ok (.getfield 36, 3) := by decide +kernel
theorem dX7_psalm_59 : decode cX7_psalm 59 = .ok (.getfield 141, 3) := by decide +kernel
theorem dX7_psalm_62 : decode cX7_psalm 62 = .ok (.iconst 3, 1) := by decide +kernel
theorem dX7_psalm_63 : decode cX7_psalm 63 = .ok (.iaload, 1) := by decide +kernel
theorem dX7_psalm_64 : decode cX7_psalm 64 = .ok (.invokestatic 225, 3) := by decide +kernel
theorem dX7_psalm_67 : decode cX7_psalm 67 = .ok (.istore 5, 2) := by decide +kernel
theorem dX7_psalm_69 : decode cX7_psalm 69 = .ok (.aload_n 0, 1) := by decide +kernel
theorem dX7_psalm_70 : decode cX7_psalm 70 = .ok (.getfield 51, 3) := by decide +kernel
theorem dX7_psalm_73 : decode cX7_psalm 73 = .ok (.iload_n 2, 1) := by decide +kernel
theorem dX7_psalm_74 : decode cX7_psalm 74 = .ok (.invokevirtual 230, 3) := by decide +kernel
theorem dX7_psalm_77 : decode cX7_psalm 77 = .ok (.iload 4, 2) := by decide +kernel
theorem dX7_psalm_79 : decode cX7_psalm 79 = .ok (.imul, 1) := by decide +kernel
theorem dX7_psalm_80 : decode cX7_psalm 80 = .ok (.istore 6, 2) := by decide +kernel
theorem dX7_psalm_82 : decode cX7_psalm 82 = .ok (.iload_n 3, 1) := by decide +kernel
theorem dX7_psalm_83 : decode cX7_psalm 83 = .ok (.iconst 2, 1) := by decide +kernel
theorem dX7_psalm_84 : decode cX7_psalm 84 = .ok (.if_icmp .ne 9, 3) := by decide +kernel
theorem dX7_psalm_87 : decode cX7_psalm 87 = .ok (.iload 6, 2) := by decide +kernel
theorem dX7_psalm_89 : decode cX7_psalm 89 = .ok (.iload 5, 2) := by decide +kernel
theorem dX7_psalm_91 : decode cX7_psalm 91 = .ok (.idiv, 1) := by decide +kernel
theorem dX7_psalm_92 : decode cX7_psalm 92 = .ok (.ireturn, 1) := by decide +kernel
theorem dX7_psalm_93 : decode cX7_psalm 93 = .ok (.aload_n 0, 1) := by decide +kernel
theorem dX7_psalm_94 : decode cX7_psalm 94 = .ok (.getfield 51, 3) := by decide +kernel
theorem dX7_psalm_97 : decode cX7_psalm 97 = .ok (.iload_n 2, 1) := by decide +kernel
theorem dX7_psalm_98 : decode cX7_psalm 98 = .ok (.invokevirtual 233, 3) := by decide +kernel
theorem dX7_psalm_101 : decode cX7_psalm 101 = .ok (.ifCond .ne 6, 3) := by decide +kernel
theorem dX7_psalm_104 : decode cX7_psalm 104 = .ok (.ldc 203, 2) := by decide +kernel
theorem dX7_psalm_106 : decode cX7_psalm 106 = .ok (.ireturn, 1) := by decide +kernel
theorem dX7_psalm_107 : decode cX7_psalm 107 = .ok (.iload_n 3, 1) := by decide +kernel
theorem dX7_psalm_108 : decode cX7_psalm 108 = .ok (.ifCond .ne 11, 3) := by decide +kernel
theorem dX7_psalm_111 : decode cX7_psalm 111 = .ok (.iload 6, 2) := by decide +kernel
theorem dX7_psalm_113 : decode cX7_psalm 113 = .ok (.iload 4, 2) := by decide +kernel
theorem dX7_psalm_115 : decode cX7_psalm 115 = .ok (.isub, 1) := by decide +kernel
theorem dX7_psalm_116 : decode cX7_psalm 116 = .ok (.goto 7, 3) := by decide +kernel
theorem dX7_psalm_119 : decode cX7_psalm 119 = .ok (.iload 6, 2) := by decide +kernel
theorem dX7_psalm_121 : decode cX7_psalm 121 = .ok (.iconst 1, 1) := by decide +kernel
theorem dX7_psalm_122 : decode cX7_psalm 122 = .ok (.isub, 1) := by decide +kernel
theorem dX7_psalm_123 : decode cX7_psalm 123 = .ok (.iload 5, 2) := by decide +kernel
theorem dX7_psalm_125 : decode cX7_psalm 125 = .ok (.irem, 1) := by decide +kernel
theorem dX7_psalm_126 : decode cX7_psalm 126 = .ok (.iconst 1, 1) := by decide +kernel
theorem dX7_psalm_127 : decode cX7_psalm 127 = .ok (.iadd, 1) := by decide +kernel
theorem dX7_psalm_128 : decode cX7_psalm 128 = .ok (.ireturn, 1) := by decide +kernel
theorem dX8_readings_0 : decode cX8_readings 0 = .ok (.iconst 0, 1) := by decide +kernel
theorem dX8_readings_1 : decode cX8_readings 1 = .ok (.istore_n 2, 1) := by decide +kernel
theorem dX8_readings_2 : decode cX8_readings 2 = .ok (.iconst 1, 1) := by decide +kernel
theorem dX8_readings_3 : decode cX8_readings 3 = .ok (.istore_n 3, 1) := by decide +kernel
theorem dX8_readings_4 : decode cX8_readings 4 = .ok (.iload_n 3, 1) := by decide +kernel
theorem dX8_readings_5 : decode cX8_readings 5 = .ok (.iload_n 1, 1) := by decide +kernel
theorem dX8_readings_6 : decode cX8_readings 6 = .ok (.if_icmp .gt 26, 3) := by decide +kernel
theorem dX8_readings_9 : decode cX8_readings 9 = .ok (.iload_n 2, 1) := by decide +kernel
theorem dX8_readings_10 : decode cX8_readings 10 = .ok (.aload_n 0, 1) := by decide +kernel
theorem dX8_readings_11 : decode cX8_readings 11 = .ok (.iload_n 3, 1) := by decide +kernel
theorem dX8_readings_12 : decode cX8_readings 12 = .ok (.invokevirtual 122, 3) := by decide +kernel
theorem dX8_readings_15 : decode cX8_readings 15 = .ok (.iconst 3, 1) := by decide +kernel
theorem dX8_readings_16 : decode cX8_readings 16 = .ok (.if_icmp .gt 7, 3) := by decide +kernel
theorem dX8_readings_19 : decode cX8_readings 19 = .ok (.iconst 1, 1) := by decide +kernel
theorem dX8_readings_20 : decode cX8_readings 20 = .ok (.goto 4, 3) := by decide +kernel
theorem dX8_readings_23 : decode cX8_readings 23 = .ok (.iconst 0, 1) := by decide +kernel
theorem dX8_readings_24 : decode cX8_readings 24 = .ok (.iadd, 1) := by decide +kernel
theorem dX8_readings_25 : decode cX8_readings 25 = .ok (.istore_n 2, 1) := by decide +kernel
theorem dX8_readings_26 : decode cX8_readings 26 = .ok (.iinc 3 1, 3) := by decide +kernel
theorem dX8_readings_29 : decode cX8_readings 29 = .ok (.goto (-25), 3) := by decide +kernel
theorem dX8_readings_32 : decode cX8_readings 32 = .ok (.iload_n 2, 1) := by decide +kernel
theorem dX8_readings_33 : decode cX8_readings 33 = .ok (.ireturn, 1) := by decide +kernel
theorem dX8_psalm_0 : decode cX8_psalm 0 = .ok (.aload_n 0, 1) := by decide +kernel
theorem dX8_psalm_1 : decode cX8_psalm 1 = .ok (.invokevirtual 261, 3) := by decide +kernel
theorem dX8_psalm_4 : decode cX8_psalm 4 = .ok (.ifCond .ne 6, 3) := by decide +kernel
theorem dX8_psalm_7 : decode cX8_psalm 7 = .ok (.ldc 238, 2) := by decide +kernel
theorem dX8_psalm_9 : decode cX8_psalm 9 = .ok (.ireturn, 1) := by decide +kernel
theorem dX8_psalm_10 : decode cX8_psalm 10 = .ok (.iload_n 3, 1) := by decide +kernel
theorem dX8_psalm_11 : decode cX8_psalm 11 = .ok (.i2l, 1) := by decide +kernel
theorem dX8_psalm_12 : decode cX8_psalm 12 = .ok (.lconst 0, 1) := by decide +kernel
theorem dX8_psalm_13 : decode cX8_psalm 13 = .ok (.ldc2_w 265, 3) := by decide +kernel
theorem dX8_psalm_16 : decode cX8_psalm 16 = .ok (.invokestatic 55, 3) := by decide +kernel
theorem dX8_psalm_19 : decode cX8_psalm 19 = .ok (.ifCond .eq 13, 3) := by decide +kernel
theorem dX8_psalm_22 : decode cX8_psalm 22 = .ok (.aload_n 0, 1) := by decide +kernel
theorem dX8_psalm_23 : decode cX8_psalm 23 = .ok (.iload_n 1, 1) := by decide +kernel
theorem dX8_psalm_24 : decode cX8_psalm 24 = .ok (.iload_n 2, 1) := by decide +kernel
theorem dX8_psalm_25 : decode cX8_psalm 25 = .ok (.iconst 1, 1) := by decide +kernel
theorem dX8_psalm_26 : decode cX8_psalm 26 = .ok (.invokevirtual 298, 3) := by decide +kernel
theorem dX8_psalm_29 : decode cX8_psalm 29 = .ok (.ifCond .ne 6, 3) := by decide +kernel
theorem dX8_psalm_32 : decode cX8_psalm 32 = .ok (.ldc 209, 2) := by decide +kernel
theorem dX8_psalm_34 : decode cX8_psalm 34 = .ok (.ireturn, 1) := by decide +kernel
theorem dX8_psalm_35 : decode cX8_psalm 35 = .ok (.aload_n 0, 1) := by decide +kernel
theorem dX8_psalm_36 : decode cX8_psalm 36 = .ok (.getfield 7, 3) := by decide +kernel
theorem dX8_psalm_39 : decode cX8_psalm 39 = .ok (.iconst 4, 1) := by decide +kernel
theorem dX8_psalm_40 : decode cX8_psalm 40 = .ok (.iaload, 1) := by decide +kernel
theorem dX8_psalm_41 : decode cX8_psalm 41 = .ok (.aload_n 0, 1) := by decide +kernel
theorem dX8_psalm_42 : decode cX8_psalm 42 = .ok (.iload_n 2, 1) := by decide +kernel
theorem dX8_psalm_43 : decode cX8_psalm 43 = .ok (.invokevirtual 307, 3) := by decide +kernel
theorem dX8_psalm_46 : decode cX8_psalm 46 = .ok (.imul, 1) := by decide +kernel
theorem dX8_psalm_47 : decode cX8_psalm 47 = .ok (.istore 4, 2) := by decide +kernel
theorem dX8_psalm_49 : decode cX8_psalm 49 = .ok (.iload_n 3, 1) := by decide +kernel
theorem dX8_psalm_50 : decode cX8_psalm 50 = .ok (.iconst 2, 1) := by decide +kernel
theorem dX8_psalm_51 : decode cX8_psalm 51 = .ok (.if_icmp .ne 13, 3) := by decide +kernel
theorem dX8_psalm_54 : decode cX8_psalm 54 = .ok (.iload 4, 2) := by decide +kernel
theorem dX8_psalm_56 : decode cX8_psalm 56 = .ok (.aload_n 0, 1) := by decide +kernel
theorem dX8_psalm_57 : decode cX8_psalm 57 = .ok (.getfield 7, 3) := by decide +kernel
theorem dX8_psalm_60 : decode cX8_psalm 60 = .ok (.iconst 3, 1) := by decide +kernel
theorem dX8_psalm_61 : decode cX8_psalm 61 = .ok (.iaload, 1) := by decide +kernel
theorem dX8_psalm_62 : decode cX8_psalm 62 = .ok (.idiv, 1) := by decide +kernel
theorem dX8_psalm_63 : decode cX8_psalm 63 = .ok (.ireturn, 1) := by decide +kernel
theorem dX8_psalm_64 : decode cX8_psalm 64 = .ok (.aload_n 0, 1) := by decide +kernel
theorem dX8_psalm_65 : decode cX8_psalm 65 = .ok (.iload_n 2, 1) := by decide +kernel
theorem dX8_psalm_66 : decode cX8_psalm 66 = .ok (.invokevirtual 122, 3) := by decide +kernel
theorem dX8_psalm_69 : decode cX8_psalm 69 = .ok (.iconst 3, 1) := by decide +kernel
theorem dX8_psalm_70 : decode cX8_psalm 70 = .ok (.if_icmp .le 6, 3) := by decide +kernel
theorem dX8_psalm_73 : decode cX8_psalm 73 = .ok (.ldc 90, 2) := by decide +kernel
theorem dX8_psalm_75 : decode cX8_psalm 75 = .ok (.ireturn, 1) := by decide +kernel
theorem dX8_psalm_76 : decode cX8_psalm 76 = .ok (.iconst 1, 1) := by decide +kernel
theorem dX8_psalm_77 : decode cX8_psalm 77 = .ok (.iload_n 3, 1) := by decide +kernel
theorem dX8_psalm_78 : decode cX8_psalm 78 = .ok (.ifCond .ne 15, 3) := by decide +kernel
theorem dX8_psalm_81 : decode cX8_psalm 81 = .ok (.iload 4, 2) := by decide +kernel
theorem dX8_psalm_83 : decode cX8_psalm 83 = .ok (.aload_n 0, 1) := by decide +kernel
theorem dX8_psalm_84 : decode cX8_psalm 84 = .ok (.getfield 7, 3) := by decide +kernel
theorem dX8_psalm_87 : decode cX8_psalm 87 = .ok (.iconst 4, 1) := by decide +kernel
theorem dX8_psalm_88 : decode cX8_psalm 88 = .ok (.iaload, 1) := by decide +kernel
theorem dX8_psalm_89 : decode cX8_psalm 89 = .ok (.isub, 1) := by decide +kernel
theorem dX8_psalm_90 : decode cX8_psalm 90 = .ok (.goto 7, 3) := by decide +kernel
theorem dX8_psalm_93 : decode cX8_psalm 93 = .ok (.iload 4, 2) := by decide +kernel
theorem dX8_psalm_95 : decode cX8_psalm 95 = .ok (.iconst 1, 1) := by decide +kernel
theorem dX8_psalm_96 : decode cX8_psalm 96 = .ok (.isub, 1) := by decide +kernel
theorem dX8_psalm_97 : decode cX8_psalm 97 = .ok (.aload_n 0, 1) := by decide +kernel
theorem dX8_psalm_98 : decode cX8_psalm 98 = .ok (.getfield 7, 3) := by decide +kernel
theorem dX8_psalm_101 : decode cX8_psalm 101 = .ok (.iconst 3, 1) := by decide +kernel
theorem dX8_psalm_102 : decode cX8_psalm 102 = .ok (.iaload, 1) := by decide +kernel
theorem dX8_psalm_103 : decode cX8_psalm 103 = .ok (.irem, 1) := by decide +kernel
theorem dX8_psalm_104 : decode cX8_psalm 104 = .ok (.iadd, 1) := by decide +kernel
theorem dX8_psalm_105 : decode cX8_psalm 105 = .ok (.ireturn, 1) := by decide +kernel
theorem dX3_dayOfReading_0 : decode cX3_dayOfReading 0 = .ok (.lconst 0, 1) := by decide +kernel
theorem dX3_dayOfReading_1 : decode cX3_dayOfReading 1 = .ok (.lstore_n 3, 1) := by decide +kernel
theorem dX3_dayOfReading_2 : decode cX3_dayOfReading 2 = .ok (.iconst 1, 1) := by decide +kernel
theorem dX3_dayOfReading_3 : decode cX3_dayOfReading 3 = .ok (.istore 5, 2) := by decide +kernel
theorem dX3_dayOfReading_5 : decode cX3_dayOfReading 5 = .ok (.iload 5, 2) := by decide +kernel
theorem dX3_dayOfReading_7 : decode cX3_dayOfReading 7 = .ok (.aload_n 0, 1) := by decide +kernel
theorem dX3_dayOfReading_8 : decode cX3_dayOfReading 8 = .ok (.getfield 15, 3) := by decide +kernel
theorem dX3_dayOfReading_11 : decode cX3_dayOfReading 11 = .ok (.getfield 80, 3) := by decide +kernel
theorem dX3_dayOfReading_14 : decode cX3_dayOfReading 14 = .ok (.if_icmp .gt 44, 3) := by decide +kernel
theorem dX3_dayOfReading_17 : decode cX3_dayOfReading 17 = .ok (.lload_n 3, 1) := by decide +kernel
theorem dX3_dayOfReading_18 : decode cX3_dayOfReading 18 = .ok (.aload_n 0, 1) := by decide +kernel
theorem dX3_dayOfReading_19 : decode cX3_dayOfReading 19 = .ok (.iload 5, 2) := by decide +kernel
theorem dX3_dayOfReading_21 : decode cX3_dayOfReading 21 = .ok (.invokevirtual 128, 3) := by decide +kernel
theorem dX3_dayOfReading_24 : decode cX3_dayOfReading 24 = .ok (.ifCond .eq 16, 3) := by decide +kernel
theorem dX3_dayOfReading_27 : decode cX3_dayOfReading 27 = .ok (.aload_n 0, 1) := by decide +kernel
theorem dX3_dayOfReading_28 : decode cX3_dayOfReading 28 = .ok (.getfield 9, 3) := by decide +kernel
theorem dX3_dayOfReading_31 : decode cX3_dayOfReading 31 = .ok (.getfield 131, 3) := by decide +kernel
theorem dX3_dayOfReading_34 : decode cX3_dayOfReading 34 = .ok (.iconst 4, 1) := by decide +kernel
theorem dX3_dayOfReading_35 : decode cX3_dayOfReading 35 = .ok (.iaload, 1) := by decide +kernel
theorem dX3_dayOfReading_36 : decode cX3_dayOfReading 36 = .ok (.i2l, 1) := by decide +kernel
theorem dX3_dayOfReading_37 : decode cX3_dayOfReading 37 = .ok (.goto 4, 3) := by decide +kernel
theorem dX3_dayOfReading_40 : decode cX3_dayOfReading 40 = .ok (.lconst 0, 1) := by decide +kernel
theorem dX3_dayOfReading_41 : decode cX3_dayOfReading 41 = .ok (.ladd, 1) := by decide +kernel
theorem dX3_dayOfReading_42 : decode cX3_dayOfReading 42 = .ok (.lstore_n 3, 1) := by decide +kernel
theorem dX3_dayOfReading_43 : decode cX3_dayOfReading 43 = .ok (.lload_n 3, 1) := by decide +kernel
theorem dX3_dayOfReading_44 : decode cX3_dayOfReading 44 = .ok (.lload_n 1, 1) := by decide +kernel
theorem dX3_dayOfReading_45 : decode cX3_dayOfReading 45 = .ok (.lcmp, 1) := by decide +kernel
theorem dX3_dayOfReading_46 : decode cX3_dayOfReading 46 = .ok (.ifCond .lt 6, 3) := by decide +kernel
theorem dX3_dayOfReading_49 : decode cX3_dayOfReading 49 = .ok (.iload 5, 2) := by decide +kernel
theorem dX3_dayOfReading_51 : decode cX3_dayOfReading 51 = .ok (.ireturn, 1) := by decide +kernel
theorem dX3_dayOfReading_52 : decode cX3_dayOfReading 52 = .ok (.iinc 5 1, 3) := by decide +kernel
theorem dX3_dayOfReading_55 : decode cX3_dayOfReading 55 = .ok (.goto (-50), 3) := by decide +kernel
theorem dX3_dayOfReading_58 : decode cX3_dayOfReading 58 = .ok (.ldc 50, 2) := by decide +kernel
theorem dX3_dayOfReading_60 : decode cX3_dayOfReading 60 = .ok (.ireturn, 1) := by decide +kernel
theorem dX7_read_0 : decode cX7_read 0 = .ok (.aload_n 0, 1) := by decide +kernel
theorem dX7_read_1 : decode cX7_read 1 = .ok (.getfield 36, 3) := by decide +kernel
theorem dX7_read_4 : decode cX7_read 4 = .ok (.getfield 128, 3) := by decide +kernel
theorem dX7_read_7 : decode cX7_read 7 = .ok (.ifCond .ne 6, 3) := by decide +kernel
theorem dX7_read_10 : decode cX7_read 10 = .ok (.ldc 105, 2) := by decide +kernel
theorem dX7_read_12 : decode cX7_read 12 = .ok (.ireturn, 1) := by decide +kernel
theorem dX7_read_13 : decode cX7_read 13 = .ok (.iload_n 1, 1) := by decide +kernel
theorem dX7_read_14 : decode cX7_read 14 = .ok (.invokestatic 153, 3) := by decide +kernel
theorem dX7_read_17 : decode cX7_read 17 = .ok (.ifCond .eq 25, 3) := by decide +kernel
theorem dX7_read_20 : decode cX7_read 20 = .ok (.iload_n 2, 1) := by decide +kernel
theorem dX7_read_21 : decode cX7_read 21 = .ok (.iconst 1, 1) := by decide +kernel
theorem dX7_read_22 : decode cX7_read 22 = .ok (.aload_n 0, 1) := by decide +kernel
theorem dX7_read_23 : decode cX7_read 23 = .ok (.getfield 36, 3) := by decide +kernel
theorem dX7_read_26 : decode cX7_read 26 = .ok (.getfield 141, 3) := by decide +kernel
theorem dX7_read_29 : decode cX7_read 29 = .ok (.iconst 3, 1) := by decide +kernel
theorem dX7_read_30 : decode cX7_read 30 = .ok (.iaload, 1) := by decide +kernel
theorem dX7_read_31 : decode cX7_read 31 = .ok (.invokestatic 68, 3) := by decide +kernel
theorem dX7_read_34 : decode cX7_read 34 = .ok (.ifCond .eq 8, 3) := by decide +kernel
theorem dX7_read_37 : decode cX7_read 37 = .ok (.iload_n 3, 1) := by decide +kernel
theorem dX7_read_38 : decode cX7_read 38 = .ok (.iconst 1, 1) := by decide +kernel
theorem dX7_read_39 : decode cX7_read 39 = .ok (.if_icmp .ge 6, 3) := by decide +kernel
theorem dX7_read_42 : decode cX7_read 42 = .ok (.ldc 72, 2) := by decide +kernel
theorem dX7_read_44 : decode cX7_read 44 = .ok (.ireturn, 1) := by decide +kernel
theorem dX7_read_45 : decode cX7_read 45 = .ok (.aload_n 0, 1) := by decide +kernel
theorem dX7_read_46 : decode cX7_read 46 = .ok (.getfield 51, 3) := by decide +kernel
theorem dX7_read_49 : decode cX7_read 49 = .ok (.iload_n 1, 1) := by decide +kernel
theorem dX7_read_50 : decode cX7_read 50 = .ok (.iconst (-1), 1) := by decide +kernel
theorem dX7_read_51 : decode cX7_read 51 = .ok (.invokevirtual 156, 3) := by decide +kernel
theorem dX7_read_54 : decode cX7_read 54 = .ok (.iload_n 3, 1) := by decide +kernel
theorem dX7_read_55 : decode cX7_read 55 = .ok (.i2l, 1) := by decide +kernel
theorem dX7_read_56 : decode cX7_read 56 = .ok (.lconst 1, 1) := by decide +kernel
theorem dX7_read_57 : decode cX7_read 57 = .ok (.lsub, 1) := by decide +kernel
theorem dX7_read_58 : decode cX7_read 58 = .ok (.aload_n 0, 1) := by decide +kernel
theorem dX7_read_59 : decode cX7_read 59 = .ok (.getfield 36, 3) := by decide +kernel
theorem dX7_read_62 : decode cX7_read 62 = .ok (.getfield 141, 3) := by decide +kernel
theorem dX7_read_65 : decode cX7_read 65 = .ok (.iconst 3, 1) := by decide +kernel
theorem dX7_read_66 : decode cX7_read 66 = .ok (.iaload, 1) := by decide +kernel
theorem dX7_read_67 : decode cX7_read 67 = .ok (.i2l, 1) := by decide +kernel
theorem dX7_read_68 : decode cX7_read 68 = .ok (.lmul, 1) := by decide +kernel
theorem dX7_read_69 : decode cX7_read 69 = .ok (.iload_n 2, 1) := by decide +kernel
theorem dX7_read_70 : decode cX7_read 70 = .ok (.i2l, 1) := by decide +kernel
theorem dX7_read_71 : decode cX7_read 71 = .ok (.ladd, 1) := by decide +kernel
theorem dX7_read_72 : decode cX7_read 72 = .ok (.lstore 4, 2) := by decide +kernel
theorem dX7_read_74 : decode cX7_read 74 = .ok (.aload_n 0, 1) := by decide +kernel
theorem dX7_read_75 : decode cX7_read 75 = .ok (.getfield 51, 3) := by decide +kernel
theorem dX7_read_78 : decode cX7_read 78 = .ok (.lload 4, 2) := by decide +kernel
theorem dX7_read_80 : decode cX7_read 80 = .ok (.invokevirtual 236, 3) := by decide +kernel
theorem dX7_read_83 : decode cX7_read 83 = .ok (.ireturn, 1) := by decide +kernel
theorem dX8_read_0 : decode cX8_read 0 = .ok (.aload_n 0, 1) := by decide +kernel
theorem dX8_read_1 : decode cX8_read 1 = .ok (.invokevirtual 261, 3) := by decide +kernel
theorem dX8_read_4 : decode cX8_read 4 = .ok (.ifCond .ne 6, 3) := by decide +kernel
theorem dX8_read_7 : decode cX8_read 7 = .ok (.ldc 238, 2) := by decide +kernel
theorem dX8_read_9 : decode cX8_read 9 = .ok (.ireturn, 1) := by decide +kernel
theorem dX8_read_10 : decode cX8_read 10 = .ok (.iload_n 1, 1) := by decide +kernel
theorem dX8_read_11 : decode cX8_read 11 = .ok (.invokestatic 283, 3) := by decide +kernel
theorem dX8_read_14 : decode cX8_read 14 = .ok (.ifCond .eq 24, 3) := by decide +kernel
theorem dX8_read_17 : decode cX8_read 17 = .ok (.iload_n 2, 1) := by decide +kernel
theorem dX8_read_18 : decode cX8_read 18 = .ok (.i2l, 1) := by decide +kernel
theorem dX8_read_19 : decode cX8_read 19 = .ok (.lconst 1, 1) := by decide +kernel
theorem dX8_read_20 : decode cX8_read 20 = .ok (.aload_n 0, 1) := by decide +kernel
theorem dX8_read_21 : decode cX8_read 21 = .ok (.getfield 7, 3) := by decide +kernel
theorem dX8_read_24 : decode cX8_read 24 = .ok (.iconst 3, 1) := by decide +kernel
theorem dX8_read_25 : decode cX8_read 25 = .ok (.iaload, 1) := by decide +kernel
theorem dX8_read_26 : decode cX8_read 26 = .ok (.i2l, 1) := by decide +kernel
theorem dX8_read_27 : decode cX8_read 27 = .ok (.invokestatic 55, 3) := by decide +kernel
theorem dX8_read_30 : decode cX8_read 30 = .ok (.ifCond .eq 8, 3) := by decide +kernel
theorem dX8_read_33 : decode cX8_read 33 = .ok (.iload_n 3, 1) := by decide +kernel
theorem dX8_read_34 : decode cX8_read 34 = .ok (.iconst 1, 1) := by decide +kernel
theorem dX8_read_35 : decode cX8_read 35 = .ok (.if_icmp .ge 6, 3) := by decide +kernel
theorem dX8_read_38 : decode cX8_read 38 = .ok (.ldc 209, 2) := by decide +kernel
theorem dX8_read_40 : decode cX8_read 40 = .ok (.ireturn, 1) := by decide +kernel
theorem dX8_read_41 : decode cX8_read 41 = .ok (.aload_n 0, 1) := by decide +kernel
theorem dX8_read_42 : decode cX8_read 42 = .ok (.iload_n 1, 1) := by decide +kernel
theorem dX8_read_43 : decode cX8_read 43 = .ok (.ldc 90, 2) := by decide +kernel
theorem dX8_read_45 : decode cX8_read 45 = .ok (.invokevirtual 288, 3) := by decide +kernel
theorem dX8_read_48 : decode cX8_read 48 = .ok (.iload_n 3, 1) := by decide +kernel
theorem dX8_read_49 : decode cX8_read 49 = .ok (.i2l, 1) := by decide +kernel
theorem dX8_read_50 : decode cX8_read 50 = .ok (.lconst 1, 1) := by decide +kernel
theorem dX8_read_51 : decode cX8_read 51 = .ok (.lsub, 1) := by decide +kernel
theorem dX8_read_52 : decode cX8_read 52 = .ok (.aload_n 0, 1) := by decide +kernel
theorem dX8_read_53 : decode cX8_read 53 = .ok (.getfield 7, 3) := by decide +kernel
theorem dX8_read_56 : decode cX8_read 56 = .ok (.iconst 3, 1) := by decide +kernel
theorem dX8_read_57 : decode cX8_read 57 = .ok (.iaload, 1) := by decide +kernel
theorem dX8_read_58 : decode cX8_read 58 = .ok (.i2l, 1) := by decide +kernel
theorem dX8_read_59 : decode cX8_read 59 = .ok (.lmul, 1) := by decide +kernel
theorem dX8_read_60 : decode cX8_read 60 = .ok (.iload_n 2, 1) := by decide +kernel
theorem dX8_read_61 : decode cX8_read 61 = .ok (.i2l, 1) := by decide +kernel
theorem dX8_read_62 : decode cX8_read 62 = .ok (.ladd, 1) := by decide +kernel
theorem dX8_read_63 : decode cX8_read 63 = .ok (.lstore 4, 2) := by decide +kernel
theorem dX8_read_65 : decode cX8_read 65 = .ok (.iconst 1, 1) := by decide +kernel
theorem dX8_read_66 : decode cX8_read 66 = .ok (.istore 6, 2) := by decide +kernel
theorem dX8_read_68 : decode cX8_read 68 = .ok (.iload 6, 2) := by decide +kernel
theorem dX8_read_70 : decode cX8_read 70 = .ok (.aload_n 0, 1) := by decide +kernel
theorem dX8_read_71 : decode cX8_read 71 = .ok (.getfield 71, 3) := by decide +kernel
theorem dX8_read_74 : decode cX8_read 74 = .ok (.if_icmp .gt 45, 3) := by decide +kernel
theorem dX8_read_77 : decode cX8_read 77 = .ok (.lload 4, 2) := by decide +kernel
theorem dX8_read_79 : decode cX8_read 79 = .ok (.aload_n 0, 1) := by decide +kernel
theorem dX8_read_80 : decode cX8_read 80 = .ok (.iload 6, 2) := by decide +kernel
theorem dX8_read_82 : decode cX8_read 82 = .ok (.invokevirtual 122, 3) := by decide +kernel
theorem dX8_read_85 : decode cX8_read 85 = .ok (.iconst 3, 1) := by decide +kernel
theorem dX8_read_86 : decode cX8_read 86 = .ok (.if_icmp .gt 13, 3) := by decide +kernel
theorem dX8_read_89 : decode cX8_read 89 = .ok (.aload_n 0, 1) := by decide +kernel
theorem dX8_read_90 : decode cX8_read 90 = .ok (.getfield 7, 3) := by decide +kernel
theorem dX8_read_93 : decode cX8_read 93 = .ok (.iconst 4, 1) := by decide +kernel
theorem dX8_read_94 : decode cX8_read 94 = .ok (.iaload, 1) := by decide +kernel
theorem dX8_read_95 : decode cX8_read 95 = .ok (.i2l, 1) := by decide +kernel
theorem dX8_read_96 : decode cX8_read 96 = .ok (.goto 4, 3) := by decide +kernel
theorem dX8_read_99 : decode cX8_read 99 = .ok (.lconst 0, 1) := by decide +kernel
theorem dX8_read_100 : decode cX8_read 100 = .ok (.lsub, 1) := by decide +kernel
theorem dX8_read_101 : decode cX8_read 101 = .ok (.lstore 4, 2) := by decide +kernel
theorem dX8_read_103 : decode cX8_read 103 = .ok (.lload 4, 2) := by decide +kernel
theorem dX8_read_105 : decode cX8_read 105 = .ok (.lconst 0, 1) := by decide +kernel
theorem dX8_read_106 : decode cX8_read 106 = .ok (.lcmp, 1) := by decide +kernel
theorem dX8_read_107 : decode cX8_read 107 = .ok (.ifCond .gt 6, 3) := by decide +kernel
theorem dX8_read_110 : decode cX8_read 110 = .ok (.iload 6, 2) := by decide +kernel
theorem dX8_read_112 : decode cX8_read 112 = .ok (.ireturn, 1) := by decide +kernel
theorem dX8_read_113 : decode cX8_read 113 = .ok (.iinc 6 1, 3) := by decide +kernel
theorem dX8_read_116 : decode cX8_read 116 = .ok (.goto (-48), 3) := by decide +kernel
theorem dX8_read_119 : decode cX8_read 119 = .ok (.ldc 90, 2) := by decide +kernel
theorem dX8_read_121 : decode cX8_read 121 = .ok (.ireturn, 1) := by decide +kernel
theorem dX7_sings_0 : decode cX7_sings 0 = .ok (.aload_n 0, 1) := by decide +kernel
theorem dX7_sings_1 : decode cX7_sings 1 = .ok (.getfield 36, 3) := by decide +kernel
theorem dX7_sings_4 : decode cX7_sings 4 = .ok (.getfield 128, 3) := by decide +kernel
theorem dX7_sings_7 : decode cX7_sings 7 = .ok (.ifCond .ne 6, 3) := by decide +kernel
theorem dX7_sings_10 : decode cX7_sings 10 = .ok (.ldc 105, 2) := by decide +kernel
theorem dX7_sings_12 : decode cX7_sings 12 = .ok (.ireturn, 1) := by decide +kernel
theorem dX7_sings_13 : decode cX7_sings 13 = .ok (.aload_n 0, 1) := by decide +kernel
theorem dX7_sings_14 : decode cX7_sings 14 = .ok (.iload_n 1, 1) := by decide +kernel
theorem dX7_sings_15 : decode cX7_sings 15 = .ok (.iload_n 2, 1) := by decide +kernel
theorem dX7_sings_16 : decode cX7_sings 16 = .ok (.invokevirtual 193, 3) := by decide +kernel
theorem dX7_sings_19 : decode cX7_sings 19 = .ok (.ifCond .eq 7, 3) := by decide +kernel
theorem dX7_sings_22 : decode cX7_sings 22 = .ok (.iload_n 3, 1) := by decide +kernel
theorem dX7_sings_23 : decode cX7_sings 23 = .ok (.ifCond .ge 6, 3) := by decide +kernel
theorem dX7_sings_26 : decode cX7_sings 26 = .ok (.ldc 72, 2) := by decide +kernel
theorem dX7_sings_28 : decode cX7_sings 28 = .ok (.ireturn, 1) := by decide +kernel
theorem dX7_sings_29 : decode cX7_sings 29 = .ok (.aload_n 0, 1) := by decide +kernel
theorem dX7_sings_30 : decode cX7_sings 30 = .ok (.getfield 51, 3) := by decide +kernel
theorem dX7_sings_33 : decode cX7_sings 33 = .ok (.iload_n 1, 1) := by decide +kernel
theorem dX7_sings_34 : decode cX7_sings 34 = .ok (.iconst (-1), 1) := by decide +kernel
theorem dX7_sings_35 : decode cX7_sings 35 = .ok (.invokevirtual 156, 3) := by decide +kernel
theorem dX7_sings_38 : decode cX7_sings 38 = .ok (.iload_n 3, 1) := by decide +kernel
theorem dX7_sings_39 : decode cX7_sings 39 = .ok (.aload_n 0, 1) := by decide +kernel
theorem dX7_sings_40 : decode cX7_sings 40 = .ok (.getfield 51, 3) := by decide +kernel
theorem dX7_sings_43 : decode cX7_sings 43 = .ok (.iload_n 2, 1) := by decide +kernel
theorem dX7_sings_44 : decode cX7_sings 44 = .ok (.invokevirtual 210, 3) := by decide +kernel
theorem dX7_sings_47 : decode cX7_sings 47 = .ok (.if_icmp .ge 8, 3) := by decide +kernel
theorem dX7_sings_50 : decode cX7_sings 50 = .ok (.iload_n 3, 1) := by decide +kernel
theorem dX7_sings_51 : decode cX7_sings 51 = .ok (.iconst 4, 1) := by decide +kernel
theorem dX7_sings_52 : decode cX7_sings 52 = .ok (.if_icmp .lt 6, 3) := by decide +kernel
theorem dX7_sings_55 : decode cX7_sings 55 = .ok (.ldc 203, 2) := by decide +kernel
theorem dX7_sings_57 : decode cX7_sings 57 = .ok (.ireturn, 1) := by decide +kernel
theorem dX7_sings_58 : decode cX7_sings 58 = .ok (.aload_n 0, 1) := by decide +kernel
theorem dX7_sings_59 : decode cX7_sings 59 = .ok (.getfield 60, 3) := by decide +kernel
theorem dX7_sings_62 : decode cX7_sings 62 = .ok (.aload_n 0, 1) := by decide +kernel
theorem dX7_sings_63 : decode cX7_sings 63 = .ok (.getfield 36, 3) := by decide +kernel
theorem dX7_sings_66 : decode cX7_sings 66 = .ok (.getfield 141, 3) := by decide +kernel
theorem dX7_sings_69 : decode cX7_sings 69 = .ok (.iconst 5, 1) := by decide +kernel
theorem dX7_sings_70 : decode cX7_sings 70 = .ok (.iaload, 1) := by decide +kernel
theorem dX7_sings_71 : decode cX7_sings 71 = .ok (.iload_n 2, 1) := by decide +kernel
theorem dX7_sings_72 : decode cX7_sings 72 = .ok (.invokevirtual 187, 3) := by decide +kernel
theorem dX7_sings_75 : decode cX7_sings 75 = .ok (.aload_n 0, 1) := by decide +kernel
theorem dX7_sings_76 : decode cX7_sings 76 = .ok (.getfield 60, 3) := by decide +kernel
theorem dX7_sings_79 : decode cX7_sings 79 = .ok (.getfield 240, 3) := by decide +kernel
theorem dX7_sings_82 : decode cX7_sings 82 = .ok (.iload_n 3, 1) := by decide +kernel
theorem dX7_sings_83 : decode cX7_sings 83 = .ok (.iaload, 1) := by decide +kernel
theorem dX7_sings_84 : decode cX7_sings 84 = .ok (.iconst (-1), 1) := by decide +kernel
theorem dX7_sings_85 : decode cX7_sings 85 = .ok (.if_icmp .ne 8, 3) := by decide +kernel
theorem dX7_sings_88 : decode cX7_sings 88 = .ok (.ldc 203, 2) := by decide +kernel
theorem dX7_sings_90 : decode cX7_sings 90 = .ok (.goto 12, 3) := by decide +kernel
theorem dX7_sings_93 : decode cX7_sings 93 = .ok (.aload_n 0, 1) := by decide +kernel
theorem dX7_sings_94 : decode cX7_sings 94 = .ok (.getfield 60, 3) := by decide +kernel
theorem dX7_sings_97 : decode cX7_sings 97 = .ok (.getfield 240, 3) := by decide +kernel
theorem dX7_sings_100 : decode cX7_sings 100 = .ok (.iload_n 3, 1) := by decide +kernel
theorem dX7_sings_101 : decode cX7_sings 101 = .ok (.iaload, 1) := by decide +kernel
theorem dX7_sings_102 : decode cX7_sings 102 = .ok (.ireturn, 1) := by decide +kernel
theorem dX8_sings_0 : decode cX8_sings 0 = .ok (.aload_n 0, 1) := by decide +kernel
theorem dX8_sings_1 : decode cX8_sings 1 = .ok (.invokevirtual 261, 3) := by decide +kernel
theorem dX8_sings_4 : decode cX8_sings 4 = .ok (.ifCond .ne 6, 3) := by decide +kernel
theorem dX8_sings_7 : decode cX8_sings 7 = .ok (.ldc 238, 2) := by decide +kernel
theorem dX8_sings_9 : decode cX8_sings 9 = .ok (.ireturn, 1) := by decide +kernel
theorem dX8_sings_10 : decode cX8_sings 10 = .ok (.iload_n 3, 1) := by decide +kernel
theorem dX8_sings_11 : decode cX8_sings 11 = .ok (.ifCond .lt 13, 3) := by decide +kernel
theorem dX8_sings_14 : decode cX8_sings 14 = .ok (.aload_n 0, 1) := by decide +kernel
theorem dX8_sings_15 : decode cX8_sings 15 = .ok (.iload_n 1, 1) := by decide +kernel
theorem dX8_sings_16 : decode cX8_sings 16 = .ok (.iload_n 2, 1) := by decide +kernel
theorem dX8_sings_17 : decode cX8_sings 17 = .ok (.iconst 1, 1) := by decide +kernel
theorem dX8_sings_18 : decode cX8_sings 18 = .ok (.invokevirtual 298, 3) := by decide +kernel
theorem dX8_sings_21 : decode cX8_sings 21 = .ok (.ifCond .ne 6, 3) := by decide +kernel
theorem dX8_sings_24 : decode cX8_sings 24 = .ok (.ldc 209, 2) := by decide +kernel
theorem dX8_sings_26 : decode cX8_sings 26 = .ok (.ireturn, 1) := by decide +kernel
theorem dX8_sings_27 : decode cX8_sings 27 = .ok (.iload_n 3, 1) := by decide +kernel
theorem dX8_sings_28 : decode cX8_sings 28 = .ok (.aload_n 0, 1) := by decide +kernel
theorem dX8_sings_29 : decode cX8_sings 29 = .ok (.iload_n 2, 1) := by decide +kernel
theorem dX8_sings_30 : decode cX8_sings 30 = .ok (.invokevirtual 141, 3) := by decide +kernel
theorem dX8_sings_33 : decode cX8_sings 33 = .ok (.if_icmp .lt 6, 3) := by decide +kernel
theorem dX8_sings_36 : decode cX8_sings 36 = .ok (.ldc 90, 2) := by decide +kernel
theorem dX8_sings_38 : decode cX8_sings 38 = .ok (.ireturn, 1) := by decide +kernel
theorem dX8_sings_39 : decode cX8_sings 39 = .ok (.aload_n 0, 1) := by decide +kernel
theorem dX8_sings_40 : decode cX8_sings 40 = .ok (.aload_n 0, 1) := by decide +kernel
theorem dX8_sings_41 : decode cX8_sings 41 = .ok (.getfield 7, 3) := by decide +kernel
theorem dX8_sings_44 : decode cX8_sings 44 = .ok (.iconst 5, 1) := by decide +kernel
theorem dX8_sings_45 : decode cX8_sings 45 = .ok (.iaload, 1) := by decide +kernel
theorem dX8_sings_46 : decode cX8_sings 46 = .ok (.iload_n 2, 1) := by decide +kernel
theorem dX8_sings_47 : decode cX8_sings 47 = .ok (.invokevirtual 148, 3) := by decide +kernel
theorem dX8_sings_50 : decode cX8_sings 50 = .ok (.aload_n 0, 1) := by decide +kernel
theorem dX8_sings_51 : decode cX8_sings 51 = .ok (.getfield 50, 3) := by decide +kernel
theorem dX8_sings_54 : decode cX8_sings 54 = .ok (.iload_n 3, 1) := by decide +kernel
theorem dX8_sings_55 : decode cX8_sings 55 = .ok (.iaload, 1) := by decide +kernel
theorem dX8_sings_56 : decode cX8_sings 56 = .ok (.ireturn, 1) := by decide +kernel
theorem dX7_duties_0 : decode cX7_duties 0 = .ok (.aload_n 0, 1) := by decide +kernel
theorem dX7_duties_1 : decode cX7_duties 1 = .ok (.getfield 36, 3) := by decide +kernel
theorem dX7_duties_4 : decode cX7_duties 4 = .ok (.iload_n 1, 1) := by decide +kernel
theorem dX7_duties_5 : decode cX7_duties 5 = .ok (.invokevirtual 144, 3) := by decide +kernel
theorem dX7_duties_8 : decode cX7_duties 8 = .ok (.ifCond .eq 23, 3) := by decide +kernel
theorem dX7_duties_11 : decode cX7_duties 11 = .ok (.iload_n 3, 1) := by decide +kernel
theorem dX7_duties_12 : decode cX7_duties 12 = .ok (.ifCond .ne 10, 3) := by decide +kernel
theorem dX7_duties_15 : decode cX7_duties 15 = .ok (.iload_n 2, 1) := by decide +kernel
theorem dX7_duties_16 : decode cX7_duties 16 = .ok (.invokestatic 153, 3) := by decide +kernel
theorem dX7_duties_19 : decode cX7_duties 19 = .ok (.ifCond .ne 15, 3) := by decide +kernel
theorem dX7_duties_22 : decode cX7_duties 22 = .ok (.aload_n 0, 1) := by decide +kernel
theorem dX7_duties_23 : decode cX7_duties 23 = .ok (.iload_n 2, 1) := by decide +kernel
theorem dX7_duties_24 : decode cX7_duties 24 = .ok (.iload_n 3, 1) := by decide +kernel
theorem dX7_duties_25 : decode cX7_duties 25 = .ok (.invokevirtual 193, 3) := by decide +kernel
theorem dX7_duties_28 : decode cX7_duties 28 = .ok (.ifCond .ne 6, 3) := by decide +kernel
theorem dX7_duties_31 : decode cX7_duties 31 = .ok (.ldc 72, 2) := by decide +kernel
theorem dX7_duties_33 : decode cX7_duties 33 = .ok (.ireturn, 1) := by decide +kernel
theorem dX7_duties_34 : decode cX7_duties 34 = .ok (.aload_n 0, 1) := by decide +kernel
theorem dX7_duties_35 : decode cX7_duties 35 = .ok (.getfield 51, 3) := by decide +kernel
theorem dX7_duties_38 : decode cX7_duties 38 = .ok (.iload_n 2, 1) := by decide +kernel
theorem dX7_duties_39 : decode cX7_duties 39 = .ok (.iconst (-1), 1) := by decide +kernel
theorem dX7_duties_40 : decode cX7_duties 40 = .ok (.invokevirtual 156, 3) := by decide +kernel
theorem dX7_duties_43 : decode cX7_duties 43 = .ok (.aload_n 0, 1) := by decide +kernel
theorem dX7_duties_44 : decode cX7_duties 44 = .ok (.getfield 60, 3) := by decide +kernel
theorem dX7_duties_47 : decode cX7_duties 47 = .ok (.aload_n 0, 1) := by decide +kernel
theorem dX7_duties_48 : decode cX7_duties 48 = .ok (.getfield 36, 3) := by decide +kernel
theorem dX7_duties_51 : decode cX7_duties 51 = .ok (.getfield 141, 3) := by decide +kernel
theorem dX7_duties_54 : decode cX7_duties 54 = .ok (.iconst 5, 1) := by decide +kernel
theorem dX7_duties_55 : decode cX7_duties 55 = .ok (.iaload, 1) := by decide +kernel
theorem dX7_duties_56 : decode cX7_duties 56 = .ok (.iload_n 3, 1) := by decide +kernel
theorem dX7_duties_57 : decode cX7_duties 57 = .ok (.invokevirtual 187, 3) := by decide +kernel
theorem dX7_duties_60 : decode cX7_duties 60 = .ok (.aload_n 0, 1) := by decide +kernel
theorem dX7_duties_61 : decode cX7_duties 61 = .ok (.getfield 60, 3) := by decide +kernel
theorem dX7_duties_64 : decode cX7_duties 64 = .ok (.getfield 243, 3) := by decide +kernel
theorem dX7_duties_67 : decode cX7_duties 67 = .ok (.iload_n 1, 1) := by decide +kernel
theorem dX7_duties_68 : decode cX7_duties 68 = .ok (.iaload, 1) := by decide +kernel
theorem dX7_duties_69 : decode cX7_duties 69 = .ok (.ireturn, 1) := by decide +kernel
theorem dX8_duties_0 : decode cX8_duties 0 = .ok (.aload_n 0, 1) := by decide +kernel
theorem dX8_duties_1 : decode cX8_duties 1 = .ok (.iload_n 1, 1) := by decide +kernel
theorem dX8_duties_2 : decode cX8_duties 2 = .ok (.invokevirtual 278, 3) := by decide +kernel
theorem dX8_duties_5 : decode cX8_duties 5 = .ok (.ifCond .eq 13, 3) := by decide +kernel
theorem dX8_duties_8 : decode cX8_duties 8 = .ok (.aload_n 0, 1) := by decide +kernel
theorem dX8_duties_9 : decode cX8_duties 9 = .ok (.iload_n 2, 1) := by decide +kernel
theorem dX8_duties_10 : decode cX8_duties 10 = .ok (.iload_n 3, 1) := by decide +kernel
theorem dX8_duties_11 : decode cX8_duties 11 = .ok (.iconst 0, 1) := by decide +kernel
theorem dX8_duties_12 : decode cX8_duties 12 = .ok (.invokevirtual 298, 3) := by decide +kernel
theorem dX8_duties_15 : decode cX8_duties 15 = .ok (.ifCond .ne 6, 3) := by decide +kernel
theorem dX8_duties_18 : decode cX8_duties 18 = .ok (.ldc 209, 2) := by decide +kernel
theorem dX8_duties_20 : decode cX8_duties 20 = .ok (.ireturn, 1) := by decide +kernel
theorem dX8_duties_21 : decode cX8_duties 21 = .ok (.aload_n 0, 1) := by decide +kernel
theorem dX8_duties_22 : decode cX8_duties 22 = .ok (.aload_n 0, 1) := by decide +kernel
theorem dX8_duties_23 : decode cX8_duties 23 = .ok (.getfield 7, 3) := by decide +kernel
theorem dX8_duties_26 : decode cX8_duties 26 = .ok (.iconst 5, 1) := by decide +kernel
theorem dX8_duties_27 : decode cX8_duties 27 = .ok (.iaload, 1) := by decide +kernel
theorem dX8_duties_28 : decode cX8_duties 28 = .ok (.iload_n 3, 1) := by decide +kernel
theorem dX8_duties_29 : decode cX8_duties 29 = .ok (.invokevirtual 148, 3) := by decide +kernel
theorem dX8_duties_32 : decode cX8_duties 32 = .ok (.aload_n 0, 1) := by decide +kernel
theorem dX8_duties_33 : decode cX8_duties 33 = .ok (.getfield 44, 3) := by decide +kernel
theorem dX8_duties_36 : decode cX8_duties 36 = .ok (.iload_n 1, 1) := by decide +kernel
theorem dX8_duties_37 : decode cX8_duties 37 = .ok (.iaload, 1) := by decide +kernel
theorem dX8_duties_38 : decode cX8_duties 38 = .ok (.ireturn, 1) := by decide +kernel
theorem dX5_gap_0 : decode cX5_gap 0 = .ok (.aload_n 0, 1) := by decide +kernel
theorem dX5_gap_1 : decode cX5_gap 1 = .ok (.getfield 19, 3) := by decide +kernel
theorem dX5_gap_4 : decode cX5_gap 4 = .ok (.iconst 0, 1) := by decide +kernel
theorem dX5_gap_5 : decode cX5_gap 5 = .ok (.iaload, 1) := by decide +kernel
theorem dX5_gap_6 : decode cX5_gap 6 = .ok (.istore_n 1, 1) := by decide +kernel
theorem dX5_gap_7 : decode cX5_gap 7 = .ok (.aload_n 0, 1) := by decide +kernel
theorem dX5_gap_8 : decode cX5_gap 8 = .ok (.getfield 19, 3) := by decide +kernel
theorem dX5_gap_11 : decode cX5_gap 11 = .ok (.iconst 0, 1) := by decide +kernel
theorem dX5_gap_12 : decode cX5_gap 12 = .ok (.iaload, 1) := by decide +kernel
theorem dX5_gap_13 : decode cX5_gap 13 = .ok (.istore_n 2, 1) := by decide +kernel
theorem dX5_gap_14 : decode cX5_gap 14 = .ok (.iconst 1, 1) := by decide +kernel
theorem dX5_gap_15 : decode cX5_gap 15 = .ok (.istore_n 3, 1) := by decide +kernel
theorem dX5_gap_16 : decode cX5_gap 16 = .ok (.iload_n 3, 1) := by decide +kernel
theorem dX5_gap_17 : decode cX5_gap 17 = .ok (.aload_n 0, 1) := by decide +kernel
theorem dX5_gap_18 : decode cX5_gap 18 = .ok (.getfield 9, 3) := by decide +kernel
theorem dX5_gap_21 : decode cX5_gap 21 = .ok (.getfield 69, 3) := by decide +kernel
theorem dX5_gap_24 : decode cX5_gap 24 = .ok (.if_icmp .ge 31, 3) := by decide +kernel
theorem dX5_gap_27 : decode cX5_gap 27 = .ok (.iload_n 1, 1) := by decide +kernel
theorem dX5_gap_28 : decode cX5_gap 28 = .ok (.aload_n 0, 1) := by decide +kernel
theorem dX5_gap_29 : decode cX5_gap 29 = .ok (.getfield 19, 3) := by decide +kernel
theorem dX5_gap_32 : decode cX5_gap 32 = .ok (.iload_n 3, 1) := by decide +kernel
theorem dX5_gap_33 : decode cX5_gap 33 = .ok (.iaload, 1) := by decide +kernel
theorem dX5_gap_34 : decode cX5_gap 34 = .ok (.invokestatic 82, 3) := by decide +kernel
theorem dX5_gap_37 : decode cX5_gap 37 = .ok (.istore_n 1, 1) := by decide +kernel
theorem dX5_gap_38 : decode cX5_gap 38 = .ok (.iload_n 2, 1) := by decide +kernel
theorem dX5_gap_39 : decode cX5_gap 39 = .ok (.aload_n 0, 1) := by decide +kernel
theorem dX5_gap_40 : decode cX5_gap 40 = .ok (.getfield 19, 3) := by decide +kernel
theorem dX5_gap_43 : decode cX5_gap 43 = .ok (.iload_n 3, 1) := by decide +kernel
theorem dX5_gap_44 : decode cX5_gap 44 = .ok (.iaload, 1) := by decide +kernel
theorem dX5_gap_45 : decode cX5_gap 45 = .ok (.invokestatic 55, 3) := by decide +kernel
theorem dX5_gap_48 : decode cX5_gap 48 = .ok (.istore_n 2, 1) := by decide +kernel
theorem dX5_gap_49 : decode cX5_gap 49 = .ok (.iinc 3 1, 3) := by decide +kernel
theorem dX5_gap_52 : decode cX5_gap 52 = .ok (.goto (-36), 3) := by decide +kernel
theorem dX5_gap_55 : decode cX5_gap 55 = .ok (.iload_n 1, 1) := by decide +kernel
theorem dX5_gap_56 : decode cX5_gap 56 = .ok (.iload_n 2, 1) := by decide +kernel
theorem dX5_gap_57 : decode cX5_gap 57 = .ok (.isub, 1) := by decide +kernel
theorem dX5_gap_58 : decode cX5_gap 58 = .ok (.ireturn, 1) := by decide +kernel
theorem dX7_fair_0 : decode cX7_fair 0 = .ok (.aload_n 0, 1) := by decide +kernel
theorem dX7_fair_1 : decode cX7_fair 1 = .ok (.getfield 36, 3) := by decide +kernel
theorem dX7_fair_4 : decode cX7_fair 4 = .ok (.getfield 128, 3) := by decide +kernel
theorem dX7_fair_7 : decode cX7_fair 7 = .ok (.ifCond .ne 6, 3) := by decide +kernel
theorem dX7_fair_10 : decode cX7_fair 10 = .ok (.ldc 105, 2) := by decide +kernel
theorem dX7_fair_12 : decode cX7_fair 12 = .ok (.ireturn, 1) := by decide +kernel
theorem dX7_fair_13 : decode cX7_fair 13 = .ok (.iload_n 1, 1) := by decide +kernel
theorem dX7_fair_14 : decode cX7_fair 14 = .ok (.invokestatic 153, 3) := by decide +kernel
theorem dX7_fair_17 : decode cX7_fair 17 = .ok (.ifCond .ne 6, 3) := by decide +kernel
theorem dX7_fair_20 : decode cX7_fair 20 = .ok (.ldc 72, 2) := by decide +kernel
theorem dX7_fair_22 : decode cX7_fair 22 = .ok (.ireturn, 1) := by decide +kernel
theorem dX7_fair_23 : decode cX7_fair 23 = .ok (.aload_n 0, 1) := by decide +kernel
theorem dX7_fair_24 : decode cX7_fair 24 = .ok (.getfield 51, 3) := by decide +kernel
theorem dX7_fair_27 : decode cX7_fair 27 = .ok (.iload_n 1, 1) := by decide +kernel
theorem dX7_fair_28 : decode cX7_fair 28 = .ok (.iconst (-1), 1) := by decide +kernel
theorem dX7_fair_29 : decode cX7_fair 29 = .ok (.invokevirtual 156, 3) := by decide +kernel
theorem dX7_fair_32 : decode cX7_fair 32 = .ok (.aload_n 0, 1) := by decide +kernel
theorem dX7_fair_33 : decode cX7_fair 33 = .ok (.getfield 60, 3) := by decide +kernel
theorem dX7_fair_36 : decode cX7_fair 36 = .ok (.aload_n 0, 1) := by decide +kernel
theorem dX7_fair_37 : decode cX7_fair 37 = .ok (.getfield 36, 3) := by decide +kernel
theorem dX7_fair_40 : decode cX7_fair 40 = .ok (.getfield 141, 3) := by decide +kernel
theorem dX7_fair_43 : decode cX7_fair 43 = .ok (.iconst 5, 1) := by decide +kernel
theorem dX7_fair_44 : decode cX7_fair 44 = .ok (.iaload, 1) := by decide +kernel
theorem dX7_fair_45 : decode cX7_fair 45 = .ok (.aload_n 0, 1) := by decide +kernel
theorem dX7_fair_46 : decode cX7_fair 46 = .ok (.getfield 51, 3) := by decide +kernel
theorem dX7_fair_49 : decode cX7_fair 49 = .ok (.getfield 160, 3) := by decide +kernel
theorem dX7_fair_52 : decode cX7_fair 52 = .ok (.getfield 164, 3) := by decide +kernel
theorem dX7_fair_55 : decode cX7_fair 55 = .ok (.invokevirtual 187, 3) := by decide +kernel
theorem dX7_fair_58 : decode cX7_fair 58 = .ok (.aload_n 0, 1) := by decide +kernel
theorem dX7_fair_59 : decode cX7_fair 59 = .ok (.getfield 60, 3) := by decide +kernel
theorem dX7_fair_62 : decode cX7_fair 62 = .ok (.invokevirtual 246, 3) := by decide +kernel
theorem dX7_fair_65 : decode cX7_fair 65 = .ok (.ireturn, 1) := by decide +kernel
theorem dX8_unfair_0 : decode cX8_unfair 0 = .ok (.aload_n 0, 1) := by decide +kernel
theorem dX8_unfair_1 : decode cX8_unfair 1 = .ok (.iload_n 1, 1) := by decide +kernel
theorem dX8_unfair_2 : decode cX8_unfair 2 = .ok (.aload_n 0, 1) := by decide +kernel
theorem dX8_unfair_3 : decode cX8_unfair 3 = .ok (.getfield 71, 3) := by decide +kernel
theorem dX8_unfair_6 : decode cX8_unfair 6 = .ok (.invokevirtual 148, 3) := by decide +kernel
theorem dX8_unfair_9 : decode cX8_unfair 9 = .ok (.aload_n 0, 1) := by decide +kernel
theorem dX8_unfair_10 : decode cX8_unfair 10 = .ok (.getfield 44, 3) := by decide +kernel
theorem dX8_unfair_13 : decode cX8_unfair 13 = .ok (.iconst 0, 1) := by decide +kernel
theorem dX8_unfair_14 : decode cX8_unfair 14 = .ok (.iaload, 1) := by decide +kernel
theorem dX8_unfair_15 : decode cX8_unfair 15 = .ok (.istore_n 2, 1) := by decide +kernel
theorem dX8_unfair_16 : decode cX8_unfair 16 = .ok (.aload_n 0, 1) := by decide +kernel
theorem dX8_unfair_17 : decode cX8_unfair 17 = .ok (.getfield 44, 3) := by decide +kernel
theorem dX8_unfair_20 : decode cX8_unfair 20 = .ok (.iconst 0, 1) := by decide +kernel
theorem dX8_unfair_21 : decode cX8_unfair 21 = .ok (.iaload, 1) := by decide +kernel
theorem dX8_unfair_22 : decode cX8_unfair 22 = .ok (.istore_n 3, 1) := by decide +kernel
theorem dX8_unfair_23 : decode cX8_unfair 23 = .ok (.iconst 1, 1) := by decide +kernel
theorem dX8_unfair_24 : decode cX8_unfair 24 = .ok (.istore 4, 2) := by decide +kernel
theorem dX8_unfair_26 : decode cX8_unfair 26 = .ok (.iload 4, 2) := by decide +kernel
theorem dX8_unfair_28 : decode cX8_unfair 28 = .ok (.aload_n 0, 1) := by decide +kernel
theorem dX8_unfair_29 : decode cX8_unfair 29 = .ok (.getfield 7, 3) := by decide +kernel
theorem dX8_unfair_32 : decode cX8_unfair 32 = .ok (.bipush 8, 2) := by decide +kernel
theorem dX8_unfair_34 : decode cX8_unfair 34 = .ok (.iaload, 1) := by decide +kernel
theorem dX8_unfair_35 : decode cX8_unfair 35 = .ok (.if_icmp .ge 55, 3) := by decide +kernel
theorem dX8_unfair_38 : decode cX8_unfair 38 = .ok (.aload_n 0, 1) := by decide +kernel
theorem dX8_unfair_39 : decode cX8_unfair 39 = .ok (.getfield 44, 3) := by decide +kernel
theorem dX8_unfair_42 : decode cX8_unfair 42 = .ok (.iload 4, 2) := by decide +kernel
theorem dX8_unfair_44 : decode cX8_unfair 44 = .ok (.iaload, 1) := by decide +kernel
theorem dX8_unfair_45 : decode cX8_unfair 45 = .ok (.iload_n 2, 1) := by decide +kernel
theorem dX8_unfair_46 : decode cX8_unfair 46 = .ok (.if_icmp .le 13, 3) := by decide +kernel
theorem dX8_unfair_49 : decode cX8_unfair 49 = .ok (.aload_n 0, 1) := by decide +kernel
theorem dX8_unfair_50 : decode cX8_unfair 50 = .ok (.getfield 44, 3) := by decide +kernel
theorem dX8_unfair_53 : decode cX8_unfair 53 = .ok (.iload 4, 2) := by decide +kernel
theorem dX8_unfair_55 : decode cX8_unfair 55 = .ok (.iaload, 1) := by decide +kernel
theorem dX8_unfair_56 : decode cX8_unfair 56 = .ok (.goto 4, 3) := by decide +kernel
theorem dX8_unfair_59 : decode cX8_unfair 59 = .ok (.iload_n 2, 1) := by decide +kernel
theorem dX8_unfair_60 : decode cX8_unfair 60 = .ok (.istore_n 2, 1) := by decide +kernel
theorem dX8_unfair_61 : decode cX8_unfair 61 = .ok (.aload_n 0, 1) := by decide +kernel
theorem dX8_unfair_62 : decode cX8_unfair 62 = .ok (.getfield 44, 3) := by decide +kernel
theorem dX8_unfair_65 : decode cX8_unfair 65 = .ok (.iload 4, 2) := by decide +kernel
theorem dX8_unfair_67 : decode cX8_unfair 67 = .ok (.iaload, 1) := by decide +kernel
theorem dX8_unfair_68 : decode cX8_unfair 68 = .ok (.iload_n 3, 1) := by decide +kernel
theorem dX8_unfair_69 : decode cX8_unfair 69 = .ok (.if_icmp .ge 13, 3) := by decide +kernel
theorem dX8_unfair_72 : decode cX8_unfair 72 = .ok (.aload_n 0, 1) := by decide +kernel
theorem dX8_unfair_73 : decode cX8_unfair 73 = .ok (.getfield 44, 3) := by decide +kernel
theorem dX8_unfair_76 : decode cX8_unfair 76 = .ok (.iload 4, 2) := by decide +kernel
theorem dX8_unfair_78 : decode cX8_unfair 78 = .ok (.iaload, 1) := by decide +kernel
theorem dX8_unfair_79 : decode cX8_unfair 79 = .ok (.goto 4, 3) := by decide +kernel
theorem dX8_unfair_82 : decode cX8_unfair 82 = .ok (.iload_n 3, 1) := by decide +kernel
theorem dX8_unfair_83 : decode cX8_unfair 83 = .ok (.istore_n 3, 1) := by decide +kernel
theorem dX8_unfair_84 : decode cX8_unfair 84 = .ok (.iinc 4 1, 3) := by decide +kernel
theorem dX8_unfair_87 : decode cX8_unfair 87 = .ok (.goto (-61), 3) := by decide +kernel
theorem dX8_unfair_90 : decode cX8_unfair 90 = .ok (.iload_n 2, 1) := by decide +kernel
theorem dX8_unfair_91 : decode cX8_unfair 91 = .ok (.iload_n 3, 1) := by decide +kernel
theorem dX8_unfair_92 : decode cX8_unfair 92 = .ok (.isub, 1) := by decide +kernel
theorem dX8_unfair_93 : decode cX8_unfair 93 = .ok (.ireturn, 1) := by decide +kernel
theorem dX8_fair_0 : decode cX8_fair 0 = .ok (.aload_n 0, 1) := by decide +kernel
theorem dX8_fair_1 : decode cX8_fair 1 = .ok (.invokevirtual 261, 3) := by decide +kernel
theorem dX8_fair_4 : decode cX8_fair 4 = .ok (.ifCond .ne 6, 3) := by decide +kernel
theorem dX8_fair_7 : decode cX8_fair 7 = .ok (.ldc 238, 2) := by decide +kernel
theorem dX8_fair_9 : decode cX8_fair 9 = .ok (.ireturn, 1) := by decide +kernel
theorem dX8_fair_10 : decode cX8_fair 10 = .ok (.iload_n 1, 1) := by decide +kernel
theorem dX8_fair_11 : decode cX8_fair 11 = .ok (.invokestatic 283, 3) := by decide +kernel
theorem dX8_fair_14 : decode cX8_fair 14 = .ok (.ifCond .ne 6, 3) := by decide +kernel
theorem dX8_fair_17 : decode cX8_fair 17 = .ok (.ldc 209, 2) := by decide +kernel
theorem dX8_fair_19 : decode cX8_fair 19 = .ok (.ireturn, 1) := by decide +kernel
theorem dX8_fair_20 : decode cX8_fair 20 = .ok (.aload_n 0, 1) := by decide +kernel
theorem dX8_fair_21 : decode cX8_fair 21 = .ok (.iload_n 1, 1) := by decide +kernel
theorem dX8_fair_22 : decode cX8_fair 22 = .ok (.ldc 90, 2) := by decide +kernel
theorem dX8_fair_24 : decode cX8_fair 24 = .ok (.invokevirtual 288, 3) := by decide +kernel
theorem dX8_fair_27 : decode cX8_fair 27 = .ok (.aload_n 0, 1) := by decide +kernel
theorem dX8_fair_28 : decode cX8_fair 28 = .ok (.aload_n 0, 1) := by decide +kernel
theorem dX8_fair_29 : decode cX8_fair 29 = .ok (.getfield 7, 3) := by decide +kernel
theorem dX8_fair_32 : decode cX8_fair 32 = .ok (.iconst 5, 1) := by decide +kernel
theorem dX8_fair_33 : decode cX8_fair 33 = .ok (.iaload, 1) := by decide +kernel
theorem dX8_fair_34 : decode cX8_fair 34 = .ok (.invokevirtual 310, 3) := by decide +kernel
theorem dX8_fair_37 : decode cX8_fair 37 = .ok (.ireturn, 1) := by decide +kernel
theorem dX7_lastOf_0 : decode cX7_lastOf 0 = .ok (.iload_n 0, 1) := by decide +kernel
theorem dX7_lastOf_1 : decode cX7_lastOf 1 = .ok (.iload_n 1, 1) := by decide +kernel
theorem dX7_lastOf_2 : decode cX7_lastOf 2 = .ok (.iadd, 1) := by decide +kernel
theorem dX7_lastOf_3 : decode cX7_lastOf 3 = .ok (.iconst 1, 1) := by decide +kernel
theorem dX7_lastOf_4 : decode cX7_lastOf 4 = .ok (.isub, 1) := by decide +kernel
theorem dX7_lastOf_5 : decode cX7_lastOf 5 = .ok (.sipush 999, 3) := by decide +kernel
theorem dX7_lastOf_8 : decode cX7_lastOf 8 = .ok (.invokestatic 262, 3) := by decide +kernel
theorem dX7_lastOf_11 : decode cX7_lastOf 11 = .ok (.ireturn, 1) := by decide +kernel
theorem dX7_meet_0 : decode cX7_meet 0 = .ok (.aload_n 0, 1) := by decide +kernel
theorem dX7_meet_1 : decode cX7_meet 1 = .ok (.getfield 36, 3) := by decide +kernel
theorem dX7_meet_4 : decode cX7_meet 4 = .ok (.iload_n 1, 1) := by decide +kernel
theorem dX7_meet_5 : decode cX7_meet 5 = .ok (.invokevirtual 109, 3) := by decide +kernel
theorem dX7_meet_8 : decode cX7_meet 8 = .ok (.ifCond .eq 26, 3) := by decide +kernel
theorem dX7_meet_11 : decode cX7_meet 11 = .ok (.aload_n 0, 1) := by decide +kernel
theorem dX7_meet_12 : decode cX7_meet 12 = .ok (.getfield 36, 3) := by decide +kernel
theorem dX7_meet_15 : decode cX7_meet 15 = .ok (.iload_n 2, 1) := by decide +kernel
theorem dX7_meet_16 : decode cX7_meet 16 = .ok (.invokevirtual 109, 3) := by decide +kernel
theorem dX7_meet_19 : decode cX7_meet 19 = .ok (.ifCond .eq 15, 3) := by decide +kernel
theorem dX7_meet_22 : decode cX7_meet 22 = .ok (.iload_n 1, 1) := by decide +kernel
theorem dX7_meet_23 : decode cX7_meet 23 = .ok (.iload_n 2, 1) := by decide +kernel
theorem dX7_meet_24 : decode cX7_meet 24 = .ok (.if_icmp .eq 10, 3) := by decide +kernel
theorem dX7_meet_27 : decode cX7_meet 27 = .ok (.iload_n 3, 1) := by decide +kernel
theorem dX7_meet_28 : decode cX7_meet 28 = .ok (.invokestatic 153, 3) := by decide +kernel
theorem dX7_meet_31 : decode cX7_meet 31 = .ok (.ifCond .ne 6, 3) := by decide +kernel
theorem dX7_meet_34 : decode cX7_meet 34 = .ok (.ldc 72, 2) := by decide +kernel
theorem dX7_meet_36 : decode cX7_meet 36 = .ok (.ireturn, 1) := by decide +kernel
theorem dX7_meet_37 : decode cX7_meet 37 = .ok (.iload_n 3, 1) := by decide +kernel
theorem dX7_meet_38 : decode cX7_meet 38 = .ok (.bipush 99, 2) := by decide +kernel
theorem dX7_meet_40 : decode cX7_meet 40 = .ok (.invokestatic 249, 3) := by decide +kernel
theorem dX7_meet_43 : decode cX7_meet 43 = .ok (.istore 4, 2) := by decide +kernel
theorem dX7_meet_45 : decode cX7_meet 45 = .ok (.iload_n 3, 1) := by decide +kernel
theorem dX7_meet_46 : decode cX7_meet 46 = .ok (.istore 5, 2) := by decide +kernel
theorem dX7_meet_48 : decode cX7_meet 48 = .ok (.iload 5, 2) := by decide +kernel
theorem dX7_meet_50 : decode cX7_meet 50 = .ok (.iload 4, 2) := by decide +kernel
theorem dX7_meet_52 : decode cX7_meet 52 = .ok (.if_icmp .gt 58, 3) := by decide +kernel
theorem dX7_meet_55 : decode cX7_meet 55 = .ok (.aload_n 0, 1) := by decide +kernel
theorem dX7_meet_56 : decode cX7_meet 56 = .ok (.getfield 51, 3) := by decide +kernel
theorem dX7_meet_59 : decode cX7_meet 59 = .ok (.getfield 160, 3) := by decide +kernel
theorem dX7_meet_62 : decode cX7_meet 62 = .ok (.aload_n 0, 1) := by decide +kernel
theorem dX7_meet_63 : decode cX7_meet 63 = .ok (.getfield 36, 3) := by decide +kernel
theorem dX7_meet_66 : decode cX7_meet 66 = .ok (.iload 5, 2) := by decide +kernel
theorem dX7_meet_68 : decode cX7_meet 68 = .ok (.invokevirtual 252, 3) := by decide +kernel
theorem dX7_meet_71 : decode cX7_meet 71 = .ok (.aload_n 0, 1) := by decide +kernel
theorem dX7_meet_72 : decode cX7_meet 72 = .ok (.getfield 51, 3) := by decide +kernel
theorem dX7_meet_75 : decode cX7_meet 75 = .ok (.iload_n 1, 1) := by decide +kernel
theorem dX7_meet_76 : decode cX7_meet 76 = .ok (.invokevirtual 256, 3) := by decide +kernel
theorem dX7_meet_79 : decode cX7_meet 79 = .ok (.istore 6, 2) := by decide +kernel
theorem dX7_meet_81 : decode cX7_meet 81 = .ok (.iload 6, 2) := by decide +kernel
theorem dX7_meet_83 : decode cX7_meet 83 = .ok (.ldc 203, 2) := by decide +kernel
theorem dX7_meet_85 : decode cX7_meet 85 = .ok (.if_icmp .eq 19, 3) := by decide +kernel
theorem dX7_meet_88 : decode cX7_meet 88 = .ok (.iload 6, 2) := by decide +kernel
theorem dX7_meet_90 : decode cX7_meet 90 = .ok (.aload_n 0, 1) := by decide +kernel
theorem dX7_meet_91 : decode cX7_meet 91 = .ok (.getfield 51, 3) := by decide +kernel
theorem dX7_meet_94 : decode cX7_meet 94 = .ok (.iload_n 2, 1) := by decide +kernel
theorem dX7_meet_95 : decode cX7_meet 95 = .ok (.invokevirtual 256, 3) := by decide +kernel
theorem dX7_meet_98 : decode cX7_meet 98 = .ok (.if_icmp .ne 6, 3) := by decide +kernel
theorem dX7_meet_101 : decode cX7_meet 101 = .ok (.iload 5, 2) := by decide +kernel
theorem dX7_meet_103 : decode cX7_meet 103 = .ok (.ireturn, 1) := by decide +kernel
theorem dX7_meet_104 : decode cX7_meet 104 = .ok (.iinc 5 1, 3) := by decide +kernel
theorem dX7_meet_107 : decode cX7_meet 107 = .ok (.goto (-59), 3) := by decide +kernel
theorem dX7_meet_110 : decode cX7_meet 110 = .ok (.ldc 203, 2) := by decide +kernel
theorem dX7_meet_112 : decode cX7_meet 112 = .ok (.ireturn, 1) := by decide +kernel
theorem dX8_meet_0 : decode cX8_meet 0 = .ok (.aload_n 0, 1) := by decide +kernel
theorem dX8_meet_1 : decode cX8_meet 1 = .ok (.iload_n 1, 1) := by decide +kernel
theorem dX8_meet_2 : decode cX8_meet 2 = .ok (.invokevirtual 252, 3) := by decide +kernel
theorem dX8_meet_5 : decode cX8_meet 5 = .ok (.ifCond .eq 23, 3) := by decide +kernel
theorem dX8_meet_8 : decode cX8_meet 8 = .ok (.aload_n 0, 1) := by decide +kernel
theorem dX8_meet_9 : decode cX8_meet 9 = .ok (.iload_n 2, 1) := by decide +kernel
theorem dX8_meet_10 : decode cX8_meet 10 = .ok (.invokevirtual 252, 3) := by decide +kernel
