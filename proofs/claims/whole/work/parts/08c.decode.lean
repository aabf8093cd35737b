theorem dX2_unboundDay_40 : decode cX2_unboundDay 40 = .ok (.iadd, 1) := by decide +kernel
theorem dX2_unboundDay_41 : decode cX2_unboundDay 41 = .ok (.ireturn, 1) := by decide +kernel
theorem dX2_unboundDay_42 : decode cX2_unboundDay 42 = .ok (.aload_n 0, 1) := by decide +kernel
theorem dX2_unboundDay_43 : decode cX2_unboundDay 43 = .ok (.aload_n 0, 1) := by decide +kernel
theorem dX2_unboundDay_44 : decode cX2_unboundDay 44 = .ok (.iload_n 2, 1) := by decide +kernel
theorem dX2_unboundDay_45 : decode cX2_unboundDay 45 = .ok (.invokevirtual 31, 3) := by decide +kernel
theorem dX2_unboundDay_48 : decode cX2_unboundDay 48 = .ok (.invokevirtual 38, 3) := by decide +kernel
theorem dX2_unboundDay_51 : decode cX2_unboundDay 51 = .ok (.ireturn, 1) := by decide +kernel
theorem dX2_unboundDay_52 : decode cX2_unboundDay 52 = .ok (.aload_n 0, 1) := by decide +kernel
theorem dX2_unboundDay_53 : decode cX2_unboundDay 53 = .ok (.iload_n 2, 1) := by decide +kernel
theorem dX2_unboundDay_54 : decode cX2_unboundDay 54 = .ok (.invokevirtual 31, 3) := by decide +kernel
theorem dX2_unboundDay_57 : decode cX2_unboundDay 57 = .ok (.ireturn, 1) := by decide +kernel
theorem dX2_ownDay_0 : decode cX2_ownDay 0 = .ok (.aload_n 0, 1) := by decide +kernel
theorem dX2_ownDay_1 : decode cX2_ownDay 1 = .ok (.iload_n 1, 1) := by decide +kernel
theorem dX2_ownDay_2 : decode cX2_ownDay 2 = .ok (.iload_n 2, 1) := by decide +kernel
theorem dX2_ownDay_3 : decode cX2_ownDay 3 = .ok (.invokevirtual 51, 3) := by decide +kernel
theorem dX2_ownDay_6 : decode cX2_ownDay 6 = .ok (.istore_n 3, 1) := by decide +kernel
theorem dX2_ownDay_7 : decode cX2_ownDay 7 = .ok (.iload_n 3, 1) := by decide +kernel
theorem dX2_ownDay_8 : decode cX2_ownDay 8 = .ok (.iconst 1, 1) := by decide +kernel
theorem dX2_ownDay_9 : decode cX2_ownDay 9 = .ok (.aload_n 0, 1) := by decide +kernel
theorem dX2_ownDay_10 : decode cX2_ownDay 10 = .ok (.getfield 21, 3) := by decide +kernel
theorem dX2_ownDay_13 : decode cX2_ownDay 13 = .ok (.invokestatic 54, 3) := by decide +kernel
theorem dX2_ownDay_16 : decode cX2_ownDay 16 = .ok (.ifCond .eq 7, 3) := by decide +kernel
theorem dX2_ownDay_19 : decode cX2_ownDay 19 = .ok (.iload_n 3, 1) := by decide +kernel
theorem dX2_ownDay_20 : decode cX2_ownDay 20 = .ok (.goto 5, 3) := by decide +kernel
theorem dX2_ownDay_23 : decode cX2_ownDay 23 = .ok (.ldc 58, 2) := by decide +kernel
theorem dX2_ownDay_25 : decode cX2_ownDay 25 = .ok (.ireturn, 1) := by decide +kernel
theorem dX3_ownDayOf_0 : decode cX3_ownDayOf 0 = .ok (.aload_n 0, 1) := by decide +kernel
theorem dX3_ownDayOf_1 : decode cX3_ownDayOf 1 = .ok (.getfield 15, 3) := by decide +kernel
theorem dX3_ownDayOf_4 : decode cX3_ownDayOf 4 = .ok (.aload_n 0, 1) := by decide +kernel
theorem dX3_ownDayOf_5 : decode cX3_ownDayOf 5 = .ok (.getfield 9, 3) := by decide +kernel
theorem dX3_ownDayOf_8 : decode cX3_ownDayOf 8 = .ok (.iload_n 1, 1) := by decide +kernel
theorem dX3_ownDayOf_9 : decode cX3_ownDayOf 9 = .ok (.iconst 0, 1) := by decide +kernel
theorem dX3_ownDayOf_10 : decode cX3_ownDayOf 10 = .ok (.invokevirtual 59, 3) := by decide +kernel
theorem dX3_ownDayOf_13 : decode cX3_ownDayOf 13 = .ok (.aload_n 0, 1) := by decide +kernel
theorem dX3_ownDayOf_14 : decode cX3_ownDayOf 14 = .ok (.getfield 9, 3) := by decide +kernel
theorem dX3_ownDayOf_17 : decode cX3_ownDayOf 17 = .ok (.iload_n 1, 1) := by decide +kernel
theorem dX3_ownDayOf_18 : decode cX3_ownDayOf 18 = .ok (.iconst 1, 1) := by decide +kernel
theorem dX3_ownDayOf_19 : decode cX3_ownDayOf 19 = .ok (.invokevirtual 59, 3) := by decide +kernel
theorem dX3_ownDayOf_22 : decode cX3_ownDayOf 22 = .ok (.invokevirtual 63, 3) := by decide +kernel
theorem dX3_ownDayOf_25 : decode cX3_ownDayOf 25 = .ok (.ireturn, 1) := by decide +kernel
theorem dX3_lay_0 : decode cX3_lay 0 = .ok (.aload_n 0, 1) := by decide +kernel
theorem dX3_lay_1 : decode cX3_lay 1 = .ok (.getfield 15, 3) := by decide +kernel
theorem dX3_lay_4 : decode cX3_lay 4 = .ok (.aload_n 0, 1) := by decide +kernel
theorem dX3_lay_5 : decode cX3_lay 5 = .ok (.getfield 9, 3) := by decide +kernel
theorem dX3_lay_8 : decode cX3_lay 8 = .ok (.iload_n 1, 1) := by decide +kernel
theorem dX3_lay_9 : decode cX3_lay 9 = .ok (.invokevirtual 32, 3) := by decide +kernel
theorem dX3_lay_12 : decode cX3_lay 12 = .ok (.aload_n 0, 1) := by decide +kernel
theorem dX3_lay_13 : decode cX3_lay 13 = .ok (.getfield 29, 3) := by decide +kernel
theorem dX3_lay_16 : decode cX3_lay 16 = .ok (.iconst (-1), 1) := by decide +kernel
theorem dX3_lay_17 : decode cX3_lay 17 = .ok (.invokestatic 38, 3) := by decide +kernel
theorem dX3_lay_20 : decode cX3_lay 20 = .ok (.iconst 0, 1) := by decide +kernel
theorem dX3_lay_21 : decode cX3_lay 21 = .ok (.istore_n 3, 1) := by decide +kernel
theorem dX3_lay_22 : decode cX3_lay 22 = .ok (.iload_n 3, 1) := by decide +kernel
theorem dX3_lay_23 : decode cX3_lay 23 = .ok (.aload_n 0, 1) := by decide +kernel
theorem dX3_lay_24 : decode cX3_lay 24 = .ok (.getfield 9, 3) := by decide +kernel
theorem dX3_lay_27 : decode cX3_lay 27 = .ok (.getfield 44, 3) := by decide +kernel
theorem dX3_lay_30 : decode cX3_lay 30 = .ok (.if_icmp .ge 45, 3) := by decide +kernel
theorem dX3_lay_33 : decode cX3_lay 33 = .ok (.aload_n 0, 1) := by decide +kernel
theorem dX3_lay_34 : decode cX3_lay 34 = .ok (.getfield 19, 3) := by decide +kernel
theorem dX3_lay_37 : decode cX3_lay 37 = .ok (.iload_n 3, 1) := by decide +kernel
theorem dX3_lay_38 : decode cX3_lay 38 = .ok (.iload_n 3, 1) := by decide +kernel
theorem dX3_lay_39 : decode cX3_lay 39 = .ok (.iload_n 2, 1) := by decide +kernel
theorem dX3_lay_40 : decode cX3_lay 40 = .ok (.if_icmp .ne 8, 3) := by decide +kernel
theorem dX3_lay_43 : decode cX3_lay 43 = .ok (.ldc 50, 2) := by decide +kernel
theorem dX3_lay_45 : decode cX3_lay 45 = .ok (.goto 8, 3) := by decide +kernel
theorem dX3_lay_48 : decode cX3_lay 48 = .ok (.aload_n 0, 1) := by decide +kernel
theorem dX3_lay_49 : decode cX3_lay 49 = .ok (.iload_n 3, 1) := by decide +kernel
theorem dX3_lay_50 : decode cX3_lay 50 = .ok (.invokevirtual 51, 3) := by decide +kernel
theorem dX3_lay_53 : decode cX3_lay 53 = .ok (.iastore, 1) := by decide +kernel
theorem dX3_lay_54 : decode cX3_lay 54 = .ok (.aload_n 0, 1) := by decide +kernel
theorem dX3_lay_55 : decode cX3_lay 55 = .ok (.getfield 23, 3) := by decide +kernel
theorem dX3_lay_58 : decode cX3_lay 58 = .ok (.iload_n 3, 1) := by decide +kernel
theorem dX3_lay_59 : decode cX3_lay 59 = .ok (.iconst 0, 1) := by decide +kernel
theorem dX3_lay_60 : decode cX3_lay 60 = .ok (.iastore, 1) := by decide +kernel
theorem dX3_lay_61 : decode cX3_lay 61 = .ok (.aload_n 0, 1) := by decide +kernel
theorem dX3_lay_62 : decode cX3_lay 62 = .ok (.getfield 26, 3) := by decide +kernel
theorem dX3_lay_65 : decode cX3_lay 65 = .ok (.iload_n 3, 1) := by decide +kernel
theorem dX3_lay_66 : decode cX3_lay 66 = .ok (.ldc 50, 2) := by decide +kernel
theorem dX3_lay_68 : decode cX3_lay 68 = .ok (.iastore, 1) := by decide +kernel
theorem dX3_lay_69 : decode cX3_lay 69 = .ok (.iinc 3 1, 3) := by decide +kernel
theorem dX3_lay_72 : decode cX3_lay 72 = .ok (.goto (-50), 3) := by decide +kernel
theorem dX3_lay_75 : decode cX3_lay 75 = .ok (.iconst 5, 1) := by decide +kernel
theorem dX3_lay_76 : decode cX3_lay 76 = .ok (.istore_n 3, 1) := by decide +kernel
theorem dX3_lay_77 : decode cX3_lay 77 = .ok (.iload_n 3, 1) := by decide +kernel
theorem dX3_lay_78 : decode cX3_lay 78 = .ok (.iconst 1, 1) := by decide +kernel
theorem dX3_lay_79 : decode cX3_lay 79 = .ok (.if_icmp .lt 31, 3) := by decide +kernel
theorem dX3_lay_82 : decode cX3_lay 82 = .ok (.iconst 0, 1) := by decide +kernel
theorem dX3_lay_83 : decode cX3_lay 83 = .ok (.istore 4, 2) := by decide +kernel
theorem dX3_lay_85 : decode cX3_lay 85 = .ok (.iload 4, 2) := by decide +kernel
theorem dX3_lay_87 : decode cX3_lay 87 = .ok (.iconst 3, 1) := by decide +kernel
theorem dX3_lay_88 : decode cX3_lay 88 = .ok (.if_icmp .gt 16, 3) := by decide +kernel
theorem dX3_lay_91 : decode cX3_lay 91 = .ok (.aload_n 0, 1) := by decide +kernel
theorem dX3_lay_92 : decode cX3_lay 92 = .ok (.iload_n 3, 1) := by decide +kernel
theorem dX3_lay_93 : decode cX3_lay 93 = .ok (.iload 4, 2) := by decide +kernel
theorem dX3_lay_95 : decode cX3_lay 95 = .ok (.invokevirtual 55, 3) := by decide +kernel
theorem dX3_lay_98 : decode cX3_lay 98 = .ok (.iinc 4 1, 3) := by decide +kernel
theorem dX3_lay_101 : decode cX3_lay 101 = .ok (.goto (-16), 3) := by decide +kernel
theorem dX3_lay_104 : decode cX3_lay 104 = .ok (.iinc 3 (-1), 3) := by decide +kernel
theorem dX3_lay_107 : decode cX3_lay 107 = .ok (.goto (-30), 3) := by decide +kernel
theorem dX3_lay_110 : decode cX3_lay 110 = .ok (.return_, 1) := by decide +kernel
theorem dX3_holderOf_0 : decode cX3_holderOf 0 = .ok (.iload_n 1, 1) := by decide +kernel
theorem dX3_holderOf_1 : decode cX3_holderOf 1 = .ok (.iconst 1, 1) := by decide +kernel
theorem dX3_holderOf_2 : decode cX3_holderOf 2 = .ok (.aload_n 0, 1) := by decide +kernel
theorem dX3_holderOf_3 : decode cX3_holderOf 3 = .ok (.getfield 15, 3) := by decide +kernel
theorem dX3_holderOf_6 : decode cX3_holderOf 6 = .ok (.getfield 80, 3) := by decide +kernel
theorem dX3_holderOf_9 : decode cX3_holderOf 9 = .ok (.invokestatic 91, 3) := by decide +kernel
theorem dX3_holderOf_12 : decode cX3_holderOf 12 = .ok (.ifCond .eq 12, 3) := by decide +kernel
theorem dX3_holderOf_15 : decode cX3_holderOf 15 = .ok (.aload_n 0, 1) := by decide +kernel
theorem dX3_holderOf_16 : decode cX3_holderOf 16 = .ok (.getfield 29, 3) := by decide +kernel
theorem dX3_holderOf_19 : decode cX3_holderOf 19 = .ok (.iload_n 1, 1) := by decide +kernel
theorem dX3_holderOf_20 : decode cX3_holderOf 20 = .ok (.iaload, 1) := by decide +kernel
theorem dX3_holderOf_21 : decode cX3_holderOf 21 = .ok (.goto 4, 3) := by decide +kernel
theorem dX3_holderOf_24 : decode cX3_holderOf 24 = .ok (.iconst (-1), 1) := by decide +kernel
theorem dX3_holderOf_25 : decode cX3_holderOf 25 = .ok (.ireturn, 1) := by decide +kernel
theorem dX3_rankOf_0 : decode cX3_rankOf 0 = .ok (.aload_n 0, 1) := by decide +kernel
theorem dX3_rankOf_1 : decode cX3_rankOf 1 = .ok (.iload_n 1, 1) := by decide +kernel
theorem dX3_rankOf_2 : decode cX3_rankOf 2 = .ok (.invokevirtual 95, 3) := by decide +kernel
theorem dX3_rankOf_5 : decode cX3_rankOf 5 = .ok (.istore_n 2, 1) := by decide +kernel
theorem dX3_rankOf_6 : decode cX3_rankOf 6 = .ok (.iload_n 2, 1) := by decide +kernel
theorem dX3_rankOf_7 : decode cX3_rankOf 7 = .ok (.iconst (-1), 1) := by decide +kernel
theorem dX3_rankOf_8 : decode cX3_rankOf 8 = .ok (.if_icmp .eq 13, 3) := by decide +kernel
theorem dX3_rankOf_11 : decode cX3_rankOf 11 = .ok (.aload_n 0, 1) := by decide +kernel
theorem dX3_rankOf_12 : decode cX3_rankOf 12 = .ok (.getfield 9, 3) := by decide +kernel
theorem dX3_rankOf_15 : decode cX3_rankOf 15 = .ok (.iload_n 2, 1) := by decide +kernel
theorem dX3_rankOf_16 : decode cX3_rankOf 16 = .ok (.iconst 2, 1) := by decide +kernel
theorem dX3_rankOf_17 : decode cX3_rankOf 17 = .ok (.invokevirtual 59, 3) := by decide +kernel
theorem dX3_rankOf_20 : decode cX3_rankOf 20 = .ok (.ireturn, 1) := by decide +kernel
theorem dX3_rankOf_21 : decode cX3_rankOf 21 = .ok (.aload_n 0, 1) := by decide +kernel
theorem dX3_rankOf_22 : decode cX3_rankOf 22 = .ok (.getfield 15, 3) := by decide +kernel
theorem dX3_rankOf_25 : decode cX3_rankOf 25 = .ok (.iload_n 1, 1) := by decide +kernel
theorem dX3_rankOf_26 : decode cX3_rankOf 26 = .ok (.invokevirtual 73, 3) := by decide +kernel
theorem dX3_rankOf_29 : decode cX3_rankOf 29 = .ok (.ifCond .ne 7, 3) := by decide +kernel
theorem dX3_rankOf_32 : decode cX3_rankOf 32 = .ok (.iconst 3, 1) := by decide +kernel
theorem dX3_rankOf_33 : decode cX3_rankOf 33 = .ok (.goto 4, 3) := by decide +kernel
theorem dX3_rankOf_36 : decode cX3_rankOf 36 = .ok (.iconst 0, 1) := by decide +kernel
theorem dX3_rankOf_37 : decode cX3_rankOf 37 = .ok (.ireturn, 1) := by decide +kernel
theorem dX3_servicesOf_0 : decode cX3_servicesOf 0 = .ok (.aload_n 0, 1) := by decide +kernel
theorem dX3_servicesOf_1 : decode cX3_servicesOf 1 = .ok (.iload_n 1, 1) := by decide +kernel
theorem dX3_servicesOf_2 : decode cX3_servicesOf 2 = .ok (.invokevirtual 119, 3) := by decide +kernel
theorem dX3_servicesOf_5 : decode cX3_servicesOf 5 = .ok (.istore_n 2, 1) := by decide +kernel
theorem dX3_servicesOf_6 : decode cX3_servicesOf 6 = .ok (.iload_n 2, 1) := by decide +kernel
theorem dX3_servicesOf_7 : decode cX3_servicesOf 7 = .ok (.iconst 0, 1) := by decide +kernel
theorem dX3_servicesOf_8 : decode cX3_servicesOf 8 = .ok (.getstatic 122, 3) := by decide +kernel
theorem dX3_servicesOf_11 : decode cX3_servicesOf 11 = .ok (.arraylength, 1) := by decide +kernel
theorem dX3_servicesOf_12 : decode cX3_servicesOf 12 = .ok (.iconst 1, 1) := by decide +kernel
theorem dX3_servicesOf_13 : decode cX3_servicesOf 13 = .ok (.isub, 1) := by decide +kernel
theorem dX3_servicesOf_14 : decode cX3_servicesOf 14 = .ok (.invokestatic 91, 3) := by decide +kernel
theorem dX3_servicesOf_17 : decode cX3_servicesOf 17 = .ok (.ifCond .eq 11, 3) := by decide +kernel
theorem dX3_servicesOf_20 : decode cX3_servicesOf 20 = .ok (.getstatic 122, 3) := by decide +kernel
theorem dX3_servicesOf_23 : decode cX3_servicesOf 23 = .ok (.iload_n 2, 1) := by decide +kernel
theorem dX3_servicesOf_24 : decode cX3_servicesOf 24 = .ok (.iaload, 1) := by decide +kernel
theorem dX3_servicesOf_25 : decode cX3_servicesOf 25 = .ok (.goto 4, 3) := by decide +kernel
theorem dX3_servicesOf_28 : decode cX3_servicesOf 28 = .ok (.iconst 0, 1) := by decide +kernel
theorem dX3_servicesOf_29 : decode cX3_servicesOf 29 = .ok (.ireturn, 1) := by decide +kernel
theorem dX5_goesAheadOf_0 : decode cX5_goesAheadOf 0 = .ok (.aload_n 0, 1) := by decide +kernel
theorem dX5_goesAheadOf_1 : decode cX5_goesAheadOf 1 = .ok (.getfield 19, 3) := by decide +kernel
theorem dX5_goesAheadOf_4 : decode cX5_goesAheadOf 4 = .ok (.iload_n 1, 1) := by decide +kernel
theorem dX5_goesAheadOf_5 : decode cX5_goesAheadOf 5 = .ok (.iaload, 1) := by decide +kernel
theorem dX5_goesAheadOf_6 : decode cX5_goesAheadOf 6 = .ok (.aload_n 0, 1) := by decide +kernel
theorem dX5_goesAheadOf_7 : decode cX5_goesAheadOf 7 = .ok (.getfield 19, 3) := by decide +kernel
theorem dX5_goesAheadOf_10 : decode cX5_goesAheadOf 10 = .ok (.iload_n 2, 1) := by decide +kernel
theorem dX5_goesAheadOf_11 : decode cX5_goesAheadOf 11 = .ok (.iaload, 1) := by decide +kernel
theorem dX5_goesAheadOf_12 : decode cX5_goesAheadOf 12 = .ok (.if_icmp .eq 24, 3) := by decide +kernel
theorem dX5_goesAheadOf_15 : decode cX5_goesAheadOf 15 = .ok (.aload_n 0, 1) := by decide +kernel
theorem dX5_goesAheadOf_16 : decode cX5_goesAheadOf 16 = .ok (.getfield 19, 3) := by decide +kernel
theorem dX5_goesAheadOf_19 : decode cX5_goesAheadOf 19 = .ok (.iload_n 1, 1) := by decide +kernel
theorem dX5_goesAheadOf_20 : decode cX5_goesAheadOf 20 = .ok (.iaload, 1) := by decide +kernel
theorem dX5_goesAheadOf_21 : decode cX5_goesAheadOf 21 = .ok (.aload_n 0, 1) := by decide +kernel
theorem dX5_goesAheadOf_22 : decode cX5_goesAheadOf 22 = .ok (.getfield 19, 3) := by decide +kernel
theorem dX5_goesAheadOf_25 : decode cX5_goesAheadOf 25 = .ok (.iload_n 2, 1) := by decide +kernel
theorem dX5_goesAheadOf_26 : decode cX5_goesAheadOf 26 = .ok (.iaload, 1) := by decide +kernel
theorem dX5_goesAheadOf_27 : decode cX5_goesAheadOf 27 = .ok (.if_icmp .ge 7, 3) := by decide +kernel
theorem dX5_goesAheadOf_30 : decode cX5_goesAheadOf 30 = .ok (.iconst 1, 1) := by decide +kernel
theorem dX5_goesAheadOf_31 : decode cX5_goesAheadOf 31 = .ok (.goto 4, 3) := by decide +kernel
theorem dX5_goesAheadOf_34 : decode cX5_goesAheadOf 34 = .ok (.iconst 0, 1) := by decide +kernel
theorem dX5_goesAheadOf_35 : decode cX5_goesAheadOf 35 = .ok (.ireturn, 1) := by decide +kernel
theorem dX5_goesAheadOf_36 : decode cX5_goesAheadOf 36 = .ok (.iload_n 3, 1) := by decide +kernel
theorem dX5_goesAheadOf_37 : decode cX5_goesAheadOf 37 = .ok (.iconst 1, 1) := by decide +kernel
theorem dX5_goesAheadOf_38 : decode cX5_goesAheadOf 38 = .ok (.if_icmp .ne 24, 3) := by decide +kernel
theorem dX5_goesAheadOf_41 : decode cX5_goesAheadOf 41 = .ok (.aload_n 0, 1) := by decide +kernel
theorem dX5_goesAheadOf_42 : decode cX5_goesAheadOf 42 = .ok (.getfield 23, 3) := by decide +kernel
theorem dX5_goesAheadOf_45 : decode cX5_goesAheadOf 45 = .ok (.iload_n 1, 1) := by decide +kernel
theorem dX5_goesAheadOf_46 : decode cX5_goesAheadOf 46 = .ok (.iaload, 1) := by decide +kernel
theorem dX5_goesAheadOf_47 : decode cX5_goesAheadOf 47 = .ok (.aload_n 0, 1) := by decide +kernel
theorem dX5_goesAheadOf_48 : decode cX5_goesAheadOf 48 = .ok (.getfield 23, 3) := by decide +kernel
theorem dX5_goesAheadOf_51 : decode cX5_goesAheadOf 51 = .ok (.iload_n 2, 1) := by decide +kernel
theorem dX5_goesAheadOf_52 : decode cX5_goesAheadOf 52 = .ok (.iaload, 1) := by decide +kernel
theorem dX5_goesAheadOf_53 : decode cX5_goesAheadOf 53 = .ok (.if_icmp .ge 7, 3) := by decide +kernel
theorem dX5_goesAheadOf_56 : decode cX5_goesAheadOf 56 = .ok (.iconst 1, 1) := by decide +kernel
theorem dX5_goesAheadOf_57 : decode cX5_goesAheadOf 57 = .ok (.goto 4, 3) := by decide +kernel
theorem dX5_goesAheadOf_60 : decode cX5_goesAheadOf 60 = .ok (.iconst 0, 1) := by decide +kernel
theorem dX5_goesAheadOf_61 : decode cX5_goesAheadOf 61 = .ok (.ireturn, 1) := by decide +kernel
theorem dX5_goesAheadOf_62 : decode cX5_goesAheadOf 62 = .ok (.iload_n 3, 1) := by decide +kernel
theorem dX5_goesAheadOf_63 : decode cX5_goesAheadOf 63 = .ok (.iconst 2, 1) := by decide +kernel
theorem dX5_goesAheadOf_64 : decode cX5_goesAheadOf 64 = .ok (.if_icmp .ne 7, 3) := by decide +kernel
theorem dX5_goesAheadOf_67 : decode cX5_goesAheadOf 67 = .ok (.iconst 1, 1) := by decide +kernel
theorem dX5_goesAheadOf_68 : decode cX5_goesAheadOf 68 = .ok (.goto 4, 3) := by decide +kernel
theorem dX5_goesAheadOf_71 : decode cX5_goesAheadOf 71 = .ok (.iconst 0, 1) := by decide +kernel
theorem dX5_goesAheadOf_72 : decode cX5_goesAheadOf 72 = .ok (.ireturn, 1) := by decide +kernel
theorem dX1_isAway_0 : decode cX1_isAway 0 = .ok (.aload_n 0, 1) := by decide +kernel
theorem dX1_isAway_1 : decode cX1_isAway 1 = .ok (.iload_n 1, 1) := by decide +kernel
theorem dX1_isAway_2 : decode cX1_isAway 2 = .ok (.invokevirtual 74, 3) := by decide +kernel
theorem dX1_isAway_5 : decode cX1_isAway 5 = .ok (.ifCond .eq 26, 3) := by decide +kernel
theorem dX1_isAway_8 : decode cX1_isAway 8 = .ok (.iload_n 2, 1) := by decide +kernel
theorem dX1_isAway_9 : decode cX1_isAway 9 = .ok (.aload_n 0, 1) := by decide +kernel
theorem dX1_isAway_10 : decode cX1_isAway 10 = .ok (.getfield 27, 3) := by decide +kernel
theorem dX1_isAway_13 : decode cX1_isAway 13 = .ok (.iload_n 1, 1) := by decide +kernel
theorem dX1_isAway_14 : decode cX1_isAway 14 = .ok (.iaload, 1) := by decide +kernel
theorem dX1_isAway_15 : decode cX1_isAway 15 = .ok (.aload_n 0, 1) := by decide +kernel
theorem dX1_isAway_16 : decode cX1_isAway 16 = .ok (.getfield 30, 3) := by decide +kernel
theorem dX1_isAway_19 : decode cX1_isAway 19 = .ok (.iload_n 1, 1) := by decide +kernel
theorem dX1_isAway_20 : decode cX1_isAway 20 = .ok (.iaload, 1) := by decide +kernel
theorem dX1_isAway_21 : decode cX1_isAway 21 = .ok (.invokestatic 33, 3) := by decide +kernel
theorem dX1_isAway_24 : decode cX1_isAway 24 = .ok (.ifCond .eq 7, 3) := by decide +kernel
theorem dX1_isAway_27 : decode cX1_isAway 27 = .ok (.iconst 1, 1) := by decide +kernel
theorem dX1_isAway_28 : decode cX1_isAway 28 = .ok (.goto 4, 3) := by decide +kernel
theorem dX1_isAway_31 : decode cX1_isAway 31 = .ok (.iconst 0, 1) := by decide +kernel
theorem dX1_isAway_32 : decode cX1_isAway 32 = .ok (.ireturn, 1) := by decide +kernel
theorem dX5_choose_0 : decode cX5_choose 0 = .ok (.iconst (-1), 1) := by decide +kernel
theorem dX5_choose_1 : decode cX5_choose 1 = .ok (.istore 4, 2) := by decide +kernel
theorem dX5_choose_3 : decode cX5_choose 3 = .ok (.iconst 0, 1) := by decide +kernel
theorem dX5_choose_4 : decode cX5_choose 4 = .ok (.istore 5, 2) := by decide +kernel
theorem dX5_choose_6 : decode cX5_choose 6 = .ok (.iload 5, 2) := by decide +kernel
theorem dX5_choose_8 : decode cX5_choose 8 = .ok (.aload_n 0, 1) := by decide +kernel
theorem dX5_choose_9 : decode cX5_choose 9 = .ok (.getfield 9, 3) := by decide +kernel
theorem dX5_choose_12 : decode cX5_choose 12 = .ok (.getfield 69, 3) := by decide +kernel
theorem dX5_choose_15 : decode cX5_choose 15 = .ok (.if_icmp .ge 65, 3) := by decide +kernel
theorem dX5_choose_18 : decode cX5_choose 18 = .ok (.iload_n 3, 1) := by decide +kernel
theorem dX5_choose_19 : decode cX5_choose 19 = .ok (.iload 5, 2) := by decide +kernel
theorem dX5_choose_21 : decode cX5_choose 21 = .ok (.ishr, 1) := by decide +kernel
theorem dX5_choose_22 : decode cX5_choose 22 = .ok (.iconst 1, 1) := by decide +kernel
theorem dX5_choose_23 : decode cX5_choose 23 = .ok (.iand, 1) := by decide +kernel
theorem dX5_choose_24 : decode cX5_choose 24 = .ok (.ifCond .ne 20, 3) := by decide +kernel
theorem dX5_choose_27 : decode cX5_choose 27 = .ok (.aload_n 0, 1) := by decide +kernel
theorem dX5_choose_28 : decode cX5_choose 28 = .ok (.getfield 9, 3) := by decide +kernel
theorem dX5_choose_31 : decode cX5_choose 31 = .ok (.iload 5, 2) := by decide +kernel
theorem dX5_choose_33 : decode cX5_choose 33 = .ok (.iload_n 2, 1) := by decide +kernel
theorem dX5_choose_34 : decode cX5_choose 34 = .ok (.invokevirtual 74, 3) := by decide +kernel
theorem dX5_choose_37 : decode cX5_choose 37 = .ok (.ifCond .ne 7, 3) := by decide +kernel
theorem dX5_choose_40 : decode cX5_choose 40 = .ok (.iconst 1, 1) := by decide +kernel
theorem dX5_choose_41 : decode cX5_choose 41 = .ok (.goto 4, 3) := by decide +kernel
theorem dX5_choose_44 : decode cX5_choose 44 = .ok (.iconst 0, 1) := by decide +kernel
theorem dX5_choose_45 : decode cX5_choose 45 = .ok (.istore 6, 2) := by decide +kernel
theorem dX5_choose_47 : decode cX5_choose 47 = .ok (.iload 6, 2) := by decide +kernel
theorem dX5_choose_49 : decode cX5_choose 49 = .ok (.ifCond .eq 25, 3) := by decide +kernel
theorem dX5_choose_52 : decode cX5_choose 52 = .ok (.iload 4, 2) := by decide +kernel
theorem dX5_choose_54 : decode cX5_choose 54 = .ok (.iconst (-1), 1) := by decide +kernel
theorem dX5_choose_55 : decode cX5_choose 55 = .ok (.if_icmp .eq 15, 3) := by decide +kernel
theorem dX5_choose_58 : decode cX5_choose 58 = .ok (.aload_n 0, 1) := by decide +kernel
theorem dX5_choose_59 : decode cX5_choose 59 = .ok (.iload 5, 2) := by decide +kernel
theorem dX5_choose_61 : decode cX5_choose 61 = .ok (.iload 4, 2) := by decide +kernel
theorem dX5_choose_63 : decode cX5_choose 63 = .ok (.iload_n 1, 1) := by decide +kernel
theorem dX5_choose_64 : decode cX5_choose 64 = .ok (.invokevirtual 78, 3) := by decide +kernel
theorem dX5_choose_67 : decode cX5_choose 67 = .ok (.ifCond .eq 7, 3) := by decide +kernel
theorem dX5_choose_70 : decode cX5_choose 70 = .ok (.iload 5, 2) := by decide +kernel
theorem dX5_choose_72 : decode cX5_choose 72 = .ok (.istore 4, 2) := by decide +kernel
theorem dX5_choose_74 : decode cX5_choose 74 = .ok (.iinc 5 1, 3) := by decide +kernel
theorem dX5_choose_77 : decode cX5_choose 77 = .ok (.goto (-71), 3) := by decide +kernel
theorem dX5_choose_80 : decode cX5_choose 80 = .ok (.iload 4, 2) := by decide +kernel
theorem dX5_choose_82 : decode cX5_choose 82 = .ok (.ireturn, 1) := by decide +kernel
theorem dX5_give_0 : decode cX5_give 0 = .ok (.iload_n 1, 1) := by decide +kernel
theorem dX5_give_1 : decode cX5_give 1 = .ok (.iconst (-1), 1) := by decide +kernel
theorem dX5_give_2 : decode cX5_give 2 = .ok (.if_icmp .ne 14, 3) := by decide +kernel
theorem dX5_give_5 : decode cX5_give 5 = .ok (.aload_n 0, 1) := by decide +kernel
theorem dX5_give_6 : decode cX5_give 6 = .ok (.dup, 1) := by decide +kernel
theorem dX5_give_7 : decode cX5_give 7 = .ok (.getfield 39, 3) := by decide +kernel
theorem dX5_give_10 : decode cX5_give 10 = .ok (.iconst 1, 1) := by decide +kernel
theorem dX5_give_11 : decode cX5_give 11 = .ok (.iadd, 1) := by decide +kernel
theorem dX5_give_12 : decode cX5_give 12 = .ok (.putfield 39, 3) := by decide +kernel
theorem dX5_give_15 : decode cX5_give 15 = .ok (.return_, 1) := by decide +kernel
theorem dX5_give_16 : decode cX5_give 16 = .ok (.aload_n 0, 1) := by decide +kernel
theorem dX5_give_17 : decode cX5_give 17 = .ok (.dup, 1) := by decide +kernel
theorem dX5_give_18 : decode cX5_give 18 = .ok (.getfield 35, 3) := by decide +kernel
theorem dX5_give_21 : decode cX5_give 21 = .ok (.iconst 1, 1) := by decide +kernel
theorem dX5_give_22 : decode cX5_give 22 = .ok (.iadd, 1) := by decide +kernel
theorem dX5_give_23 : decode cX5_give 23 = .ok (.putfield 35, 3) := by decide +kernel
theorem dX5_give_26 : decode cX5_give 26 = .ok (.aload_n 0, 1) := by decide +kernel
theorem dX5_give_27 : decode cX5_give 27 = .ok (.getfield 19, 3) := by decide +kernel
theorem dX5_give_30 : decode cX5_give 30 = .ok (.iload_n 1, 1) := by decide +kernel
theorem dX5_give_31 : decode cX5_give 31 = .ok (.dup2, 1) := by decide +kernel
theorem dX5_give_32 : decode cX5_give 32 = .ok (.iaload, 1) := by decide +kernel
theorem dX5_give_33 : decode cX5_give 33 = .ok (.iconst 1, 1) := by decide +kernel
theorem dX5_give_34 : decode cX5_give 34 = .ok (.iadd, 1) := by decide +kernel
theorem dX5_give_35 : decode cX5_give 35 = .ok (.iastore, 1) := by decide +kernel
theorem dX5_give_36 : decode cX5_give 36 = .ok (.aload_n 0, 1) := by decide +kernel
theorem dX5_give_37 : decode cX5_give 37 = .ok (.getfield 23, 3) := by decide +kernel
theorem dX5_give_40 : decode cX5_give 40 = .ok (.iload_n 1, 1) := by decide +kernel
theorem dX5_give_41 : decode cX5_give 41 = .ok (.aload_n 0, 1) := by decide +kernel
theorem dX5_give_42 : decode cX5_give 42 = .ok (.getfield 35, 3) := by decide +kernel
theorem dX5_give_45 : decode cX5_give 45 = .ok (.iastore, 1) := by decide +kernel
theorem dX5_give_46 : decode cX5_give 46 = .ok (.aload_n 0, 1) := by decide +kernel
theorem dX5_give_47 : decode cX5_give 47 = .ok (.dup, 1) := by decide +kernel
theorem dX5_give_48 : decode cX5_give 48 = .ok (.getfield 46, 3) := by decide +kernel
theorem dX5_give_51 : decode cX5_give 51 = .ok (.iconst 1, 1) := by decide +kernel
theorem dX5_give_52 : decode cX5_give 52 = .ok (.iload_n 1, 1) := by decide +kernel
theorem dX5_give_53 : decode cX5_give 53 = .ok (.ishl, 1) := by decide +kernel
theorem dX5_give_54 : decode cX5_give 54 = .ok (.ior, 1) := by decide +kernel
theorem dX5_give_55 : decode cX5_give 55 = .ok (.putfield 46, 3) := by decide +kernel
theorem dX5_give_58 : decode cX5_give 58 = .ok (.return_, 1) := by decide +kernel
theorem dX5_dealOut_0 : decode cX5_dealOut 0 = .ok (.aload_n 0, 1) := by decide +kernel
theorem dX5_dealOut_1 : decode cX5_dealOut 1 = .ok (.iconst 0, 1) := by decide +kernel
theorem dX5_dealOut_2 : decode cX5_dealOut 2 = .ok (.putfield 46, 3) := by decide +kernel
theorem dX5_dealOut_5 : decode cX5_dealOut 5 = .ok (.aload_n 0, 1) := by decide +kernel
theorem dX5_dealOut_6 : decode cX5_dealOut 6 = .ok (.getfield 15, 3) := by decide +kernel
theorem dX5_dealOut_9 : decode cX5_dealOut 9 = .ok (.iload_n 2, 1) := by decide +kernel
theorem dX5_dealOut_10 : decode cX5_dealOut 10 = .ok (.invokevirtual 49, 3) := by decide +kernel
theorem dX5_dealOut_13 : decode cX5_dealOut 13 = .ok (.iconst 4, 1) := by decide +kernel
theorem dX5_dealOut_14 : decode cX5_dealOut 14 = .ok (.invokestatic 55, 3) := by decide +kernel
theorem dX5_dealOut_17 : decode cX5_dealOut 17 = .ok (.istore_n 3, 1) := by decide +kernel
theorem dX5_dealOut_18 : decode cX5_dealOut 18 = .ok (.iconst 0, 1) := by decide +kernel
theorem dX5_dealOut_19 : decode cX5_dealOut 19 = .ok (.istore 4, 2) := by decide +kernel
theorem dX5_dealOut_21 : decode cX5_dealOut 21 = .ok (.iload 4, 2) := by decide +kernel
theorem dX5_dealOut_23 : decode cX5_dealOut 23 = .ok (.iload_n 3, 1) := by decide +kernel
theorem dX5_dealOut_24 : decode cX5_dealOut 24 = .ok (.if_icmp .ge 51, 3) := by decide +kernel
theorem dX5_dealOut_27 : decode cX5_dealOut 27 = .ok (.aload_n 0, 1) := by decide +kernel
theorem dX5_dealOut_28 : decode cX5_dealOut 28 = .ok (.iload_n 1, 1) := by decide +kernel
theorem dX5_dealOut_29 : decode cX5_dealOut 29 = .ok (.iload_n 2, 1) := by decide +kernel
theorem dX5_dealOut_30 : decode cX5_dealOut 30 = .ok (.aload_n 0, 1) := by decide +kernel
theorem dX5_dealOut_31 : decode cX5_dealOut 31 = .ok (.getfield 46, 3) := by decide +kernel
theorem dX5_dealOut_34 : decode cX5_dealOut 34 = .ok (.invokevirtual 61, 3) := by decide +kernel
theorem dX5_dealOut_37 : decode cX5_dealOut 37 = .ok (.istore 5, 2) := by decide +kernel
theorem dX5_dealOut_39 : decode cX5_dealOut 39 = .ok (.iload 5, 2) := by decide +kernel
theorem dX5_dealOut_41 : decode cX5_dealOut 41 = .ok (.iconst (-1), 1) := by decide +kernel
theorem dX5_dealOut_42 : decode cX5_dealOut 42 = .ok (.if_icmp .ne 12, 3) := by decide +kernel
theorem dX5_dealOut_45 : decode cX5_dealOut 45 = .ok (.aload_n 0, 1) := by decide +kernel
theorem dX5_dealOut_46 : decode cX5_dealOut 46 = .ok (.iload_n 1, 1) := by decide +kernel
theorem dX5_dealOut_47 : decode cX5_dealOut 47 = .ok (.iload_n 2, 1) := by decide +kernel
theorem dX5_dealOut_48 : decode cX5_dealOut 48 = .ok (.iconst 0, 1) := by decide +kernel
theorem dX5_dealOut_49 : decode cX5_dealOut 49 = .ok (.invokevirtual 61, 3) := by decide +kernel
theorem dX5_dealOut_52 : decode cX5_dealOut 52 = .ok (.istore 5, 2) := by decide +kernel
theorem dX5_dealOut_54 : decode cX5_dealOut 54 = .ok (.aload_n 0, 1) := by decide +kernel
theorem dX5_dealOut_55 : decode cX5_dealOut 55 = .ok (.getfield 26, 3) := by decide +kernel
theorem dX5_dealOut_58 : decode cX5_dealOut 58 = .ok (.iload 4, 2) := by decide +kernel
theorem dX5_dealOut_60 : decode cX5_dealOut 60 = .ok (.iload 5, 2) := by decide +kernel
theorem dX5_dealOut_62 : decode cX5_dealOut 62 = .ok (.iastore, 1) := by decide +kernel
theorem dX5_dealOut_63 : decode cX5_dealOut 63 = .ok (.aload_n 0, 1) := by decide +kernel
theorem dX5_dealOut_64 : decode cX5_dealOut 64 = .ok (.iload 5, 2) := by decide +kernel
theorem dX5_dealOut_66 : decode cX5_dealOut 66 = .ok (.invokevirtual 65, 3) := by decide +kernel
theorem dX5_dealOut_69 : decode cX5_dealOut 69 = .ok (.iinc 4 1, 3) := by decide +kernel
theorem dX5_dealOut_72 : decode cX5_dealOut 72 = .ok (.goto (-51), 3) := by decide +kernel
theorem dX5_dealOut_75 : decode cX5_dealOut 75 = .ok (.return_, 1) := by decide +kernel
theorem dX5_go_0 : decode cX5_go 0 = .ok (.aload_n 0, 1) := by decide +kernel
theorem dX5_go_1 : decode cX5_go 1 = .ok (.getfield 19, 3) := by decide +kernel
theorem dX5_go_4 : decode cX5_go 4 = .ok (.iconst 0, 1) := by decide +kernel
theorem dX5_go_5 : decode cX5_go 5 = .ok (.invokestatic 29, 3) := by decide +kernel
theorem dX5_go_8 : decode cX5_go 8 = .ok (.aload_n 0, 1) := by decide +kernel
theorem dX5_go_9 : decode cX5_go 9 = .ok (.getfield 23, 3) := by decide +kernel
theorem dX5_go_12 : decode cX5_go 12 = .ok (.iconst 0, 1) := by decide +kernel
theorem dX5_go_13 : decode cX5_go 13 = .ok (.invokestatic 29, 3) := by decide +kernel
theorem dX5_go_16 : decode cX5_go 16 = .ok (.aload_n 0, 1) := by decide +kernel
theorem dX5_go_17 : decode cX5_go 17 = .ok (.iconst 0, 1) := by decide +kernel
theorem dX5_go_18 : decode cX5_go 18 = .ok (.putfield 35, 3) := by decide +kernel
theorem dX5_go_21 : decode cX5_go 21 = .ok (.aload_n 0, 1) := by decide +kernel
theorem dX5_go_22 : decode cX5_go 22 = .ok (.iconst 0, 1) := by decide +kernel
theorem dX5_go_23 : decode cX5_go 23 = .ok (.putfield 39, 3) := by decide +kernel
theorem dX5_go_26 : decode cX5_go 26 = .ok (.iconst 1, 1) := by decide +kernel
theorem dX5_go_27 : decode cX5_go 27 = .ok (.istore_n 3, 1) := by decide +kernel
theorem dX5_go_28 : decode cX5_go 28 = .ok (.iload_n 3, 1) := by decide +kernel
theorem dX5_go_29 : decode cX5_go 29 = .ok (.iload_n 2, 1) := by decide +kernel
theorem dX5_go_30 : decode cX5_go 30 = .ok (.if_icmp .gt 15, 3) := by decide +kernel
theorem dX5_go_33 : decode cX5_go 33 = .ok (.aload_n 0, 1) := by decide +kernel
theorem dX5_go_34 : decode cX5_go 34 = .ok (.iload_n 1, 1) := by decide +kernel
theorem dX5_go_35 : decode cX5_go 35 = .ok (.iload_n 3, 1) := by decide +kernel
theorem dX5_go_36 : decode cX5_go 36 = .ok (.invokevirtual 42, 3) := by decide +kernel
theorem dX5_go_39 : decode cX5_go 39 = .ok (.iinc 3 1, 3) := by decide +kernel
theorem dX5_go_42 : decode cX5_go 42 = .ok (.goto (-14), 3) := by decide +kernel
theorem dX5_go_45 : decode cX5_go 45 = .ok (.return_, 1) := by decide +kernel
theorem dX3_servicesOfAllDays_0 : decode cX3_servicesOfAllDays 0 = .ok (.iconst 0, 1) := by decide +kernel
theorem dX3_servicesOfAllDays_1 : decode cX3_servicesOfAllDays 1 = .ok (.istore_n 1, 1) := by decide +kernel
theorem dX3_servicesOfAllDays_2 : decode cX3_servicesOfAllDays 2 = .ok (.iconst 1, 1) := by decide +kernel
theorem dX3_servicesOfAllDays_3 : decode cX3_servicesOfAllDays 3 = .ok (.istore_n 2, 1) := by decide +kernel
theorem dX3_servicesOfAllDays_4 : decode cX3_servicesOfAllDays 4 = .ok (.iload_n 2, 1) := by decide +kernel
theorem dX3_servicesOfAllDays_5 : decode cX3_servicesOfAllDays 5 = .ok (.aload_n 0, 1) := by decide +kernel
theorem dX3_servicesOfAllDays_6 : decode cX3_servicesOfAllDays 6 = .ok (.getfield 15, 3) := by decide +kernel
theorem dX3_servicesOfAllDays_9 : decode cX3_servicesOfAllDays 9 = .ok (.getfield 80, 3) := by decide +kernel
theorem dX3_servicesOfAllDays_12 : decode cX3_servicesOfAllDays 12 = .ok (.if_icmp .gt 17, 3) := by decide +kernel
theorem dX3_servicesOfAllDays_15 : decode cX3_servicesOfAllDays 15 = .ok (.iload_n 1, 1) := by decide +kernel
theorem dX3_servicesOfAllDays_16 : decode cX3_servicesOfAllDays 16 = .ok (.aload_n 0, 1) := by decide +kernel
theorem dX3_servicesOfAllDays_17 : decode cX3_servicesOfAllDays 17 = .ok (.iload_n 2, 1) := by decide +kernel
theorem dX3_servicesOfAllDays_18 : decode cX3_servicesOfAllDays 18 = .ok (.invokevirtual 125, 3) := by decide +kernel
theorem dX3_servicesOfAllDays_21 : decode cX3_servicesOfAllDays 21 = .ok (.iadd, 1) := by decide +kernel
theorem dX3_servicesOfAllDays_22 : decode cX3_servicesOfAllDays 22 = .ok (.istore_n 1, 1) := by decide +kernel
theorem dX3_servicesOfAllDays_23 : decode cX3_servicesOfAllDays 23 = .ok (.iinc 2 1, 3) := by decide +kernel
theorem dX3_servicesOfAllDays_26 : decode cX3_servicesOfAllDays 26 = .ok (.goto (-22), 3) := by decide +kernel
theorem dX3_servicesOfAllDays_29 : decode cX3_servicesOfAllDays 29 = .ok (.iload_n 1, 1) := by decide +kernel
theorem dX3_servicesOfAllDays_30 : decode cX3_servicesOfAllDays 30 = .ok (.ireturn, 1) := by decide +kernel
theorem dX3_howMany_0 : decode cX3_howMany 0 = .ok (.iconst 0, 1) := by decide +kernel
theorem dX3_howMany_1 : decode cX3_howMany 1 = .ok (.istore_n 2, 1) := by decide +kernel
theorem dX3_howMany_2 : decode cX3_howMany 2 = .ok (.iconst 0, 1) := by decide +kernel
theorem dX3_howMany_3 : decode cX3_howMany 3 = .ok (.istore_n 3, 1) := by decide +kernel
theorem dX3_howMany_4 : decode cX3_howMany 4 = .ok (.iload_n 3, 1) := by decide +kernel
theorem dX3_howMany_5 : decode cX3_howMany 5 = .ok (.aload_n 0, 1) := by decide +kernel
theorem dX3_howMany_6 : decode cX3_howMany 6 = .ok (.getfield 9, 3) := by decide +kernel
theorem dX3_howMany_9 : decode cX3_howMany 9 = .ok (.getfield 44, 3) := by decide +kernel
theorem dX3_howMany_12 : decode cX3_howMany 12 = .ok (.if_icmp .ge 27, 3) := by decide +kernel
theorem dX3_howMany_15 : decode cX3_howMany 15 = .ok (.iload_n 2, 1) := by decide +kernel
theorem dX3_howMany_16 : decode cX3_howMany 16 = .ok (.aload_n 0, 1) := by decide +kernel
theorem dX3_howMany_17 : decode cX3_howMany 17 = .ok (.getfield 23, 3) := by decide +kernel
theorem dX3_howMany_20 : decode cX3_howMany 20 = .ok (.iload_n 3, 1) := by decide +kernel
theorem dX3_howMany_21 : decode cX3_howMany 21 = .ok (.iaload, 1) := by decide +kernel
theorem dX3_howMany_22 : decode cX3_howMany 22 = .ok (.iload_n 1, 1) := by decide +kernel
theorem dX3_howMany_23 : decode cX3_howMany 23 = .ok (.if_icmp .ne 7, 3) := by decide +kernel
theorem dX3_howMany_26 : decode cX3_howMany 26 = .ok (.iconst 1, 1) := by decide +kernel
theorem dX3_howMany_27 : decode cX3_howMany 27 = .ok (.goto 4, 3) := by decide +kernel
theorem dX3_howMany_30 : decode cX3_howMany 30 = .ok (.iconst 0, 1) := by decide +kernel
theorem dX3_howMany_31 : decode cX3_howMany 31 = .ok (.iadd, 1) := by decide +kernel
theorem dX3_howMany_32 : decode cX3_howMany 32 = .ok (.istore_n 2, 1) := by decide +kernel
theorem dX3_howMany_33 : decode cX3_howMany 33 = .ok (.iinc 3 1, 3) := by decide +kernel
theorem dX3_howMany_36 : decode cX3_howMany 36 = .ok (.goto (-32), 3) := by decide +kernel
theorem dX3_howMany_39 : decode cX3_howMany 39 = .ok (.iload_n 2, 1) := by decide +kernel
theorem dX3_howMany_40 : decode cX3_howMany 40 = .ok (.ireturn, 1) := by decide +kernel
theorem dX2_sundays_0 : decode cX2_sundays 0 = .ok (.aload_n 0, 1) := by decide +kernel
theorem dX2_sundays_1 : decode cX2_sundays 1 = .ok (.getfield 21, 3) := by decide +kernel
theorem dX2_sundays_4 : decode cX2_sundays 4 = .ok (.aload_n 0, 1) := by decide +kernel
theorem dX2_sundays_5 : decode cX2_sundays 5 = .ok (.iconst 1, 1) := by decide +kernel
theorem dX2_sundays_6 : decode cX2_sundays 6 = .ok (.invokevirtual 38, 3) := by decide +kernel
theorem dX2_sundays_9 : decode cX2_sundays 9 = .ok (.isub, 1) := by decide +kernel
theorem dX2_sundays_10 : decode cX2_sundays 10 = .ok (.bipush 7, 2) := by decide +kernel
theorem dX2_sundays_12 : decode cX2_sundays 12 = .ok (.idiv, 1) := by decide +kernel
theorem dX2_sundays_13 : decode cX2_sundays 13 = .ok (.iconst 1, 1) := by decide +kernel
theorem dX2_sundays_14 : decode cX2_sundays 14 = .ok (.iadd, 1) := by decide +kernel
theorem dX2_sundays_15 : decode cX2_sundays 15 = .ok (.ireturn, 1) := by decide +kernel
theorem dX7_year_0 : decode cX7_year 0 = .ok (.aload_n 0, 1) := by decide +kernel
theorem dX7_year_1 : decode cX7_year 1 = .ok (.getfield 36, 3) := by decide +kernel
theorem dX7_year_4 : decode cX7_year 4 = .ok (.getfield 128, 3) := by decide +kernel
theorem dX7_year_7 : decode cX7_year 7 = .ok (.ifCond .ne 6, 3) := by decide +kernel
theorem dX7_year_10 : decode cX7_year 10 = .ok (.ldc 105, 2) := by decide +kernel
theorem dX7_year_12 : decode cX7_year 12 = .ok (.ireturn, 1) := by decide +kernel
theorem dX7_year_13 : decode cX7_year 13 = .ok (.iload_n 1, 1) := by decide +kernel
theorem dX7_year_14 : decode cX7_year 14 = .ok (.invokestatic 153, 3) := by decide +kernel
theorem dX7_year_17 : decode cX7_year 17 = .ok (.ifCond .eq 13, 3) := by decide +kernel
theorem dX7_year_20 : decode cX7_year 20 = .ok (.iload_n 2, 1) := by decide +kernel
theorem dX7_year_21 : decode cX7_year 21 = .ok (.iconst 0, 1) := by decide +kernel
theorem dX7_year_22 : decode cX7_year 22 = .ok (.bipush 8, 2) := by decide +kernel
theorem dX7_year_24 : decode cX7_year 24 = .ok (.invokestatic 68, 3) := by decide +kernel
theorem dX7_year_27 : decode cX7_year 27 = .ok (.ifCond .ne 6, 3) := by decide +kernel
theorem dX7_year_30 : decode cX7_year 30 = .ok (.ldc 72, 2) := by decide +kernel
theorem dX7_year_32 : decode cX7_year 32 = .ok (.ireturn, 1) := by decide +kernel
theorem dX7_year_33 : decode cX7_year 33 = .ok (.aload_n 0, 1) := by decide +kernel
theorem dX7_year_34 : decode cX7_year 34 = .ok (.getfield 51, 3) := by decide +kernel
theorem dX7_year_37 : decode cX7_year 37 = .ok (.iload_n 1, 1) := by decide +kernel
theorem dX7_year_38 : decode cX7_year 38 = .ok (.iconst (-1), 1) := by decide +kernel
theorem dX7_year_39 : decode cX7_year 39 = .ok (.invokevirtual 156, 3) := by decide +kernel
theorem dX7_year_42 : decode cX7_year 42 = .ok (.aload_n 0, 1) := by decide +kernel
theorem dX7_year_43 : decode cX7_year 43 = .ok (.getfield 51, 3) := by decide +kernel
theorem dX7_year_46 : decode cX7_year 46 = .ok (.getfield 160, 3) := by decide +kernel
theorem dX7_year_49 : decode cX7_year 49 = .ok (.astore_n 3, 1) := by decide +kernel
theorem dX7_year_50 : decode cX7_year 50 = .ok (.iload_n 2, 1) := by decide +kernel
theorem dX7_year_51 : decode cX7_year 51 = .ok (.tableswitch 105 0 7 #[45, 50, 55, 60, 65, 70, 88, 97], 45) := by decide +kernel
theorem dX7_year_96 : decode cX7_year 96 = .ok (.aload_n 3, 1) := by decide +kernel
theorem dX7_year_97 : decode cX7_year 97 = .ok (.getfield 164, 3) := by decide +kernel
theorem dX7_year_100 : decode cX7_year 100 = .ok (.ireturn, 1) := by decide +kernel
theorem dX7_year_101 : decode cX7_year 101 = .ok (.aload_n 3, 1) := by decide +kernel
theorem dX7_year_102 : decode cX7_year 102 = .ok (.getfield 167, 3) := by decide +kernel
theorem dX7_year_105 : decode cX7_year 105 = .ok (.ireturn, 1) := by decide +kernel
theorem dX7_year_106 : decode cX7_year 106 = .ok (.aload_n 3, 1) := by decide +kernel
theorem dX7_year_107 : decode cX7_year 107 = .ok (.getfield 170, 3) := by decide +kernel
theorem dX7_year_110 : decode cX7_year 110 = .ok (.ireturn, 1) := by decide +kernel
theorem dX7_year_111 : decode cX7_year 111 = .ok (.aload_n 3, 1) := by decide +kernel
theorem dX7_year_112 : decode cX7_year 112 = .ok (.getfield 173, 3) := by decide +kernel
theorem dX7_year_115 : decode cX7_year 115 = .ok (.ireturn, 1) := by decide +kernel
theorem dX7_year_116 : decode cX7_year 116 = .ok (.aload_n 3, 1) := by decide +kernel
theorem dX7_year_117 : decode cX7_year 117 = .ok (.invokevirtual 176, 3) := by decide +kernel
theorem dX7_year_120 : decode cX7_year 120 = .ok (.ireturn, 1) := by decide +kernel
theorem dX7_year_121 : decode cX7_year 121 = .ok (.aload_n 0, 1) := by decide +kernel
theorem dX7_year_122 : decode cX7_year 122 = .ok (.getfield 51, 3) := by decide +kernel
theorem dX7_year_125 : decode cX7_year 125 = .ok (.iconst 1, 1) := by decide +kernel
theorem dX7_year_126 : decode cX7_year 126 = .ok (.invokevirtual 180, 3) := by decide +kernel
theorem dX7_year_129 : decode cX7_year 129 = .ok (.aload_n 0, 1) := by decide +kernel
theorem dX7_year_130 : decode cX7_year 130 = .ok (.getfield 51, 3) := by decide +kernel
theorem dX7_year_133 : decode cX7_year 133 = .ok (.iconst 2, 1) := by decide +kernel
theorem dX7_year_134 : decode cX7_year 134 = .ok (.invokevirtual 180, 3) := by decide +kernel
theorem dX7_year_137 : decode cX7_year 137 = .ok (.iadd, 1) := by decide +kernel
theorem dX7_year_138 : decode cX7_year 138 = .ok (.ireturn, 1) := by decide +kernel
theorem dX7_year_139 : decode cX7_year 139 = .ok (.aload_n 0, 1) := by decide +kernel
theorem dX7_year_140 : decode cX7_year 140 = .ok (.getfield 51, 3) := by decide +kernel
theorem dX7_year_143 : decode cX7_year 143 = .ok (.iconst 3, 1) := by decide +kernel
theorem dX7_year_144 : decode cX7_year 144 = .ok (.invokevirtual 180, 3) := by decide +kernel
theorem dX7_year_147 : decode cX7_year 147 = .ok (.ireturn, 1) := by decide +kernel
theorem dX7_year_148 : decode cX7_year 148 = .ok (.aload_n 0, 1) := by decide +kernel
theorem dX7_year_149 : decode cX7_year 149 = .ok (.getfield 51, 3) := by decide +kernel
theorem dX7_year_152 : decode cX7_year 152 = .ok (.invokevirtual 184, 3) := by decide +kernel
theorem dX7_year_155 : decode cX7_year 155 = .ok (.ireturn, 1) := by decide +kernel
theorem dX7_year_156 : decode cX7_year 156 = .ok (.aload_n 0, 1) := by decide +kernel
theorem dX7_year_157 : decode cX7_year 157 = .ok (.getfield 60, 3) := by decide +kernel
theorem dX7_year_160 : decode cX7_year 160 = .ok (.aload_n 0, 1) := by decide +kernel
theorem dX7_year_161 : decode cX7_year 161 = .ok (.getfield 36, 3) := by decide +kernel
theorem dX7_year_164 : decode cX7_year 164 = .ok (.getfield 141, 3) := by decide +kernel
theorem dX7_year_167 : decode cX7_year 167 = .ok (.iconst 5, 1) := by decide +kernel
theorem dX7_year_168 : decode cX7_year 168 = .ok (.iaload, 1) := by decide +kernel
theorem dX7_year_169 : decode cX7_year 169 = .ok (.aload_n 3, 1) := by decide +kernel
theorem dX7_year_170 : decode cX7_year 170 = .ok (.getfield 164, 3) := by decide +kernel
theorem dX7_year_173 : decode cX7_year 173 = .ok (.invokevirtual 187, 3) := by decide +kernel
theorem dX7_year_176 : decode cX7_year 176 = .ok (.aload_n 0, 1) := by decide +kernel
theorem dX7_year_177 : decode cX7_year 177 = .ok (.getfield 60, 3) := by decide +kernel
theorem dX7_year_180 : decode cX7_year 180 = .ok (.getfield 190, 3) := by decide +kernel
theorem dX7_year_183 : decode cX7_year 183 = .ok (.ireturn, 1) := by decide +kernel
theorem dX8_isYear_0 : decode cX8_isYear 0 = .ok (.iload_n 0, 1) := by decide +kernel
theorem dX8_isYear_1 : decode cX8_isYear 1 = .ok (.i2l, 1) := by decide +kernel
theorem dX8_isYear_2 : decode cX8_isYear 2 = .ok (.lconst 1, 1) := by decide +kernel
theorem dX8_isYear_3 : decode cX8_isYear 3 = .ok (.ldc2_w 53, 3) := by decide +kernel
theorem dX8_isYear_6 : decode cX8_isYear 6 = .ok (.invokestatic 55, 3) := by decide +kernel
theorem dX8_isYear_9 : decode cX8_isYear 9 = .ok (.ireturn, 1) := by decide +kernel
theorem dX8_isLeap_0 : decode cX8_isLeap 0 = .ok (.aload_n 0, 1) := by decide +kernel
theorem dX8_isLeap_1 : decode cX8_isLeap 1 = .ok (.getfield 7, 3) := by decide +kernel
theorem dX8_isLeap_4 : decode cX8_isLeap 4 = .ok (.iconst 0, 1) := by decide +kernel
theorem dX8_isLeap_5 : decode cX8_isLeap 5 = .ok (.iaload, 1) := by decide +kernel
theorem dX8_isLeap_6 : decode cX8_isLeap 6 = .ok (.iconst 1, 1) := by decide +kernel
theorem dX8_isLeap_7 : decode cX8_isLeap 7 = .ok (.if_icmp .ne 9, 3) := by decide +kernel
theorem dX8_isLeap_10 : decode cX8_isLeap 10 = .ok (.iload_n 1, 1) := by decide +kernel
theorem dX8_isLeap_11 : decode cX8_isLeap 11 = .ok (.iconst 4, 1) := by decide +kernel
theorem dX8_isLeap_12 : decode cX8_isLeap 12 = .ok (.irem, 1) := by decide +kernel
theorem dX8_isLeap_13 : decode cX8_isLeap 13 = .ok (.ifCond .eq 34, 3) := by decide +kernel
theorem dX8_isLeap_16 : decode cX8_isLeap 16 = .ok (.aload_n 0, 1) := by decide +kernel
theorem dX8_isLeap_17 : decode cX8_isLeap 17 = .ok (.getfield 7, 3) := by decide +kernel
theorem dX8_isLeap_20 : decode cX8_isLeap 20 = .ok (.iconst 0, 1) := by decide +kernel
theorem dX8_isLeap_21 : decode cX8_isLeap 21 = .ok (.iaload, 1) := by decide +kernel
theorem dX8_isLeap_22 : decode cX8_isLeap 22 = .ok (.iconst 2, 1) := by decide +kernel
theorem dX8_isLeap_23 : decode cX8_isLeap 23 = .ok (.if_icmp .ne 28, 3) := by decide +kernel
theorem dX8_isLeap_26 : decode cX8_isLeap 26 = .ok (.iload_n 1, 1) := by decide +kernel
theorem dX8_isLeap_27 : decode cX8_isLeap 27 = .ok (.iconst 4, 1) := by decide +kernel
theorem dX8_isLeap_28 : decode cX8_isLeap 28 = .ok (.irem, 1) := by decide +kernel
theorem dX8_isLeap_29 : decode cX8_isLeap 29 = .ok (.ifCond .ne 10, 3) := by decide +kernel
theorem dX8_isLeap_32 : decode cX8_isLeap 32 = .ok (.iload_n 1, 1) := by decide +kernel
theorem dX8_isLeap_33 : decode cX8_isLeap 33 = .ok (.bipush 100, 2) := by decide +kernel
theorem dX8_isLeap_35 : decode cX8_isLeap 35 = .ok (.irem, 1) := by decide +kernel
theorem dX8_isLeap_36 : decode cX8_isLeap 36 = .ok (.ifCond .ne 11, 3) := by decide +kernel
theorem dX8_isLeap_39 : decode cX8_isLeap 39 = .ok (.iload_n 1, 1) := by decide +kernel
theorem dX8_isLeap_40 : decode cX8_isLeap 40 = .ok (.sipush 400, 3) := by decide +kernel
theorem dX8_isLeap_43 : decode cX8_isLeap 43 = .ok (.irem, 1) := by decide +kernel
theorem dX8_isLeap_44 : decode cX8_isLeap 44 = .ok (.ifCond .ne 7, 3) := by decide +kernel
theorem dX8_isLeap_47 : decode cX8_isLeap 47 = .ok (.iconst 1, 1) := by decide +kernel
theorem dX8_isLeap_48 : decode cX8_isLeap 48 = .ok (.goto 4, 3) := by decide +kernel
theorem dX8_isLeap_51 : decode cX8_isLeap 51 = .ok (.iconst 0, 1) := by decide +kernel
theorem dX8_isLeap_52 : decode cX8_isLeap 52 = .ok (.ireturn, 1) := by decide +kernel
theorem dX8_opens_0 : decode cX8_opens 0 = .ok (.aload_n 0, 1) := by decide +kernel
theorem dX8_opens_1 : decode cX8_opens 1 = .ok (.aload_n 0, 1) := by decide +kernel
theorem dX8_opens_2 : decode cX8_opens 2 = .ok (.iload_n 1, 1) := by decide +kernel
theorem dX8_opens_3 : decode cX8_opens 3 = .ok (.invokevirtual 59, 3) := by decide +kernel
theorem dX8_opens_6 : decode cX8_opens 6 = .ok (.ifCond .eq 9, 3) := by decide +kernel
theorem dX8_opens_9 : decode cX8_opens 9 = .ok (.sipush 366, 3) := by decide +kernel
theorem dX8_opens_12 : decode cX8_opens 12 = .ok (.goto 6, 3) := by decide +kernel
theorem dX8_opens_15 : decode cX8_opens 15 = .ok (.sipush 365, 3) := by decide +kernel
theorem dX8_opens_18 : decode cX8_opens 18 = .ok (.putfield 71, 3) := by decide +kernel
theorem dX8_opens_21 : decode cX8_opens 21 = .ok (.aload_n 0, 1) := by decide +kernel
theorem dX8_opens_22 : decode cX8_opens 22 = .ok (.getfield 7, 3) := by decide +kernel
theorem dX8_opens_25 : decode cX8_opens 25 = .ok (.iconst 2, 1) := by decide +kernel
theorem dX8_opens_26 : decode cX8_opens 26 = .ok (.iaload, 1) := by decide +kernel
theorem dX8_opens_27 : decode cX8_opens 27 = .ok (.istore_n 2, 1) := by decide +kernel
theorem dX8_opens_28 : decode cX8_opens 28 = .ok (.iconst 1, 1) := by decide +kernel
theorem dX8_opens_29 : decode cX8_opens 29 = .ok (.istore_n 3, 1) := by decide +kernel
theorem dX8_opens_30 : decode cX8_opens 30 = .ok (.iload_n 3, 1) := by decide +kernel
theorem dX8_opens_31 : decode cX8_opens 31 = .ok (.iload_n 1, 1) := by decide +kernel
theorem dX8_opens_32 : decode cX8_opens 32 = .ok (.if_icmp .ge 29, 3) := by decide +kernel
theorem dX8_opens_35 : decode cX8_opens 35 = .ok (.iload_n 2, 1) := by decide +kernel
theorem dX8_opens_36 : decode cX8_opens 36 = .ok (.aload_n 0, 1) := by decide +kernel
theorem dX8_opens_37 : decode cX8_opens 37 = .ok (.iload_n 3, 1) := by decide +kernel
theorem dX8_opens_38 : decode cX8_opens 38 = .ok (.invokevirtual 59, 3) := by decide +kernel
theorem dX8_opens_41 : decode cX8_opens 41 = .ok (.ifCond .eq 9, 3) := by decide +kernel
theorem dX8_opens_44 : decode cX8_opens 44 = .ok (.sipush 366, 3) := by decide +kernel
theorem dX8_opens_47 : decode cX8_opens 47 = .ok (.goto 6, 3) := by decide +kernel
theorem dX8_opens_50 : decode cX8_opens 50 = .ok (.sipush 365, 3) := by decide +kernel
theorem dX8_opens_53 : decode cX8_opens 53 = .ok (.iadd, 1) := by decide +kernel
theorem dX8_opens_54 : decode cX8_opens 54 = .ok (.istore_n 2, 1) := by decide +kernel
theorem dX8_opens_55 : decode cX8_opens 55 = .ok (.iinc 3 1, 3) := by decide +kernel
theorem dX8_opens_58 : decode cX8_opens 58 = .ok (.goto (-28), 3) := by decide +kernel
theorem dX8_opens_61 : decode cX8_opens 61 = .ok (.aload_n 0, 1) := by decide +kernel
theorem dX8_opens_62 : decode cX8_opens 62 = .ok (.iload_n 2, 1) := by decide +kernel
theorem dX8_opens_63 : decode cX8_opens 63 = .ok (.bipush 7, 2) := by decide +kernel
theorem dX8_opens_65 : decode cX8_opens 65 = .ok (.irem, 1) := by decide +kernel
theorem dX8_opens_66 : decode cX8_opens 66 = .ok (.putfield 63, 3) := by decide +kernel
theorem dX8_opens_69 : decode cX8_opens 69 = .ok (.return_, 1) := by decide +kernel
theorem dX8_isAhead_0 : decode cX8_isAhead 0 = .ok (.aload_n 0, 1) := by decide +kernel
theorem dX8_isAhead_1 : decode cX8_isAhead 1 = .ok (.iload_n 1, 1) := by decide +kernel
theorem dX8_isAhead_2 : decode cX8_isAhead 2 = .ok (.iconst 2, 1) := by decide +kernel
theorem dX8_isAhead_3 : decode cX8_isAhead 3 = .ok (.invokevirtual 84, 3) := by decide +kernel
theorem dX8_isAhead_6 : decode cX8_isAhead 6 = .ok (.aload_n 0, 1) := by decide +kernel
theorem dX8_isAhead_7 : decode cX8_isAhead 7 = .ok (.iload_n 2, 1) := by decide +kernel
theorem dX8_isAhead_8 : decode cX8_isAhead 8 = .ok (.iconst 2, 1) := by decide +kernel
theorem dX8_isAhead_9 : decode cX8_isAhead 9 = .ok (.invokevirtual 84, 3) := by decide +kernel
theorem dX8_isAhead_12 : decode cX8_isAhead 12 = .ok (.if_icmp .eq 24, 3) := by decide +kernel
theorem dX8_isAhead_15 : decode cX8_isAhead 15 = .ok (.aload_n 0, 1) := by decide +kernel
theorem dX8_isAhead_16 : decode cX8_isAhead 16 = .ok (.iload_n 1, 1) := by decide +kernel
theorem dX8_isAhead_17 : decode cX8_isAhead 17 = .ok (.iconst 2, 1) := by decide +kernel
theorem dX8_isAhead_18 : decode cX8_isAhead 18 = .ok (.invokevirtual 84, 3) := by decide +kernel
theorem dX8_isAhead_21 : decode cX8_isAhead 21 = .ok (.aload_n 0, 1) := by decide +kernel
theorem dX8_isAhead_22 : decode cX8_isAhead 22 = .ok (.iload_n 2, 1) := by decide +kernel
theorem dX8_isAhead_23 : decode cX8_isAhead 23 = .ok (.iconst 2, 1) := by decide +kernel
theorem dX8_isAhead_24 : decode cX8_isAhead 24 = .ok (.invokevirtual 84, 3) := by decide +kernel
theorem dX8_isAhead_27 : decode cX8_isAhead 27 = .ok (.if_icmp .le 7, 3) := by decide +kernel
theorem dX8_isAhead_30 : decode cX8_isAhead 30 = .ok (.iconst 1, 1) := by decide +kernel
theorem dX8_isAhead_31 : decode cX8_isAhead 31 = .ok (.goto 4, 3) := by decide +kernel
theorem dX8_isAhead_34 : decode cX8_isAhead 34 = .ok (.iconst 0, 1) := by decide +kernel
theorem dX8_isAhead_35 : decode cX8_isAhead 35 = .ok (.ireturn, 1) := by decide +kernel
theorem dX8_isAhead_36 : decode cX8_isAhead 36 = .ok (.aload_n 0, 1) := by decide +kernel
theorem dX8_isAhead_37 : decode cX8_isAhead 37 = .ok (.iload_n 1, 1) := by decide +kernel
theorem dX8_isAhead_38 : decode cX8_isAhead 38 = .ok (.iconst 0, 1) := by decide +kernel
theorem dX8_isAhead_39 : decode cX8_isAhead 39 = .ok (.invokevirtual 84, 3) := by decide +kernel
theorem dX8_isAhead_42 : decode cX8_isAhead 42 = .ok (.aload_n 0, 1) := by decide +kernel
theorem dX8_isAhead_43 : decode cX8_isAhead 43 = .ok (.iload_n 2, 1) := by decide +kernel
theorem dX8_isAhead_44 : decode cX8_isAhead 44 = .ok (.iconst 0, 1) := by decide +kernel
theorem dX8_isAhead_45 : decode cX8_isAhead 45 = .ok (.invokevirtual 84, 3) := by decide +kernel
theorem dX8_isAhead_48 : decode cX8_isAhead 48 = .ok (.if_icmp .lt 23, 3) := by decide +kernel
theorem dX8_isAhead_51 : decode cX8_isAhead 51 = .ok (.aload_n 0, 1) := by decide +kernel
theorem dX8_isAhead_52 : decode cX8_isAhead 52 = .ok (.iload_n 1, 1) := by decide +kernel
theorem dX8_isAhead_53 : decode cX8_isAhead 53 = .ok (.iconst 0, 1) := by decide +kernel
theorem dX8_isAhead_54 : decode cX8_isAhead 54 = .ok (.invokevirtual 84, 3) := by decide +kernel
theorem dX8_isAhead_57 : decode cX8_isAhead 57 = .ok (.aload_n 0, 1) := by decide +kernel
theorem dX8_isAhead_58 : decode cX8_isAhead 58 = .ok (.iload_n 2, 1) := by decide +kernel
theorem dX8_isAhead_59 : decode cX8_isAhead 59 = .ok (.iconst 0, 1) := by decide +kernel
theorem dX8_isAhead_60 : decode cX8_isAhead 60 = .ok (.invokevirtual 84, 3) := by decide +kernel
theorem dX8_isAhead_63 : decode cX8_isAhead 63 = .ok (.if_icmp .ne 12, 3) := by decide +kernel
theorem dX8_isAhead_66 : decode cX8_isAhead 66 = .ok (.iload_n 1, 1) := by decide +kernel
theorem dX8_isAhead_67 : decode cX8_isAhead 67 = .ok (.iload_n 2, 1) := by decide +kernel
theorem dX8_isAhead_68 : decode cX8_isAhead 68 = .ok (.if_icmp .ge 7, 3) := by decide +kernel
theorem dX8_isAhead_71 : decode cX8_isAhead 71 = .ok (.iconst 1, 1) := by decide +kernel
theorem dX8_isAhead_72 : decode cX8_isAhead 72 = .ok (.goto 4, 3) := by decide +kernel
theorem dX8_isAhead_75 : decode cX8_isAhead 75 = .ok (.iconst 0, 1) := by decide +kernel
theorem dX8_isAhead_76 : decode cX8_isAhead 76 = .ok (.ireturn, 1) := by decide +kernel
theorem dX8_nextFeast_0 : decode cX8_nextFeast 0 = .ok (.ldc 90, 2) := by decide +kernel
theorem dX8_nextFeast_2 : decode cX8_nextFeast 2 = .ok (.istore_n 1, 1) := by decide +kernel
theorem dX8_nextFeast_3 : decode cX8_nextFeast 3 = .ok (.iconst 0, 1) := by decide +kernel
theorem dX8_nextFeast_4 : decode cX8_nextFeast 4 = .ok (.istore_n 2, 1) := by decide +kernel
theorem dX8_nextFeast_5 : decode cX8_nextFeast 5 = .ok (.iload_n 2, 1) := by decide +kernel
theorem dX8_nextFeast_6 : decode cX8_nextFeast 6 = .ok (.aload_n 0, 1) := by decide +kernel
theorem dX8_nextFeast_7 : decode cX8_nextFeast 7 = .ok (.getfield 7, 3) := by decide +kernel
theorem dX8_nextFeast_10 : decode cX8_nextFeast 10 = .ok (.bipush 6, 2) := by decide +kernel
theorem dX8_nextFeast_12 : decode cX8_nextFeast 12 = .ok (.iaload, 1) := by decide +kernel
theorem dX8_nextFeast_13 : decode cX8_nextFeast 13 = .ok (.if_icmp .ge 39, 3) := by decide +kernel
theorem dX8_nextFeast_16 : decode cX8_nextFeast 16 = .ok (.aload_n 0, 1) := by decide +kernel
theorem dX8_nextFeast_17 : decode cX8_nextFeast 17 = .ok (.getfield 41, 3) := by decide +kernel
theorem dX8_nextFeast_20 : decode cX8_nextFeast 20 = .ok (.iload_n 2, 1) := by decide +kernel
theorem dX8_nextFeast_21 : decode cX8_nextFeast 21 = .ok (.baload, 1) := by decide +kernel
theorem dX8_nextFeast_22 : decode cX8_nextFeast 22 = .ok (.ifCond .ne 22, 3) := by decide +kernel
theorem dX8_nextFeast_25 : decode cX8_nextFeast 25 = .ok (.iload_n 1, 1) := by decide +kernel
theorem dX8_nextFeast_26 : decode cX8_nextFeast 26 = .ok (.ldc 90, 2) := by decide +kernel
theorem dX8_nextFeast_28 : decode cX8_nextFeast 28 = .ok (.if_icmp .eq 12, 3) := by decide +kernel
theorem dX8_nextFeast_31 : decode cX8_nextFeast 31 = .ok (.aload_n 0, 1) := by decide +kernel
theorem dX8_nextFeast_32 : decode cX8_nextFeast 32 = .ok (.iload_n 2, 1) := by decide +kernel
theorem dX8_nextFeast_33 : decode cX8_nextFeast 33 = .ok (.iload_n 1, 1) := by decide +kernel
theorem dX8_nextFeast_34 : decode cX8_nextFeast 34 = .ok (.invokevirtual 115, 3) := by decide +kernel
theorem dX8_nextFeast_37 : decode cX8_nextFeast 37 = .ok (.ifCond .eq 7, 3) := by decide +kernel
theorem dX8_nextFeast_40 : decode cX8_nextFeast 40 = .ok (.iload_n 2, 1) := by decide +kernel
theorem dX8_nextFeast_41 : decode cX8_nextFeast 41 = .ok (.goto 4, 3) := by decide +kernel
theorem dX8_nextFeast_44 : decode cX8_nextFeast 44 = .ok (.iload_n 1, 1) := by decide +kernel
theorem dX8_nextFeast_45 : decode cX8_nextFeast 45 = .ok (.istore_n 1, 1) := by decide +kernel
theorem dX8_nextFeast_46 : decode cX8_nextFeast 46 = .ok (.iinc 2 1, 3) := by decide +kernel
theorem dX8_nextFeast_49 : decode cX8_nextFeast 49 = .ok (.goto (-44), 3) := by decide +kernel
theorem dX8_nextFeast_52 : decode cX8_nextFeast 52 = .ok (.iload_n 1, 1) := by decide +kernel
theorem dX8_nextFeast_53 : decode cX8_nextFeast 53 = .ok (.ireturn, 1) := by decide +kernel
theorem dX8_isFree_0 : decode cX8_isFree 0 = .ok (.aload_n 0, 1) := by decide +kernel
theorem dX8_isFree_1 : decode cX8_isFree 1 = .ok (.getfield 29, 3) := by decide +kernel
theorem dX8_isFree_4 : decode cX8_isFree 4 = .ok (.iload_n 1, 1) := by decide +kernel
theorem dX8_isFree_5 : decode cX8_isFree 5 = .ok (.iaload, 1) := by decide +kernel
theorem dX8_isFree_6 : decode cX8_isFree 6 = .ok (.ifCond .ne 7, 3) := by decide +kernel
theorem dX8_isFree_9 : decode cX8_isFree 9 = .ok (.iconst 1, 1) := by decide +kernel
theorem dX8_isFree_10 : decode cX8_isFree 10 = .ok (.goto 4, 3) := by decide +kernel
theorem dX8_isFree_13 : decode cX8_isFree 13 = .ok (.iconst 0, 1) := by decide +kernel
theorem dX8_isFree_14 : decode cX8_isFree 14 = .ok (.ireturn, 1) := by decide +kernel
theorem dX8_holds_0 : decode cX8_holds 0 = .ok (.aload_n 0, 1) := by decide +kernel
theorem dX8_holds_1 : decode cX8_holds 1 = .ok (.getfield 35, 3) := by decide +kernel
theorem dX8_holds_4 : decode cX8_holds 4 = .ok (.iload_n 1, 1) := by decide +kernel
theorem dX8_holds_5 : decode cX8_holds 5 = .ok (.iload_n 2, 1) := by decide +kernel
theorem dX8_holds_6 : decode cX8_holds 6 = .ok (.iastore, 1) := by decide +kernel
theorem dX8_holds_7 : decode cX8_holds 7 = .ok (.aload_n 0, 1) := by decide +kernel
theorem dX8_holds_8 : decode cX8_holds 8 = .ok (.getfield 38, 3) := by decide +kernel
theorem dX8_holds_11 : decode cX8_holds 11 = .ok (.iload_n 1, 1) := by decide +kernel
theorem dX8_holds_12 : decode cX8_holds 12 = .ok (.iload_n 3, 1) := by decide +kernel
theorem dX8_holds_13 : decode cX8_holds 13 = .ok (.iastore, 1) := by decide +kernel
theorem dX8_holds_14 : decode cX8_holds 14 = .ok (.iload_n 3, 1) := by decide +kernel
theorem dX8_holds_15 : decode cX8_holds 15 = .ok (.ifCond .le 17, 3) := by decide +kernel
theorem dX8_holds_18 : decode cX8_holds 18 = .ok (.iload_n 2, 1) := by decide +kernel
theorem dX8_holds_19 : decode cX8_holds 19 = .ok (.iconst 2, 1) := by decide +kernel
theorem dX8_holds_20 : decode cX8_holds 20 = .ok (.if_icmp .gt 12, 3) := by decide +kernel
theorem dX8_holds_23 : decode cX8_holds 23 = .ok (.aload_n 0, 1) := by decide +kernel
theorem dX8_holds_24 : decode cX8_holds 24 = .ok (.getfield 29, 3) := by decide +kernel
theorem dX8_holds_27 : decode cX8_holds 27 = .ok (.iload_n 3, 1) := by decide +kernel
theorem dX8_holds_28 : decode cX8_holds 28 = .ok (.iload_n 1, 1) := by decide +kernel
theorem dX8_holds_29 : decode cX8_holds 29 = .ok (.iconst 1, 1) := by decide +kernel
theorem dX8_holds_30 : decode cX8_holds 30 = .ok (.iadd, 1) := by decide +kernel
theorem dX8_holds_31 : decode cX8_holds 31 = .ok (.iastore, 1) := by decide +kernel
theorem dX8_holds_32 : decode cX8_holds 32 = .ok (.return_, 1) := by decide +kernel
theorem dX8_freeBehind_0 : decode cX8_freeBehind 0 = .ok (.iload_n 1, 1) := by decide +kernel
theorem dX8_freeBehind_1 : decode cX8_freeBehind 1 = .ok (.iconst 1, 1) := by decide +kernel
theorem dX8_freeBehind_2 : decode cX8_freeBehind 2 = .ok (.iadd, 1) := by decide +kernel
theorem dX8_freeBehind_3 : decode cX8_freeBehind 3 = .ok (.istore_n 3, 1) := by decide +kernel
theorem dX8_freeBehind_4 : decode cX8_freeBehind 4 = .ok (.iload_n 3, 1) := by decide +kernel
theorem dX8_freeBehind_5 : decode cX8_freeBehind 5 = .ok (.iload_n 2, 1) := by decide +kernel
theorem dX8_freeBehind_6 : decode cX8_freeBehind 6 = .ok (.if_icmp .gt 27, 3) := by decide +kernel
theorem dX8_freeBehind_9 : decode cX8_freeBehind 9 = .ok (.iload_n 3, 1) := by decide +kernel
theorem dX8_freeBehind_10 : decode cX8_freeBehind 10 = .ok (.aload_n 0, 1) := by decide +kernel
theorem dX8_freeBehind_11 : decode cX8_freeBehind 11 = .ok (.getfield 71, 3) := by decide +kernel
theorem dX8_freeBehind_14 : decode cX8_freeBehind 14 = .ok (.if_icmp .gt 19, 3) := by decide +kernel
theorem dX8_freeBehind_17 : decode cX8_freeBehind 17 = .ok (.aload_n 0, 1) := by decide +kernel
theorem dX8_freeBehind_18 : decode cX8_freeBehind 18 = .ok (.iload_n 3, 1) := by decide +kernel
theorem dX8_freeBehind_19 : decode cX8_freeBehind 19 = .ok (.invokevirtual 91, 3) := by decide +kernel
theorem dX8_freeBehind_22 : decode cX8_freeBehind 22 = .ok (.ifCond .eq 5, 3) := by decide +kernel
theorem dX8_freeBehind_25 : decode cX8_freeBehind 25 = .ok (.iload_n 3, 1) := by decide +kernel
theorem dX8_freeBehind_26 : decode cX8_freeBehind 26 = .ok (.ireturn, 1) := by decide +kernel
theorem dX8_freeBehind_27 : decode cX8_freeBehind 27 = .ok (.iinc 3 1, 3) := by decide +kernel
theorem dX8_freeBehind_30 : decode cX8_freeBehind 30 = .ok (.goto (-26), 3) := by decide +kernel
theorem dX8_freeBehind_33 : decode cX8_freeBehind 33 = .ok (.ldc 90, 2) := by decide +kernel
theorem dX8_freeBehind_35 : decode cX8_freeBehind 35 = .ok (.ireturn, 1) := by decide +kernel
theorem dX8_weekdayOf_0 : decode cX8_weekdayOf 0 = .ok (.aload_n 0, 1) := by decide +kernel
theorem dX8_weekdayOf_1 : decode cX8_weekdayOf 1 = .ok (.getfield 63, 3) := by decide +kernel
theorem dX8_weekdayOf_4 : decode cX8_weekdayOf 4 = .ok (.iload_n 1, 1) := by decide +kernel
theorem dX8_weekdayOf_5 : decode cX8_weekdayOf 5 = .ok (.iadd, 1) := by decide +kernel
theorem dX8_weekdayOf_6 : decode cX8_weekdayOf 6 = .ok (.iconst 1, 1) := by decide +kernel
theorem dX8_weekdayOf_7 : decode cX8_weekdayOf 7 = .ok (.isub, 1) := by decide +kernel
theorem dX8_weekdayOf_8 : decode cX8_weekdayOf 8 = .ok (.bipush 7, 2) := by decide +kernel
theorem dX8_weekdayOf_10 : decode cX8_weekdayOf 10 = .ok (.irem, 1) := by decide +kernel
theorem dX8_weekdayOf_11 : decode cX8_weekdayOf 11 = .ok (.ireturn, 1) := by decide +kernel
theorem dX8_comes_0 : decode cX8_comes 0 = .ok (.aload_n 0, 1) := by decide +kernel
theorem dX8_comes_1 : decode cX8_comes 1 = .ok (.getfield 32, 3) := by decide +kernel
theorem dX8_comes_4 : decode cX8_comes 4 = .ok (.iload_n 1, 1) := by decide +kernel
theorem dX8_comes_5 : decode cX8_comes 5 = .ok (.iaload, 1) := by decide +kernel
theorem dX8_comes_6 : decode cX8_comes 6 = .ok (.istore_n 2, 1) := by decide +kernel
theorem dX8_comes_7 : decode cX8_comes 7 = .ok (.aload_n 0, 1) := by decide +kernel
theorem dX8_comes_8 : decode cX8_comes 8 = .ok (.iload_n 1, 1) := by decide +kernel
theorem dX8_comes_9 : decode cX8_comes 9 = .ok (.iconst 2, 1) := by decide +kernel
theorem dX8_comes_10 : decode cX8_comes 10 = .ok (.invokevirtual 84, 3) := by decide +kernel
theorem dX8_comes_13 : decode cX8_comes 13 = .ok (.istore_n 3, 1) := by decide +kernel
theorem dX8_comes_14 : decode cX8_comes 14 = .ok (.iload_n 3, 1) := by decide +kernel
theorem dX8_comes_15 : decode cX8_comes 15 = .ok (.iconst 2, 1) := by decide +kernel
theorem dX8_comes_16 : decode cX8_comes 16 = .ok (.if_icmp .gt 11, 3) := by decide +kernel
theorem dX8_comes_19 : decode cX8_comes 19 = .ok (.aload_n 0, 1) := by decide +kernel
theorem dX8_comes_20 : decode cX8_comes 20 = .ok (.iload_n 2, 1) := by decide +kernel
theorem dX8_comes_21 : decode cX8_comes 21 = .ok (.invokevirtual 67, 3) := by decide +kernel
theorem dX8_comes_24 : decode cX8_comes 24 = .ok (.ifCond .eq 7, 3) := by decide +kernel
theorem dX8_comes_27 : decode cX8_comes 27 = .ok (.iconst 1, 1) := by decide +kernel
theorem dX8_comes_28 : decode cX8_comes 28 = .ok (.goto 4, 3) := by decide +kernel
theorem dX8_comes_31 : decode cX8_comes 31 = .ok (.iconst 0, 1) := by decide +kernel
theorem dX8_comes_32 : decode cX8_comes 32 = .ok (.istore 4, 2) := by decide +kernel
theorem dX8_comes_34 : decode cX8_comes 34 = .ok (.aload_n 0, 1) := by decide +kernel
theorem dX8_comes_35 : decode cX8_comes 35 = .ok (.iload_n 2, 1) := by decide +kernel
theorem dX8_comes_36 : decode cX8_comes 36 = .ok (.invokevirtual 91, 3) := by decide +kernel
theorem dX8_comes_39 : decode cX8_comes 39 = .ok (.ifCond .eq 18, 3) := by decide +kernel
theorem dX8_comes_42 : decode cX8_comes 42 = .ok (.iload 4, 2) := by decide +kernel
theorem dX8_comes_44 : decode cX8_comes 44 = .ok (.ifCond .eq 13, 3) := by decide +kernel
theorem dX8_comes_47 : decode cX8_comes 47 = .ok (.aload_n 0, 1) := by decide +kernel
theorem dX8_comes_48 : decode cX8_comes 48 = .ok (.iload_n 1, 1) := by decide +kernel
theorem dX8_comes_49 : decode cX8_comes 49 = .ok (.iconst 1, 1) := by decide +kernel
theorem dX8_comes_50 : decode cX8_comes 50 = .ok (.iload_n 2, 1) := by decide +kernel
theorem dX8_comes_51 : decode cX8_comes 51 = .ok (.invokevirtual 94, 3) := by decide +kernel
theorem dX8_comes_54 : decode cX8_comes 54 = .ok (.goto 116, 3) := by decide +kernel
theorem dX8_comes_57 : decode cX8_comes 57 = .ok (.iload_n 3, 1) := by decide +kernel
theorem dX8_comes_58 : decode cX8_comes 58 = .ok (.iconst 3, 1) := by decide +kernel
theorem dX8_comes_59 : decode cX8_comes 59 = .ok (.if_icmp .le 36, 3) := by decide +kernel
theorem dX8_comes_62 : decode cX8_comes 62 = .ok (.aload_n 0, 1) := by decide +kernel
theorem dX8_comes_63 : decode cX8_comes 63 = .ok (.iload_n 2, 1) := by decide +kernel
theorem dX8_comes_64 : decode cX8_comes 64 = .ok (.aload_n 0, 1) := by decide +kernel
theorem dX8_comes_65 : decode cX8_comes 65 = .ok (.getfield 71, 3) := by decide +kernel
theorem dX8_comes_68 : decode cX8_comes 68 = .ok (.invokevirtual 98, 3) := by decide +kernel
theorem dX8_comes_71 : decode cX8_comes 71 = .ok (.istore 5, 2) := by decide +kernel
theorem dX8_comes_73 : decode cX8_comes 73 = .ok (.aload_n 0, 1) := by decide +kernel
theorem dX8_comes_74 : decode cX8_comes 74 = .ok (.iload_n 1, 1) := by decide +kernel
theorem dX8_comes_75 : decode cX8_comes 75 = .ok (.iload 5, 2) := by decide +kernel
theorem dX8_comes_77 : decode cX8_comes 77 = .ok (.ldc 90, 2) := by decide +kernel
theorem dX8_comes_79 : decode cX8_comes 79 = .ok (.if_icmp .ne 7, 3) := by decide +kernel
theorem dX8_comes_82 : decode cX8_comes 82 = .ok (.iconst 5, 1) := by decide +kernel
theorem dX8_comes_83 : decode cX8_comes 83 = .ok (.goto 4, 3) := by decide +kernel
theorem dX8_comes_86 : decode cX8_comes 86 = .ok (.iconst 2, 1) := by decide +kernel
theorem dX8_comes_87 : decode cX8_comes 87 = .ok (.iload 5, 2) := by decide +kernel
theorem dX8_comes_89 : decode cX8_comes 89 = .ok (.invokevirtual 94, 3) := by decide +kernel
theorem dX8_comes_92 : decode cX8_comes 92 = .ok (.goto 78, 3) := by decide +kernel
theorem dX8_comes_95 : decode cX8_comes 95 = .ok (.iload_n 3, 1) := by decide +kernel
theorem dX8_comes_96 : decode cX8_comes 96 = .ok (.iconst 3, 1) := by decide +kernel
theorem dX8_comes_97 : decode cX8_comes 97 = .ok (.if_icmp .ne 47, 3) := by decide +kernel
theorem dX8_comes_100 : decode cX8_comes 100 = .ok (.aload_n 0, 1) := by decide +kernel
theorem dX8_comes_101 : decode cX8_comes 101 = .ok (.iload_n 2, 1) := by decide +kernel
theorem dX8_comes_102 : decode cX8_comes 102 = .ok (.iload_n 2, 1) := by decide +kernel
theorem dX8_comes_103 : decode cX8_comes 103 = .ok (.bipush 7, 2) := by decide +kernel
theorem dX8_comes_105 : decode cX8_comes 105 = .ok (.iadd, 1) := by decide +kernel
theorem dX8_comes_106 : decode cX8_comes 106 = .ok (.invokevirtual 98, 3) := by decide +kernel
theorem dX8_comes_109 : decode cX8_comes 109 = .ok (.istore 5, 2) := by decide +kernel
theorem dX8_comes_111 : decode cX8_comes 111 = .ok (.aload_n 0, 1) := by decide +kernel
theorem dX8_comes_112 : decode cX8_comes 112 = .ok (.iload_n 1, 1) := by decide +kernel
theorem dX8_comes_113 : decode cX8_comes 113 = .ok (.iload 5, 2) := by decide +kernel
theorem dX8_comes_115 : decode cX8_comes 115 = .ok (.ldc 90, 2) := by decide +kernel
theorem dX8_comes_117 : decode cX8_comes 117 = .ok (.if_icmp .ne 7, 3) := by decide +kernel
theorem dX8_comes_120 : decode cX8_comes 120 = .ok (.iconst 3, 1) := by decide +kernel
theorem dX8_comes_121 : decode cX8_comes 121 = .ok (.goto 4, 3) := by decide +kernel
theorem dX8_comes_124 : decode cX8_comes 124 = .ok (.iconst 2, 1) := by decide +kernel
theorem dX8_comes_125 : decode cX8_comes 125 = .ok (.iload 5, 2) := by decide +kernel
theorem dX8_comes_127 : decode cX8_comes 127 = .ok (.ldc 90, 2) := by decide +kernel
theorem dX8_comes_129 : decode cX8_comes 129 = .ok (.if_icmp .ne 7, 3) := by decide +kernel
theorem dX8_comes_132 : decode cX8_comes 132 = .ok (.iload_n 2, 1) := by decide +kernel
theorem dX8_comes_133 : decode cX8_comes 133 = .ok (.goto 5, 3) := by decide +kernel
theorem dX8_comes_136 : decode cX8_comes 136 = .ok (.iload 5, 2) := by decide +kernel
theorem dX8_comes_138 : decode cX8_comes 138 = .ok (.invokevirtual 94, 3) := by decide +kernel
theorem dX8_comes_141 : decode cX8_comes 141 = .ok (.goto 29, 3) := by decide +kernel
theorem dX8_comes_144 : decode cX8_comes 144 = .ok (.aload_n 0, 1) := by decide +kernel
theorem dX8_comes_145 : decode cX8_comes 145 = .ok (.iload_n 1, 1) := by decide +kernel
theorem dX8_comes_146 : decode cX8_comes 146 = .ok (.iload_n 3, 1) := by decide +kernel
theorem dX8_comes_147 : decode cX8_comes 147 = .ok (.iconst 2, 1) := by decide +kernel
theorem dX8_comes_148 : decode cX8_comes 148 = .ok (.if_icmp .ne 7, 3) := by decide +kernel
theorem dX8_comes_151 : decode cX8_comes 151 = .ok (.iconst 3, 1) := by decide +kernel
theorem dX8_comes_152 : decode cX8_comes 152 = .ok (.goto 4, 3) := by decide +kernel
theorem dX8_comes_155 : decode cX8_comes 155 = .ok (.iconst 4, 1) := by decide +kernel
theorem dX8_comes_156 : decode cX8_comes 156 = .ok (.iload_n 3, 1) := by decide +kernel
theorem dX8_comes_157 : decode cX8_comes 157 = .ok (.iconst 2, 1) := by decide +kernel
theorem dX8_comes_158 : decode cX8_comes 158 = .ok (.if_icmp .ne 7, 3) := by decide +kernel
theorem dX8_comes_161 : decode cX8_comes 161 = .ok (.iload_n 2, 1) := by decide +kernel
theorem dX8_comes_162 : decode cX8_comes 162 = .ok (.goto 5, 3) := by decide +kernel
theorem dX8_comes_165 : decode cX8_comes 165 = .ok (.ldc 90, 2) := by decide +kernel
theorem dX8_comes_167 : decode cX8_comes 167 = .ok (.invokevirtual 94, 3) := by decide +kernel
theorem dX8_comes_170 : decode cX8_comes 170 = .ok (.return_, 1) := by decide +kernel
theorem dX8_dayOfDate_0 : decode cX8_dayOfDate 0 = .ok (.iload_n 2, 1) := by decide +kernel
theorem dX8_dayOfDate_1 : decode cX8_dayOfDate 1 = .ok (.aload_n 0, 1) := by decide +kernel
theorem dX8_dayOfDate_2 : decode cX8_dayOfDate 2 = .ok (.iload_n 1, 1) := by decide +kernel
theorem dX8_dayOfDate_3 : decode cX8_dayOfDate 3 = .ok (.invokevirtual 59, 3) := by decide +kernel
theorem dX8_dayOfDate_6 : decode cX8_dayOfDate 6 = .ok (.ifCond .eq 13, 3) := by decide +kernel
theorem dX8_dayOfDate_9 : decode cX8_dayOfDate 9 = .ok (.iload_n 2, 1) := by decide +kernel
theorem dX8_dayOfDate_10 : decode cX8_dayOfDate 10 = .ok (.bipush 60, 2) := by decide +kernel
theorem dX8_dayOfDate_12 : decode cX8_dayOfDate 12 = .ok (.if_icmp .lt 7, 3) := by decide +kernel
theorem dX8_dayOfDate_15 : decode cX8_dayOfDate 15 = .ok (.iconst 1, 1) := by decide +kernel
theorem dX8_dayOfDate_16 : decode cX8_dayOfDate 16 = .ok (.goto 4, 3) := by decide +kernel
theorem dX8_dayOfDate_19 : decode cX8_dayOfDate 19 = .ok (.iconst 0, 1) := by decide +kernel
theorem dX8_dayOfDate_20 : decode cX8_dayOfDate 20 = .ok (.iadd, 1) := by decide +kernel
theorem dX8_dayOfDate_21 : decode cX8_dayOfDate 21 = .ok (.ireturn, 1) := by decide +kernel
theorem dX8_moon_0 : decode cX8_moon 0 = .ok (.aload_n 0, 1) := by decide +kernel
theorem dX8_moon_1 : decode cX8_moon 1 = .ok (.iload_n 1, 1) := by decide +kernel
theorem dX8_moon_2 : decode cX8_moon 2 = .ok (.bipush 80, 2) := by decide +kernel
theorem dX8_moon_4 : decode cX8_moon 4 = .ok (.bipush 19, 2) := by decide +kernel
theorem dX8_moon_6 : decode cX8_moon 6 = .ok (.iload_n 1, 1) := by decide +kernel
theorem dX8_moon_7 : decode cX8_moon 7 = .ok (.bipush 19, 2) := by decide +kernel
theorem dX8_moon_9 : decode cX8_moon 9 = .ok (.irem, 1) := by decide +kernel
theorem dX8_moon_10 : decode cX8_moon 10 = .ok (.imul, 1) := by decide +kernel
theorem dX8_moon_11 : decode cX8_moon 11 = .ok (.aload_n 0, 1) := by decide +kernel
theorem dX8_moon_12 : decode cX8_moon 12 = .ok (.getfield 7, 3) := by decide +kernel
theorem dX8_moon_15 : decode cX8_moon 15 = .ok (.iconst 1, 1) := by decide +kernel
theorem dX8_moon_16 : decode cX8_moon 16 = .ok (.iaload, 1) := by decide +kernel
theorem dX8_moon_17 : decode cX8_moon 17 = .ok (.iadd, 1) := by decide +kernel
theorem dX8_moon_18 : decode cX8_moon 18 = .ok (.bipush 30, 2) := by decide +kernel
theorem dX8_moon_20 : decode cX8_moon 20 = .ok (.irem, 1) := by decide +kernel
theorem dX8_moon_21 : decode cX8_moon 21 = .ok (.iadd, 1) := by decide +kernel
theorem dX8_moon_22 : decode cX8_moon 22 = .ok (.invokevirtual 74, 3) := by decide +kernel
theorem dX8_moon_25 : decode cX8_moon 25 = .ok (.ireturn, 1) := by decide +kernel
theorem dX8_sunday_0 : decode cX8_sunday 0 = .ok (.iload_n 1, 1) := by decide +kernel
theorem dX8_sunday_1 : decode cX8_sunday 1 = .ok (.bipush 7, 2) := by decide +kernel
theorem dX8_sunday_3 : decode cX8_sunday 3 = .ok (.aload_n 0, 1) := by decide +kernel
theorem dX8_sunday_4 : decode cX8_sunday 4 = .ok (.iload_n 1, 1) := by decide +kernel
theorem dX8_sunday_5 : decode cX8_sunday 5 = .ok (.invokevirtual 67, 3) := by decide +kernel
theorem dX8_sunday_8 : decode cX8_sunday 8 = .ok (.isub, 1) := by decide +kernel
theorem dX8_sunday_9 : decode cX8_sunday 9 = .ok (.bipush 7, 2) := by decide +kernel
theorem dX8_sunday_11 : decode cX8_sunday 11 = .ok (.irem, 1) := by decide +kernel
theorem dX8_sunday_12 : decode cX8_sunday 12 = .ok (.iadd, 1) := by decide +kernel
theorem dX8_sunday_13 : decode cX8_sunday 13 = .ok (.ireturn, 1) := by decide +kernel
theorem dX8_spring_0 : decode cX8_spring 0 = .ok (.aload_n 0, 1) := by decide +kernel
theorem dX8_spring_1 : decode cX8_spring 1 = .ok (.aload_n 0, 1) := by decide +kernel
theorem dX8_spring_2 : decode cX8_spring 2 = .ok (.iload_n 1, 1) := by decide +kernel
theorem dX8_spring_3 : decode cX8_spring 3 = .ok (.invokevirtual 78, 3) := by decide +kernel
theorem dX8_spring_6 : decode cX8_spring 6 = .ok (.iconst 1, 1) := by decide +kernel
theorem dX8_spring_7 : decode cX8_spring 7 = .ok (.iadd, 1) := by decide +kernel
theorem dX8_spring_8 : decode cX8_spring 8 = .ok (.invokevirtual 81, 3) := by decide +kernel
theorem dX8_spring_11 : decode cX8_spring 11 = .ok (.ireturn, 1) := by decide +kernel
theorem dX8_ownDay_0 : decode cX8_ownDay 0 = .ok (.aload_n 0, 1) := by decide +kernel
theorem dX8_ownDay_1 : decode cX8_ownDay 1 = .ok (.iload_n 2, 1) := by decide +kernel
theorem dX8_ownDay_2 : decode cX8_ownDay 2 = .ok (.iconst 1, 1) := by decide +kernel
theorem dX8_ownDay_3 : decode cX8_ownDay 3 = .ok (.invokevirtual 84, 3) := by decide +kernel
theorem dX8_ownDay_6 : decode cX8_ownDay 6 = .ok (.istore_n 3, 1) := by decide +kernel
theorem dX8_ownDay_7 : decode cX8_ownDay 7 = .ok (.aload_n 0, 1) := by decide +kernel
theorem dX8_ownDay_8 : decode cX8_ownDay 8 = .ok (.iload_n 2, 1) := by decide +kernel
theorem dX8_ownDay_9 : decode cX8_ownDay 9 = .ok (.iconst 0, 1) := by decide +kernel
theorem dX8_ownDay_10 : decode cX8_ownDay 10 = .ok (.invokevirtual 84, 3) := by decide +kernel
theorem dX8_ownDay_13 : decode cX8_ownDay 13 = .ok (.istore 4, 2) := by decide +kernel
theorem dX8_ownDay_15 : decode cX8_ownDay 15 = .ok (.iload 4, 2) := by decide +kernel
theorem dX8_ownDay_17 : decode cX8_ownDay 17 = .ok (.iconst 3, 1) := by decide +kernel
theorem dX8_ownDay_18 : decode cX8_ownDay 18 = .ok (.if_icmp .ne 12, 3) := by decide +kernel
theorem dX8_ownDay_21 : decode cX8_ownDay 21 = .ok (.aload_n 0, 1) := by decide +kernel
theorem dX8_ownDay_22 : decode cX8_ownDay 22 = .ok (.iload_n 1, 1) := by decide +kernel
theorem dX8_ownDay_23 : decode cX8_ownDay 23 = .ok (.iload_n 3, 1) := by decide +kernel
theorem dX8_ownDay_24 : decode cX8_ownDay 24 = .ok (.invokevirtual 74, 3) := by decide +kernel
theorem dX8_ownDay_27 : decode cX8_ownDay 27 = .ok (.goto 45, 3) := by decide +kernel
theorem dX8_ownDay_30 : decode cX8_ownDay 30 = .ok (.iload 4, 2) := by decide +kernel
theorem dX8_ownDay_32 : decode cX8_ownDay 32 = .ok (.iconst 2, 1) := by decide +kernel
theorem dX8_ownDay_33 : decode cX8_ownDay 33 = .ok (.if_icmp .ne 16, 3) := by decide +kernel
theorem dX8_ownDay_36 : decode cX8_ownDay 36 = .ok (.aload_n 0, 1) := by decide +kernel
theorem dX8_ownDay_37 : decode cX8_ownDay 37 = .ok (.aload_n 0, 1) := by decide +kernel
theorem dX8_ownDay_38 : decode cX8_ownDay 38 = .ok (.iload_n 1, 1) := by decide +kernel
theorem dX8_ownDay_39 : decode cX8_ownDay 39 = .ok (.iload_n 3, 1) := by decide +kernel
theorem dX8_ownDay_40 : decode cX8_ownDay 40 = .ok (.invokevirtual 74, 3) := by decide +kernel
theorem dX8_ownDay_43 : decode cX8_ownDay 43 = .ok (.invokevirtual 81, 3) := by decide +kernel
theorem dX8_ownDay_46 : decode cX8_ownDay 46 = .ok (.goto 26, 3) := by decide +kernel
theorem dX8_ownDay_49 : decode cX8_ownDay 49 = .ok (.iload 4, 2) := by decide +kernel
theorem dX8_ownDay_51 : decode cX8_ownDay 51 = .ok (.iconst 1, 1) := by decide +kernel
theorem dX8_ownDay_52 : decode cX8_ownDay 52 = .ok (.if_icmp .ne 13, 3) := by decide +kernel
theorem dX8_ownDay_55 : decode cX8_ownDay 55 = .ok (.aload_n 0, 1) := by decide +kernel
theorem dX8_ownDay_56 : decode cX8_ownDay 56 = .ok (.iload_n 1, 1) := by decide +kernel
theorem dX8_ownDay_57 : decode cX8_ownDay 57 = .ok (.invokevirtual 87, 3) := by decide +kernel
theorem dX8_ownDay_60 : decode cX8_ownDay 60 = .ok (.iload_n 3, 1) := by decide +kernel
theorem dX8_ownDay_61 : decode cX8_ownDay 61 = .ok (.iadd, 1) := by decide +kernel
theorem dX8_ownDay_62 : decode cX8_ownDay 62 = .ok (.goto 10, 3) := by decide +kernel
theorem dX8_ownDay_65 : decode cX8_ownDay 65 = .ok (.aload_n 0, 1) := by decide +kernel
theorem dX8_ownDay_66 : decode cX8_ownDay 66 = .ok (.iload_n 1, 1) := by decide +kernel
theorem dX8_ownDay_67 : decode cX8_ownDay 67 = .ok (.invokevirtual 87, 3) := by decide +kernel
theorem dX8_ownDay_70 : decode cX8_ownDay 70 = .ok (.iload_n 3, 1) := by decide +kernel
theorem dX8_ownDay_71 : decode cX8_ownDay 71 = .ok (.isub, 1) := by decide +kernel
theorem dX8_ownDay_72 : decode cX8_ownDay 72 = .ok (.istore 5, 2) := by decide +kernel
theorem dX8_ownDay_74 : decode cX8_ownDay 74 = .ok (.iload 5, 2) := by decide +kernel
theorem dX8_ownDay_76 : decode cX8_ownDay 76 = .ok (.i2l, 1) := by decide +kernel
theorem dX8_ownDay_77 : decode cX8_ownDay 77 = .ok (.lconst 1, 1) := by decide +kernel
theorem dX8_ownDay_78 : decode cX8_ownDay 78 = .ok (.aload_n 0, 1) := by decide +kernel
theorem dX8_ownDay_79 : decode cX8_ownDay 79 = .ok (.getfield 71, 3) := by decide +kernel
theorem dX8_ownDay_82 : decode cX8_ownDay 82 = .ok (.i2l, 1) := by decide +kernel
theorem dX8_ownDay_83 : decode cX8_ownDay 83 = .ok (.invokestatic 55, 3) := by decide +kernel
theorem dX8_ownDay_86 : decode cX8_ownDay 86 = .ok (.ifCond .eq 8, 3) := by decide +kernel
theorem dX8_ownDay_89 : decode cX8_ownDay 89 = .ok (.iload 5, 2) := by decide +kernel
theorem dX8_ownDay_91 : decode cX8_ownDay 91 = .ok (.goto 5, 3) := by decide +kernel
theorem dX8_ownDay_94 : decode cX8_ownDay 94 = .ok (.ldc 90, 2) := by decide +kernel
theorem dX8_ownDay_96 : decode cX8_ownDay 96 = .ok (.ireturn, 1) := by decide +kernel
theorem dX8_lays_0 : decode cX8_lays 0 = .ok (.aload_n 0, 1) := by decide +kernel
theorem dX8_lays_1 : decode cX8_lays 1 = .ok (.iload_n 1, 1) := by decide +kernel
theorem dX8_lays_2 : decode cX8_lays 2 = .ok (.invokevirtual 101, 3) := by decide +kernel
theorem dX8_lays_5 : decode cX8_lays 5 = .ok (.iconst 0, 1) := by decide +kernel
theorem dX8_lays_6 : decode cX8_lays 6 = .ok (.istore_n 3, 1) := by decide +kernel
theorem dX8_lays_7 : decode cX8_lays 7 = .ok (.iload_n 3, 1) := by decide +kernel
theorem dX8_lays_8 : decode cX8_lays 8 = .ok (.sipush 367, 3) := by decide +kernel
theorem dX8_lays_11 : decode cX8_lays 11 = .ok (.if_icmp .ge 16, 3) := by decide +kernel
theorem dX8_lays_14 : decode cX8_lays 14 = .ok (.aload_n 0, 1) := by decide +kernel
theorem dX8_lays_15 : decode cX8_lays 15 = .ok (.getfield 29, 3) := by decide +kernel
theorem dX8_lays_18 : decode cX8_lays 18 = .ok (.iload_n 3, 1) := by decide +kernel
theorem dX8_lays_19 : decode cX8_lays 19 = .ok (.iconst 0, 1) := by decide +kernel
theorem dX8_lays_20 : decode cX8_lays 20 = .ok (.iastore, 1) := by decide +kernel
theorem dX8_lays_21 : decode cX8_lays 21 = .ok (.iinc 3 1, 3) := by decide +kernel
theorem dX8_lays_24 : decode cX8_lays 24 = .ok (.goto (-17), 3) := by decide +kernel
theorem dX8_lays_27 : decode cX8_lays 27 = .ok (.iconst 0, 1) := by decide +kernel
theorem dX8_lays_28 : decode cX8_lays 28 = .ok (.istore_n 3, 1) := by decide +kernel
theorem dX8_lays_29 : decode cX8_lays 29 = .ok (.iload_n 3, 1) := by decide +kernel
theorem dX8_lays_30 : decode cX8_lays 30 = .ok (.aload_n 0, 1) := by decide +kernel
theorem dX8_lays_31 : decode cX8_lays 31 = .ok (.getfield 7, 3) := by decide +kernel
theorem dX8_lays_34 : decode cX8_lays 34 = .ok (.bipush 6, 2) := by decide +kernel
theorem dX8_lays_36 : decode cX8_lays 36 = .ok (.iaload, 1) := by decide +kernel
theorem dX8_lays_37 : decode cX8_lays 37 = .ok (.if_icmp .ge 63, 3) := by decide +kernel
theorem dX8_lays_40 : decode cX8_lays 40 = .ok (.aload_n 0, 1) := by decide +kernel
theorem dX8_lays_41 : decode cX8_lays 41 = .ok (.getfield 32, 3) := by decide +kernel
theorem dX8_lays_44 : decode cX8_lays 44 = .ok (.iload_n 3, 1) := by decide +kernel
theorem dX8_lays_45 : decode cX8_lays 45 = .ok (.aload_n 0, 1) := by decide +kernel
theorem dX8_lays_46 : decode cX8_lays 46 = .ok (.iload_n 1, 1) := by decide +kernel
theorem dX8_lays_47 : decode cX8_lays 47 = .ok (.iload_n 3, 1) := by decide +kernel
theorem dX8_lays_48 : decode cX8_lays 48 = .ok (.invokevirtual 105, 3) := by decide +kernel
theorem dX8_lays_51 : decode cX8_lays 51 = .ok (.iastore, 1) := by decide +kernel
theorem dX8_lays_52 : decode cX8_lays 52 = .ok (.aload_n 0, 1) := by decide +kernel
theorem dX8_lays_53 : decode cX8_lays 53 = .ok (.getfield 35, 3) := by decide +kernel
theorem dX8_lays_56 : decode cX8_lays 56 = .ok (.iload_n 3, 1) := by decide +kernel
theorem dX8_lays_57 : decode cX8_lays 57 = .ok (.iconst 0, 1) := by decide +kernel
theorem dX8_lays_58 : decode cX8_lays 58 = .ok (.iastore, 1) := by decide +kernel
theorem dX8_lays_59 : decode cX8_lays 59 = .ok (.aload_n 0, 1) := by decide +kernel
theorem dX8_lays_60 : decode cX8_lays 60 = .ok (.getfield 38, 3) := by decide +kernel
theorem dX8_lays_63 : decode cX8_lays 63 = .ok (.iload_n 3, 1) := by decide +kernel
theorem dX8_lays_64 : decode cX8_lays 64 = .ok (.ldc 90, 2) := by decide +kernel
theorem dX8_lays_66 : decode cX8_lays 66 = .ok (.iastore, 1) := by decide +kernel
theorem dX8_lays_67 : decode cX8_lays 67 = .ok (.aload_n 0, 1) := by decide +kernel
theorem dX8_lays_68 : decode cX8_lays 68 = .ok (.getfield 41, 3) := by decide +kernel
theorem dX8_lays_71 : decode cX8_lays 71 = .ok (.iload_n 3, 1) := by decide +kernel
theorem dX8_lays_72 : decode cX8_lays 72 = .ok (.aload_n 0, 1) := by decide +kernel
theorem dX8_lays_73 : decode cX8_lays 73 = .ok (.getfield 32, 3) := by decide +kernel
theorem dX8_lays_76 : decode cX8_lays 76 = .ok (.iload_n 3, 1) := by decide +kernel
theorem dX8_lays_77 : decode cX8_lays 77 = .ok (.iaload, 1) := by decide +kernel
theorem dX8_lays_78 : decode cX8_lays 78 = .ok (.ldc 90, 2) := by decide +kernel
theorem dX8_lays_80 : decode cX8_lays 80 = .ok (.if_icmp .eq 8, 3) := by decide +kernel
theorem dX8_lays_83 : decode cX8_lays 83 = .ok (.iload_n 3, 1) := by decide +kernel
theorem dX8_lays_84 : decode cX8_lays 84 = .ok (.iload_n 2, 1) := by decide +kernel
theorem dX8_lays_85 : decode cX8_lays 85 = .ok (.if_icmp .ne 7, 3) := by decide +kernel
theorem dX8_lays_88 : decode cX8_lays 88 = .ok (.iconst 1, 1) := by decide +kernel
theorem dX8_lays_89 : decode cX8_lays 89 = .ok (.goto 4, 3) := by decide +kernel
theorem dX8_lays_92 : decode cX8_lays 92 = .ok (.iconst 0, 1) := by decide +kernel
theorem dX8_lays_93 : decode cX8_lays 93 = .ok (.bastore, 1) := by decide +kernel
theorem dX8_lays_94 : decode cX8_lays 94 = .ok (.iinc 3 1, 3) := by decide +kernel
theorem dX8_lays_97 : decode cX8_lays 97 = .ok (.goto (-68), 3) := by decide +kernel
theorem dX8_lays_100 : decode cX8_lays 100 = .ok (.aload_n 0, 1) := by decide +kernel
theorem dX8_lays_101 : decode cX8_lays 101 = .ok (.invokevirtual 108, 3) := by decide +kernel
theorem dX8_lays_104 : decode cX8_lays 104 = .ok (.istore_n 3, 1) := by decide +kernel
theorem dX8_lays_105 : decode cX8_lays 105 = .ok (.iload_n 3, 1) := by decide +kernel
theorem dX8_lays_106 : decode cX8_lays 106 = .ok (.ldc 90, 2) := by decide +kernel
theorem dX8_lays_108 : decode cX8_lays 108 = .ok (.if_icmp .eq 23, 3) := by decide +kernel
theorem dX8_lays_111 : decode cX8_lays 111 = .ok (.aload_n 0, 1) := by decide +kernel
theorem dX8_lays_112 : decode cX8_lays 112 = .ok (.iload_n 3, 1) := by decide +kernel
theorem dX8_lays_113 : decode cX8_lays 113 = .ok (.invokevirtual 112, 3) := by decide +kernel
theorem dX8_lays_116 : decode cX8_lays 116 = .ok (.aload_n 0, 1) := by decide +kernel
theorem dX8_lays_117 : decode cX8_lays 117 = .ok (.getfield 41, 3) := by decide +kernel
theorem dX8_lays_120 : decode cX8_lays 120 = .ok (.iload_n 3, 1) := by decide +kernel
theorem dX8_lays_121 : decode cX8_lays 121 = .ok (.iconst 1, 1) := by decide +kernel
theorem dX8_lays_122 : decode cX8_lays 122 = .ok (.bastore, 1) := by decide +kernel
theorem dX8_lays_123 : decode cX8_lays 123 = .ok (.aload_n 0, 1) := by decide +kernel
theorem dX8_lays_124 : decode cX8_lays 124 = .ok (.invokevirtual 108, 3) := by decide +kernel
theorem dX8_lays_127 : decode cX8_lays 127 = .ok (.istore_n 3, 1) := by decide +kernel
theorem dX8_lays_128 : decode cX8_lays 128 = .ok (.goto (-23), 3) := by decide +kernel
theorem dX8_lays_131 : decode cX8_lays 131 = .ok (.return_, 1) := by decide +kernel
theorem dX8_rankOf_0 : decode cX8_rankOf 0 = .ok (.aload_n 0, 1) := by decide +kernel
theorem dX8_rankOf_1 : decode cX8_rankOf 1 = .ok (.getfield 29, 3) := by decide +kernel
theorem dX8_rankOf_4 : decode cX8_rankOf 4 = .ok (.iload_n 1, 1) := by decide +kernel
theorem dX8_rankOf_5 : decode cX8_rankOf 5 = .ok (.iaload, 1) := by decide +kernel
theorem dX8_rankOf_6 : decode cX8_rankOf 6 = .ok (.ifCond .le 19, 3) := by decide +kernel
theorem dX8_rankOf_9 : decode cX8_rankOf 9 = .ok (.aload_n 0, 1) := by decide +kernel
theorem dX8_rankOf_10 : decode cX8_rankOf 10 = .ok (.aload_n 0, 1) := by decide +kernel
theorem dX8_rankOf_11 : decode cX8_rankOf 11 = .ok (.getfield 29, 3) := by decide +kernel
theorem dX8_rankOf_14 : decode cX8_rankOf 14 = .ok (.iload_n 1, 1) := by decide +kernel
theorem dX8_rankOf_15 : decode cX8_rankOf 15 = .ok (.iaload, 1) := by decide +kernel
theorem dX8_rankOf_16 : decode cX8_rankOf 16 = .ok (.iconst 1, 1) := by decide +kernel
theorem dX8_rankOf_17 : decode cX8_rankOf 17 = .ok (.isub, 1) := by decide +kernel
theorem dX8_rankOf_18 : decode cX8_rankOf 18 = .ok (.iconst 2, 1) := by decide +kernel
theorem dX8_rankOf_19 : decode cX8_rankOf 19 = .ok (.invokevirtual 84, 3) := by decide +kernel
theorem dX8_rankOf_22 : decode cX8_rankOf 22 = .ok (.goto 16, 3) := by decide +kernel
theorem dX8_rankOf_25 : decode cX8_rankOf 25 = .ok (.aload_n 0, 1) := by decide +kernel
theorem dX8_rankOf_26 : decode cX8_rankOf 26 = .ok (.iload_n 1, 1) := by decide +kernel
theorem dX8_rankOf_27 : decode cX8_rankOf 27 = .ok (.invokevirtual 67, 3) := by decide +kernel
theorem dX8_rankOf_30 : decode cX8_rankOf 30 = .ok (.ifCond .ne 7, 3) := by decide +kernel
theorem dX8_rankOf_33 : decode cX8_rankOf 33 = .ok (.iconst 3, 1) := by decide +kernel
theorem dX8_rankOf_34 : decode cX8_rankOf 34 = .ok (.goto 4, 3) := by decide +kernel
theorem dX8_rankOf_37 : decode cX8_rankOf 37 = .ok (.iconst 0, 1) := by decide +kernel
theorem dX8_rankOf_38 : decode cX8_rankOf 38 = .ok (.ireturn, 1) := by decide +kernel
theorem dX8_servicesOf_0 : decode cX8_servicesOf 0 = .ok (.aload_n 0, 1) := by decide +kernel
theorem dX8_servicesOf_1 : decode cX8_servicesOf 1 = .ok (.iload_n 1, 1) := by decide +kernel
theorem dX8_servicesOf_2 : decode cX8_servicesOf 2 = .ok (.invokevirtual 122, 3) := by decide +kernel
theorem dX8_servicesOf_5 : decode cX8_servicesOf 5 = .ok (.istore_n 2, 1) := by decide +kernel
theorem dX8_servicesOf_6 : decode cX8_servicesOf 6 = .ok (.iload_n 2, 1) := by decide +kernel
theorem dX8_servicesOf_7 : decode cX8_servicesOf 7 = .ok (.iconst 2, 1) := by decide +kernel
theorem dX8_servicesOf_8 : decode cX8_servicesOf 8 = .ok (.if_icmp .ge 7, 3) := by decide +kernel
theorem dX8_servicesOf_11 : decode cX8_servicesOf 11 = .ok (.iconst 1, 1) := by decide +kernel
theorem dX8_servicesOf_12 : decode cX8_servicesOf 12 = .ok (.goto 15, 3) := by decide +kernel
theorem dX8_servicesOf_15 : decode cX8_servicesOf 15 = .ok (.iload_n 2, 1) := by decide +kernel
theorem dX8_servicesOf_16 : decode cX8_servicesOf 16 = .ok (.iconst 4, 1) := by decide +kernel
theorem dX8_servicesOf_17 : decode cX8_servicesOf 17 = .ok (.if_icmp .ge 7, 3) := by decide +kernel
theorem dX8_servicesOf_20 : decode cX8_servicesOf 20 = .ok (.iconst 2, 1) := by decide +kernel
theorem dX8_servicesOf_21 : decode cX8_servicesOf 21 = .ok (.goto 6, 3) := by decide +kernel
theorem dX8_servicesOf_24 : decode cX8_servicesOf 24 = .ok (.iload_n 2, 1) := by decide +kernel
theorem dX8_servicesOf_25 : decode cX8_servicesOf 25 = .ok (.iconst 1, 1) := by decide +kernel
theorem dX8_servicesOf_26 : decode cX8_servicesOf 26 = .ok (.isub, 1) := by decide +kernel
theorem dX8_servicesOf_27 : decode cX8_servicesOf 27 = .ok (.ireturn, 1) := by decide +kernel
theorem dX8_isAway_0 : decode cX8_isAway 0 = .ok (.iload_n 2, 1) := by decide +kernel
theorem dX8_isAway_1 : decode cX8_isAway 1 = .ok (.i2l, 1) := by decide +kernel
theorem dX8_isAway_2 : decode cX8_isAway 2 = .ok (.aload_n 0, 1) := by decide +kernel
theorem dX8_isAway_3 : decode cX8_isAway 3 = .ok (.getfield 7, 3) := by decide +kernel
theorem dX8_isAway_6 : decode cX8_isAway 6 = .ok (.bipush 69, 2) := by decide +kernel
theorem dX8_isAway_8 : decode cX8_isAway 8 = .ok (.iconst 2, 1) := by decide +kernel
theorem dX8_isAway_9 : decode cX8_isAway 9 = .ok (.iload_n 1, 1) := by decide +kernel
theorem dX8_isAway_10 : decode cX8_isAway 10 = .ok (.imul, 1) := by decide +kernel
theorem dX8_isAway_11 : decode cX8_isAway 11 = .ok (.iadd, 1) := by decide +kernel
theorem dX8_isAway_12 : decode cX8_isAway 12 = .ok (.iaload, 1) := by decide +kernel
theorem dX8_isAway_13 : decode cX8_isAway 13 = .ok (.i2l, 1) := by decide +kernel
theorem dX8_isAway_14 : decode cX8_isAway 14 = .ok (.aload_n 0, 1) := by decide +kernel
theorem dX8_isAway_15 : decode cX8_isAway 15 = .ok (.getfield 7, 3) := by decide +kernel
theorem dX8_isAway_18 : decode cX8_isAway 18 = .ok (.bipush 69, 2) := by decide +kernel
theorem dX8_isAway_20 : decode cX8_isAway 20 = .ok (.iconst 2, 1) := by decide +kernel
theorem dX8_isAway_21 : decode cX8_isAway 21 = .ok (.iload_n 1, 1) := by decide +kernel
theorem dX8_isAway_22 : decode cX8_isAway 22 = .ok (.imul, 1) := by decide +kernel
theorem dX8_isAway_23 : decode cX8_isAway 23 = .ok (.iadd, 1) := by decide +kernel
theorem dX8_isAway_24 : decode cX8_isAway 24 = .ok (.iconst 1, 1) := by decide +kernel
theorem dX8_isAway_25 : decode cX8_isAway 25 = .ok (.iadd, 1) := by decide +kernel
theorem dX8_isAway_26 : decode cX8_isAway 26 = .ok (.iaload, 1) := by decide +kernel
theorem dX8_isAway_27 : decode cX8_isAway 27 = .ok (.i2l, 1) := by decide +kernel
theorem dX8_isAway_28 : decode cX8_isAway 28 = .ok (.invokestatic 55, 3) := by decide +kernel
theorem dX8_isAway_31 : decode cX8_isAway 31 = .ok (.ireturn, 1) := by decide +kernel
theorem dX8_isBetter_0 : decode cX8_isBetter 0 = .ok (.aload_n 0, 1) := by decide +kernel
theorem dX8_isBetter_1 : decode cX8_isBetter 1 = .ok (.getfield 44, 3) := by decide +kernel
theorem dX8_isBetter_4 : decode cX8_isBetter 4 = .ok (.iload_n 2, 1) := by decide +kernel
theorem dX8_isBetter_5 : decode cX8_isBetter 5 = .ok (.iaload, 1) := by decide +kernel
theorem dX8_isBetter_6 : decode cX8_isBetter 6 = .ok (.aload_n 0, 1) := by decide +kernel
theorem dX8_isBetter_7 : decode cX8_isBetter 7 = .ok (.getfield 44, 3) := by decide +kernel
theorem dX8_isBetter_10 : decode cX8_isBetter 10 = .ok (.iload_n 3, 1) := by decide +kernel
theorem dX8_isBetter_11 : decode cX8_isBetter 11 = .ok (.iaload, 1) := by decide +kernel
theorem dX8_isBetter_12 : decode cX8_isBetter 12 = .ok (.if_icmp .eq 24, 3) := by decide +kernel
theorem dX8_isBetter_15 : decode cX8_isBetter 15 = .ok (.aload_n 0, 1) := by decide +kernel
theorem dX8_isBetter_16 : decode cX8_isBetter 16 = .ok (.getfield 44, 3) := by decide +kernel
theorem dX8_isBetter_19 : decode cX8_isBetter 19 = .ok (.iload_n 2, 1) := by decide +kernel
theorem dX8_isBetter_20 : decode cX8_isBetter 20 = .ok (.iaload, 1) := by decide +kernel
theorem dX8_isBetter_21 : decode cX8_isBetter 21 = .ok (.aload_n 0, 1) := by decide +kernel
theorem dX8_isBetter_22 : decode cX8_isBetter 22 = .ok (.getfield 44, 3) := by decide +kernel
theorem dX8_isBetter_25 : decode cX8_isBetter 25 = .ok (.iload_n 3, 1) := by decide +kernel
theorem dX8_isBetter_26 : decode cX8_isBetter 26 = .ok (.iaload, 1) := by decide +kernel
theorem dX8_isBetter_27 : decode cX8_isBetter 27 = .ok (.if_icmp .ge 7, 3) := by decide +kernel
theorem dX8_isBetter_30 : decode cX8_isBetter 30 = .ok (.iconst 1, 1) := by decide +kernel
theorem dX8_isBetter_31 : decode cX8_isBetter 31 = .ok (.goto 4, 3) := by decide +kernel
theorem dX8_isBetter_34 : decode cX8_isBetter 34 = .ok (.iconst 0, 1) := by decide +kernel
theorem dX8_isBetter_35 : decode cX8_isBetter 35 = .ok (.ireturn, 1) := by decide +kernel
theorem dX8_isBetter_36 : decode cX8_isBetter 36 = .ok (.iload_n 1, 1) := by decide +kernel
theorem dX8_isBetter_37 : decode cX8_isBetter 37 = .ok (.ifCond .ne 16, 3) := by decide +kernel
theorem dX8_isBetter_40 : decode cX8_isBetter 40 = .ok (.iload_n 2, 1) := by decide +kernel
theorem dX8_isBetter_41 : decode cX8_isBetter 41 = .ok (.iload_n 3, 1) := by decide +kernel
theorem dX8_isBetter_42 : decode cX8_isBetter 42 = .ok (.if_icmp .ge 7, 3) := by decide +kernel
theorem dX8_isBetter_45 : decode cX8_isBetter 45 = .ok (.iconst 1, 1) := by decide +kernel
theorem dX8_isBetter_46 : decode cX8_isBetter 46 = .ok (.goto 65, 3) := by decide +kernel
theorem dX8_isBetter_49 : decode cX8_isBetter 49 = .ok (.iconst 0, 1) := by decide +kernel
theorem dX8_isBetter_50 : decode cX8_isBetter 50 = .ok (.goto 61, 3) := by decide +kernel
theorem dX8_isBetter_53 : decode cX8_isBetter 53 = .ok (.iload_n 1, 1) := by decide +kernel
theorem dX8_isBetter_54 : decode cX8_isBetter 54 = .ok (.iconst 2, 1) := by decide +kernel
theorem dX8_isBetter_55 : decode cX8_isBetter 55 = .ok (.if_icmp .ne 16, 3) := by decide +kernel
theorem dX8_isBetter_58 : decode cX8_isBetter 58 = .ok (.iload_n 2, 1) := by decide +kernel
theorem dX8_isBetter_59 : decode cX8_isBetter 59 = .ok (.iload_n 3, 1) := by decide +kernel
theorem dX8_isBetter_60 : decode cX8_isBetter 60 = .ok (.if_icmp .le 7, 3) := by decide +kernel
theorem dX8_isBetter_63 : decode cX8_isBetter 63 = .ok (.iconst 1, 1) := by decide +kernel
theorem dX8_isBetter_64 : decode cX8_isBetter 64 = .ok (.goto 47, 3) := by decide +kernel
theorem dX8_isBetter_67 : decode cX8_isBetter 67 = .ok (.iconst 0, 1) := by decide +kernel
theorem dX8_isBetter_68 : decode cX8_isBetter 68 = .ok (.goto 43, 3) := by decide +kernel
theorem dX8_isBetter_71 : decode cX8_isBetter 71 = .ok (.aload_n 0, 1) := by decide +kernel
theorem dX8_isBetter_72 : decode cX8_isBetter 72 = .ok (.getfield 47, 3) := by decide +kernel
theorem dX8_isBetter_75 : decode cX8_isBetter 75 = .ok (.iload_n 2, 1) := by decide +kernel
theorem dX8_isBetter_76 : decode cX8_isBetter 76 = .ok (.iaload, 1) := by decide +kernel
theorem dX8_isBetter_77 : decode cX8_isBetter 77 = .ok (.aload_n 0, 1) := by decide +kernel
theorem dX8_isBetter_78 : decode cX8_isBetter 78 = .ok (.getfield 47, 3) := by decide +kernel
theorem dX8_isBetter_81 : decode cX8_isBetter 81 = .ok (.iload_n 3, 1) := by decide +kernel
theorem dX8_isBetter_82 : decode cX8_isBetter 82 = .ok (.iaload, 1) := by decide +kernel
theorem dX8_isBetter_83 : decode cX8_isBetter 83 = .ok (.if_icmp .lt 23, 3) := by decide +kernel
theorem dX8_isBetter_86 : decode cX8_isBetter 86 = .ok (.aload_n 0, 1) := by decide +kernel
theorem dX8_isBetter_87 : decode cX8_isBetter 87 = .ok (.getfield 47, 3) := by decide +kernel
theorem dX8_isBetter_90 : decode cX8_isBetter 90 = .ok (.iload_n 2, 1) := by decide +kernel
theorem dX8_isBetter_91 : decode cX8_isBetter 91 = .ok (.iaload, 1) := by decide +kernel
theorem dX8_isBetter_92 : decode cX8_isBetter 92 = .ok (.aload_n 0, 1) := by decide +kernel
theorem dX8_isBetter_93 : decode cX8_isBetter 93 = .ok (.getfield 47, 3) := by decide +kernel
theorem dX8_isBetter_96 : decode cX8_isBetter 96 = .ok (.iload_n 3, 1) := by decide +kernel
theorem dX8_isBetter_97 : decode cX8_isBetter 97 = .ok (.iaload, 1) := by decide +kernel
theorem dX8_isBetter_98 : decode cX8_isBetter 98 = .ok (.if_icmp .ne 12, 3) := by decide +kernel
theorem dX8_isBetter_101 : decode cX8_isBetter 101 = .ok (.iload_n 2, 1) := by decide +kernel
theorem dX8_isBetter_102 : decode cX8_isBetter 102 = .ok (.iload_n 3, 1) := by decide +kernel
theorem dX8_isBetter_103 : decode cX8_isBetter 103 = .ok (.if_icmp .ge 7, 3) := by decide +kernel
theorem dX8_isBetter_106 : decode cX8_isBetter 106 = .ok (.iconst 1, 1) := by decide +kernel
theorem dX8_isBetter_107 : decode cX8_isBetter 107 = .ok (.goto 4, 3) := by decide +kernel
theorem dX8_isBetter_110 : decode cX8_isBetter 110 = .ok (.iconst 0, 1) := by decide +kernel
theorem dX8_isBetter_111 : decode cX8_isBetter 111 = .ok (.ireturn, 1) := by decide +kernel
theorem dX8_had_0 : decode cX8_had 0 = .ok (.iconst 0, 1) := by decide +kernel
theorem dX8_had_1 : decode cX8_had 1 = .ok (.istore_n 3, 1) := by decide +kernel
theorem dX8_had_2 : decode cX8_had 2 = .ok (.iconst 0, 1) := by decide +kernel
theorem dX8_had_3 : decode cX8_had 3 = .ok (.istore 4, 2) := by decide +kernel
theorem dX8_had_5 : decode cX8_had 5 = .ok (.iload 4, 2) := by decide +kernel
theorem dX8_had_7 : decode cX8_had 7 = .ok (.iload_n 2, 1) := by decide +kernel
theorem dX8_had_8 : decode cX8_had 8 = .ok (.if_icmp .ge 30, 3) := by decide +kernel
theorem dX8_had_11 : decode cX8_had 11 = .ok (.iload_n 3, 1) := by decide +kernel
theorem dX8_had_12 : decode cX8_had 12 = .ok (.ifCond .ne 14, 3) := by decide +kernel
theorem dX8_had_15 : decode cX8_had 15 = .ok (.aload_n 0, 1) := by decide +kernel
theorem dX8_had_16 : decode cX8_had 16 = .ok (.getfield 50, 3) := by decide +kernel
theorem dX8_had_19 : decode cX8_had 19 = .ok (.iload 4, 2) := by decide +kernel
theorem dX8_had_21 : decode cX8_had 21 = .ok (.iaload, 1) := by decide +kernel
theorem dX8_had_22 : decode cX8_had 22 = .ok (.iload_n 1, 1) := by decide +kernel
theorem dX8_had_23 : decode cX8_had 23 = .ok (.if_icmp .ne 7, 3) := by decide +kernel
theorem dX8_had_26 : decode cX8_had 26 = .ok (.iconst 1, 1) := by decide +kernel
theorem dX8_had_27 : decode cX8_had 27 = .ok (.goto 4, 3) := by decide +kernel
theorem dX8_had_30 : decode cX8_had 30 = .ok (.iconst 0, 1) := by decide +kernel
theorem dX8_had_31 : decode cX8_had 31 = .ok (.istore_n 3, 1) := by decide +kernel
theorem dX8_had_32 : decode cX8_had 32 = .ok (.iinc 4 1, 3) := by decide +kernel
theorem dX8_had_35 : decode cX8_had 35 = .ok (.goto (-30), 3) := by decide +kernel
theorem dX8_had_38 : decode cX8_had 38 = .ok (.iload_n 3, 1) := by decide +kernel
theorem dX8_had_39 : decode cX8_had 39 = .ok (.ireturn, 1) := by decide +kernel
theorem dX8_choose_0 : decode cX8_choose 0 = .ok (.ldc 90, 2) := by decide +kernel
theorem dX8_choose_2 : decode cX8_choose 2 = .ok (.istore 5, 2) := by decide +kernel
theorem dX8_choose_4 : decode cX8_choose 4 = .ok (.iconst 0, 1) := by decide +kernel
theorem dX8_choose_5 : decode cX8_choose 5 = .ok (.istore 6, 2) := by decide +kernel
theorem dX8_choose_7 : decode cX8_choose 7 = .ok (.iload 6, 2) := by decide +kernel
theorem dX8_choose_9 : decode cX8_choose 9 = .ok (.aload_n 0, 1) := by decide +kernel
theorem dX8_choose_10 : decode cX8_choose 10 = .ok (.getfield 7, 3) := by decide +kernel
theorem dX8_choose_13 : decode cX8_choose 13 = .ok (.bipush 8, 2) := by decide +kernel
theorem dX8_choose_15 : decode cX8_choose 15 = .ok (.iaload, 1) := by decide +kernel
theorem dX8_choose_16 : decode cX8_choose 16 = .ok (.if_icmp .ge 74, 3) := by decide +kernel
theorem dX8_choose_19 : decode cX8_choose 19 = .ok (.aload_n 0, 1) := by decide +kernel
theorem dX8_choose_20 : decode cX8_choose 20 = .ok (.iload 6, 2) := by decide +kernel
theorem dX8_choose_22 : decode cX8_choose 22 = .ok (.iload_n 2, 1) := by decide +kernel
theorem dX8_choose_23 : decode cX8_choose 23 = .ok (.invokevirtual 125, 3) := by decide +kernel
theorem dX8_choose_26 : decode cX8_choose 26 = .ok (.ifCond .ne 22, 3) := by decide +kernel
theorem dX8_choose_29 : decode cX8_choose 29 = .ok (.iload 4, 2) := by decide +kernel
theorem dX8_choose_31 : decode cX8_choose 31 = .ok (.ifCond .eq 13, 3) := by decide +kernel
theorem dX8_choose_34 : decode cX8_choose 34 = .ok (.aload_n 0, 1) := by decide +kernel
theorem dX8_choose_35 : decode cX8_choose 35 = .ok (.iload 6, 2) := by decide +kernel
theorem dX8_choose_37 : decode cX8_choose 37 = .ok (.iload_n 3, 1) := by decide +kernel
theorem dX8_choose_38 : decode cX8_choose 38 = .ok (.invokevirtual 128, 3) := by decide +kernel
theorem dX8_choose_41 : decode cX8_choose 41 = .ok (.ifCond .ne 7, 3) := by decide +kernel
theorem dX8_choose_44 : decode cX8_choose 44 = .ok (.iconst 1, 1) := by decide +kernel
theorem dX8_choose_45 : decode cX8_choose 45 = .ok (.goto 4, 3) := by decide +kernel
theorem dX8_choose_48 : decode cX8_choose 48 = .ok (.iconst 0, 1) := by decide +kernel
theorem dX8_choose_49 : decode cX8_choose 49 = .ok (.istore 7, 2) := by decide +kernel
theorem dX8_choose_51 : decode cX8_choose 51 = .ok (.iload 7, 2) := by decide +kernel
theorem dX8_choose_53 : decode cX8_choose 53 = .ok (.ifCond .eq 27, 3) := by decide +kernel
theorem dX8_choose_56 : decode cX8_choose 56 = .ok (.iload 5, 2) := by decide +kernel
theorem dX8_choose_58 : decode cX8_choose 58 = .ok (.ldc 90, 2) := by decide +kernel
theorem dX8_choose_60 : decode cX8_choose 60 = .ok (.if_icmp .eq 15, 3) := by decide +kernel
theorem dX8_choose_63 : decode cX8_choose 63 = .ok (.aload_n 0, 1) := by decide +kernel
theorem dX8_choose_64 : decode cX8_choose 64 = .ok (.iload_n 1, 1) := by decide +kernel
theorem dX8_choose_65 : decode cX8_choose 65 = .ok (.iload 6, 2) := by decide +kernel
theorem dX8_choose_67 : decode cX8_choose 67 = .ok (.iload 5, 2) := by decide +kernel
theorem dX8_choose_69 : decode cX8_choose 69 = .ok (.invokevirtual 131, 3) := by decide +kernel
theorem dX8_choose_72 : decode cX8_choose 72 = .ok (.ifCond .eq 8, 3) := by decide +kernel
theorem dX8_choose_75 : decode cX8_choose 75 = .ok (.iload 6, 2) := by decide +kernel
theorem dX8_choose_77 : decode cX8_choose 77 = .ok (.goto 5, 3) := by decide +kernel
theorem dX8_choose_80 : decode cX8_choose 80 = .ok (.iload 5, 2) := by decide +kernel
theorem dX8_choose_82 : decode cX8_choose 82 = .ok (.istore 5, 2) := by decide +kernel
theorem dX8_choose_84 : decode cX8_choose 84 = .ok (.iinc 6 1, 3) := by decide +kernel
theorem dX8_choose_87 : decode cX8_choose 87 = .ok (.goto (-80), 3) := by decide +kernel
theorem dX8_choose_90 : decode cX8_choose 90 = .ok (.iload 5, 2) := by decide +kernel
theorem dX8_choose_92 : decode cX8_choose 92 = .ok (.ireturn, 1) := by decide +kernel
theorem dX8_laysRota_0 : decode cX8_laysRota 0 = .ok (.iconst 0, 1) := by decide +kernel
theorem dX8_laysRota_1 : decode cX8_laysRota 1 = .ok (.istore_n 3, 1) := by decide +kernel
theorem dX8_laysRota_2 : decode cX8_laysRota 2 = .ok (.iload_n 3, 1) := by decide +kernel
theorem dX8_laysRota_3 : decode cX8_laysRota 3 = .ok (.iconst 5, 1) := by decide +kernel
theorem dX8_laysRota_4 : decode cX8_laysRota 4 = .ok (.if_icmp .ge 23, 3) := by decide +kernel
theorem dX8_laysRota_7 : decode cX8_laysRota 7 = .ok (.aload_n 0, 1) := by decide +kernel
theorem dX8_laysRota_8 : decode cX8_laysRota 8 = .ok (.getfield 44, 3) := by decide +kernel
theorem dX8_laysRota_11 : decode cX8_laysRota 11 = .ok (.iload_n 3, 1) := by decide +kernel
theorem dX8_laysRota_12 : decode cX8_laysRota 12 = .ok (.iconst 0, 1) := by decide +kernel
theorem dX8_laysRota_13 : decode cX8_laysRota 13 = .ok (.iastore, 1) := by decide +kernel
theorem dX8_laysRota_14 : decode cX8_laysRota 14 = .ok (.aload_n 0, 1) := by decide +kernel
theorem dX8_laysRota_15 : decode cX8_laysRota 15 = .ok (.getfield 47, 3) := by decide +kernel
theorem dX8_laysRota_18 : decode cX8_laysRota 18 = .ok (.iload_n 3, 1) := by decide +kernel
theorem dX8_laysRota_19 : decode cX8_laysRota 19 = .ok (.iconst 0, 1) := by decide +kernel
theorem dX8_laysRota_20 : decode cX8_laysRota 20 = .ok (.iastore, 1) := by decide +kernel
theorem dX8_laysRota_21 : decode cX8_laysRota 21 = .ok (.iinc 3 1, 3) := by decide +kernel
theorem dX8_laysRota_24 : decode cX8_laysRota 24 = .ok (.goto (-22), 3) := by decide +kernel
theorem dX8_laysRota_27 : decode cX8_laysRota 27 = .ok (.aload_n 0, 1) := by decide +kernel
theorem dX8_laysRota_28 : decode cX8_laysRota 28 = .ok (.iconst 0, 1) := by decide +kernel
theorem dX8_laysRota_29 : decode cX8_laysRota 29 = .ok (.putfield 135, 3) := by decide +kernel
theorem dX8_laysRota_32 : decode cX8_laysRota 32 = .ok (.aload_n 0, 1) := by decide +kernel
theorem dX8_laysRota_33 : decode cX8_laysRota 33 = .ok (.iconst 0, 1) := by decide +kernel
theorem dX8_laysRota_34 : decode cX8_laysRota 34 = .ok (.putfield 138, 3) := by decide +kernel
theorem dX8_laysRota_37 : decode cX8_laysRota 37 = .ok (.iconst 1, 1) := by decide +kernel
theorem dX8_laysRota_38 : decode cX8_laysRota 38 = .ok (.istore_n 3, 1) := by decide +kernel
theorem dX8_laysRota_39 : decode cX8_laysRota 39 = .ok (.iload_n 3, 1) := by decide +kernel
theorem dX8_laysRota_40 : decode cX8_laysRota 40 = .ok (.iload_n 2, 1) := by decide +kernel
theorem dX8_laysRota_41 : decode cX8_laysRota 41 = .ok (.if_icmp .gt 131, 3) := by decide +kernel
theorem dX8_laysRota_44 : decode cX8_laysRota 44 = .ok (.iconst 0, 1) := by decide +kernel
theorem dX8_laysRota_45 : decode cX8_laysRota 45 = .ok (.istore 4, 2) := by decide +kernel
theorem dX8_laysRota_47 : decode cX8_laysRota 47 = .ok (.iload 4, 2) := by decide +kernel
theorem dX8_laysRota_49 : decode cX8_laysRota 49 = .ok (.aload_n 0, 1) := by decide +kernel
theorem dX8_laysRota_50 : decode cX8_laysRota 50 = .ok (.iload_n 3, 1) := by decide +kernel
theorem dX8_laysRota_51 : decode cX8_laysRota 51 = .ok (.invokevirtual 141, 3) := by decide +kernel
theorem dX8_laysRota_54 : decode cX8_laysRota 54 = .ok (.if_icmp .ge 112, 3) := by decide +kernel
theorem dX8_laysRota_57 : decode cX8_laysRota 57 = .ok (.aload_n 0, 1) := by decide +kernel
theorem dX8_laysRota_58 : decode cX8_laysRota 58 = .ok (.iload_n 1, 1) := by decide +kernel
theorem dX8_laysRota_59 : decode cX8_laysRota 59 = .ok (.iload_n 3, 1) := by decide +kernel
theorem dX8_laysRota_60 : decode cX8_laysRota 60 = .ok (.iload 4, 2) := by decide +kernel
theorem dX8_laysRota_62 : decode cX8_laysRota 62 = .ok (.iconst 1, 1) := by decide +kernel
theorem dX8_laysRota_63 : decode cX8_laysRota 63 = .ok (.invokevirtual 144, 3) := by decide +kernel
theorem dX8_laysRota_66 : decode cX8_laysRota 66 = .ok (.istore 5, 2) := by decide +kernel
theorem dX8_laysRota_68 : decode cX8_laysRota 68 = .ok (.iload 5, 2) := by decide +kernel
theorem dX8_laysRota_70 : decode cX8_laysRota 70 = .ok (.ldc 90, 2) := by decide +kernel
theorem dX8_laysRota_72 : decode cX8_laysRota 72 = .ok (.if_icmp .ne 15, 3) := by decide +kernel
theorem dX8_laysRota_75 : decode cX8_laysRota 75 = .ok (.aload_n 0, 1) := by decide +kernel
theorem dX8_laysRota_76 : decode cX8_laysRota 76 = .ok (.iload_n 1, 1) := by decide +kernel
theorem dX8_laysRota_77 : decode cX8_laysRota 77 = .ok (.iload_n 3, 1) := by decide +kernel
theorem dX8_laysRota_78 : decode cX8_laysRota 78 = .ok (.iload 4, 2) := by decide +kernel
theorem dX8_laysRota_80 : decode cX8_laysRota 80 = .ok (.iconst 0, 1) := by decide +kernel
theorem dX8_laysRota_81 : decode cX8_laysRota 81 = .ok (.invokevirtual 144, 3) := by decide +kernel
theorem dX8_laysRota_84 : decode cX8_laysRota 84 = .ok (.goto 5, 3) := by decide +kernel
theorem dX8_laysRota_87 : decode cX8_laysRota 87 = .ok (.iload 5, 2) := by decide +kernel
theorem dX8_laysRota_89 : decode cX8_laysRota 89 = .ok (.istore 5, 2) := by decide +kernel
theorem dX8_laysRota_91 : decode cX8_laysRota 91 = .ok (.aload_n 0, 1) := by decide +kernel
theorem dX8_laysRota_92 : decode cX8_laysRota 92 = .ok (.dup, 1) := by decide +kernel
theorem dX8_laysRota_93 : decode cX8_laysRota 93 = .ok (.getfield 135, 3) := by decide +kernel
theorem dX8_laysRota_96 : decode cX8_laysRota 96 = .ok (.iconst 1, 1) := by decide +kernel
theorem dX8_laysRota_97 : decode cX8_laysRota 97 = .ok (.iadd, 1) := by decide +kernel
theorem dX8_laysRota_98 : decode cX8_laysRota 98 = .ok (.putfield 135, 3) := by decide +kernel
theorem dX8_laysRota_101 : decode cX8_laysRota 101 = .ok (.aload_n 0, 1) := by decide +kernel
theorem dX8_laysRota_102 : decode cX8_laysRota 102 = .ok (.getfield 50, 3) := by decide +kernel
theorem dX8_laysRota_105 : decode cX8_laysRota 105 = .ok (.iload 4, 2) := by decide +kernel
theorem dX8_laysRota_107 : decode cX8_laysRota 107 = .ok (.iload 5, 2) := by decide +kernel
theorem dX8_laysRota_109 : decode cX8_laysRota 109 = .ok (.iastore, 1) := by decide +kernel
theorem dX8_laysRota_110 : decode cX8_laysRota 110 = .ok (.aload_n 0, 1) := by decide +kernel
theorem dX8_laysRota_111 : decode cX8_laysRota 111 = .ok (.dup, 1) := by decide +kernel
theorem dX8_laysRota_112 : decode cX8_laysRota 112 = .ok (.getfield 138, 3) := by decide +kernel
theorem dX8_laysRota_115 : decode cX8_laysRota 115 = .ok (.iload 5, 2) := by decide +kernel
theorem dX8_laysRota_117 : decode cX8_laysRota 117 = .ok (.ldc 90, 2) := by decide +kernel
theorem dX8_laysRota_119 : decode cX8_laysRota 119 = .ok (.if_icmp .ne 7, 3) := by decide +kernel
theorem dX8_laysRota_122 : decode cX8_laysRota 122 = .ok (.iconst 1, 1) := by decide +kernel
theorem dX8_laysRota_123 : decode cX8_laysRota 123 = .ok (.goto 4, 3) := by decide +kernel
theorem dX8_laysRota_126 : decode cX8_laysRota 126 = .ok (.iconst 0, 1) := by decide +kernel
theorem dX8_laysRota_127 : decode cX8_laysRota 127 = .ok (.iadd, 1) := by decide +kernel
theorem dX8_laysRota_128 : decode cX8_laysRota 128 = .ok (.putfield 138, 3) := by decide +kernel
theorem dX8_laysRota_131 : decode cX8_laysRota 131 = .ok (.iload 5, 2) := by decide +kernel
theorem dX8_laysRota_133 : decode cX8_laysRota 133 = .ok (.ldc 90, 2) := by decide +kernel
theorem dX8_laysRota_135 : decode cX8_laysRota 135 = .ok (.if_icmp .eq 25, 3) := by decide +kernel
theorem dX8_laysRota_138 : decode cX8_laysRota 138 = .ok (.aload_n 0, 1) := by decide +kernel
theorem dX8_laysRota_139 : decode cX8_laysRota 139 = .ok (.getfield 44, 3) := by decide +kernel
theorem dX8_laysRota_142 : decode cX8_laysRota 142 = .ok (.iload 5, 2) := by decide +kernel
theorem dX8_laysRota_144 : decode cX8_laysRota 144 = .ok (.dup2, 1) := by decide +kernel
theorem dX8_laysRota_145 : decode cX8_laysRota 145 = .ok (.iaload, 1) := by decide +kernel
theorem dX8_laysRota_146 : decode cX8_laysRota 146 = .ok (.iconst 1, 1) := by decide +kernel
theorem dX8_laysRota_147 : decode cX8_laysRota 147 = .ok (.iadd, 1) := by decide +kernel
theorem dX8_laysRota_148 : decode cX8_laysRota 148 = .ok (.iastore, 1) := by decide +kernel
theorem dX8_laysRota_149 : decode cX8_laysRota 149 = .ok (.aload_n 0, 1) := by decide +kernel
theorem dX8_laysRota_150 : decode cX8_laysRota 150 = .ok (.getfield 47, 3) := by decide +kernel
theorem dX8_laysRota_153 : decode cX8_laysRota 153 = .ok (.iload 5, 2) := by decide +kernel
theorem dX8_laysRota_155 : decode cX8_laysRota 155 = .ok (.aload_n 0, 1) := by decide +kernel
theorem dX8_laysRota_156 : decode cX8_laysRota 156 = .ok (.getfield 135, 3) := by decide +kernel
theorem dX8_laysRota_159 : decode cX8_laysRota 159 = .ok (.iastore, 1) := by decide +kernel
theorem dX8_laysRota_160 : decode cX8_laysRota 160 = .ok (.iinc 4 1, 3) := by decide +kernel
theorem dX8_laysRota_163 : decode cX8_laysRota 163 = .ok (.goto (-116), 3) := by decide +kernel
theorem dX8_laysRota_166 : decode cX8_laysRota 166 = .ok (.iinc 3 1, 3) := by decide +kernel
theorem dX8_laysRota_169 : decode cX8_laysRota 169 = .ok (.goto (-130), 3) := by decide +kernel
theorem dX8_laysRota_172 : decode cX8_laysRota 172 = .ok (.return_, 1) := by decide +kernel
theorem dX8_isHeld_0 : decode cX8_isHeld 0 = .ok (.aload_n 0, 1) := by decide +kernel
theorem dX8_isHeld_1 : decode cX8_isHeld 1 = .ok (.getfield 35, 3) := by decide +kernel
theorem dX8_isHeld_4 : decode cX8_isHeld 4 = .ok (.iload_n 1, 1) := by decide +kernel
theorem dX8_isHeld_5 : decode cX8_isHeld 5 = .ok (.iaload, 1) := by decide +kernel
theorem dX8_isHeld_6 : decode cX8_isHeld 6 = .ok (.iconst 1, 1) := by decide +kernel
theorem dX8_isHeld_7 : decode cX8_isHeld 7 = .ok (.if_icmp .eq 13, 3) := by decide +kernel
theorem dX8_isHeld_10 : decode cX8_isHeld 10 = .ok (.aload_n 0, 1) := by decide +kernel
theorem dX8_isHeld_11 : decode cX8_isHeld 11 = .ok (.getfield 35, 3) := by decide +kernel
theorem dX8_isHeld_14 : decode cX8_isHeld 14 = .ok (.iload_n 1, 1) := by decide +kernel
theorem dX8_isHeld_15 : decode cX8_isHeld 15 = .ok (.iaload, 1) := by decide +kernel
theorem dX8_isHeld_16 : decode cX8_isHeld 16 = .ok (.iconst 2, 1) := by decide +kernel
theorem dX8_isHeld_17 : decode cX8_isHeld 17 = .ok (.if_icmp .ne 7, 3) := by decide +kernel
theorem dX8_isHeld_20 : decode cX8_isHeld 20 = .ok (.iconst 1, 1) := by decide +kernel
