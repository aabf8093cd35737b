theorem dX7_within_0 : decode cX7_within 0 = .ok (.iload_n 1, 1) := by decide +kernel
theorem dX7_within_1 : decode cX7_within 1 = .ok (.iload_n 0, 1) := by decide +kernel
theorem dX7_within_2 : decode cX7_within 2 = .ok (.if_icmp .gt 12, 3) := by decide +kernel
theorem dX7_within_5 : decode cX7_within 5 = .ok (.iload_n 0, 1) := by decide +kernel
theorem dX7_within_6 : decode cX7_within 6 = .ok (.iload_n 2, 1) := by decide +kernel
theorem dX7_within_7 : decode cX7_within 7 = .ok (.if_icmp .gt 7, 3) := by decide +kernel
theorem dX7_within_10 : decode cX7_within 10 = .ok (.iconst 1, 1) := by decide +kernel
theorem dX7_within_11 : decode cX7_within 11 = .ok (.goto 4, 3) := by decide +kernel
theorem dX7_within_14 : decode cX7_within 14 = .ok (.iconst 0, 1) := by decide +kernel
theorem dX7_within_15 : decode cX7_within 15 = .ok (.ireturn, 1) := by decide +kernel
theorem dX6_put_0 : decode cX6_put 0 = .ok (.aload_n 0, 1) := by decide +kernel
theorem dX6_put_1 : decode cX6_put 1 = .ok (.getfield 15, 3) := by decide +kernel
theorem dX6_put_4 : decode cX6_put 4 = .ok (.sipush 160, 3) := by decide +kernel
theorem dX6_put_7 : decode cX6_put 7 = .ok (.if_icmp .lt 5, 3) := by decide +kernel
theorem dX6_put_10 : decode cX6_put 10 = .ok (.iconst 0, 1) := by decide +kernel
theorem dX6_put_11 : decode cX6_put 11 = .ok (.ireturn, 1) := by decide +kernel
theorem dX6_put_12 : decode cX6_put 12 = .ok (.aload_n 0, 1) := by decide +kernel
theorem dX6_put_13 : decode cX6_put 13 = .ok (.getfield 11, 3) := by decide +kernel
theorem dX6_put_16 : decode cX6_put 16 = .ok (.aload_n 0, 1) := by decide +kernel
theorem dX6_put_17 : decode cX6_put 17 = .ok (.getfield 15, 3) := by decide +kernel
theorem dX6_put_20 : decode cX6_put 20 = .ok (.iload_n 1, 1) := by decide +kernel
theorem dX6_put_21 : decode cX6_put 21 = .ok (.iastore, 1) := by decide +kernel
theorem dX6_put_22 : decode cX6_put 22 = .ok (.aload_n 0, 1) := by decide +kernel
theorem dX6_put_23 : decode cX6_put 23 = .ok (.dup, 1) := by decide +kernel
theorem dX6_put_24 : decode cX6_put 24 = .ok (.getfield 15, 3) := by decide +kernel
theorem dX6_put_27 : decode cX6_put 27 = .ok (.iconst 1, 1) := by decide +kernel
theorem dX6_put_28 : decode cX6_put 28 = .ok (.iadd, 1) := by decide +kernel
theorem dX6_put_29 : decode cX6_put 29 = .ok (.putfield 15, 3) := by decide +kernel
theorem dX6_put_32 : decode cX6_put 32 = .ok (.iconst 1, 1) := by decide +kernel
theorem dX6_put_33 : decode cX6_put 33 = .ok (.ireturn, 1) := by decide +kernel
theorem dX7_feed_0 : decode cX7_feed 0 = .ok (.iload_n 1, 1) := by decide +kernel
theorem dX7_feed_1 : decode cX7_feed 1 = .ok (.iconst 0, 1) := by decide +kernel
theorem dX7_feed_2 : decode cX7_feed 2 = .ok (.sipush 255, 3) := by decide +kernel
theorem dX7_feed_5 : decode cX7_feed 5 = .ok (.invokestatic 68, 3) := by decide +kernel
theorem dX7_feed_8 : decode cX7_feed 8 = .ok (.ifCond .ne 6, 3) := by decide +kernel
theorem dX7_feed_11 : decode cX7_feed 11 = .ok (.ldc 72, 2) := by decide +kernel
theorem dX7_feed_13 : decode cX7_feed 13 = .ok (.ireturn, 1) := by decide +kernel
theorem dX7_feed_14 : decode cX7_feed 14 = .ok (.aload_n 0, 1) := by decide +kernel
theorem dX7_feed_15 : decode cX7_feed 15 = .ok (.getfield 23, 3) := by decide +kernel
theorem dX7_feed_18 : decode cX7_feed 18 = .ok (.iload_n 1, 1) := by decide +kernel
theorem dX7_feed_19 : decode cX7_feed 19 = .ok (.invokevirtual 73, 3) := by decide +kernel
theorem dX7_feed_22 : decode cX7_feed 22 = .ok (.ifCond .eq 13, 3) := by decide +kernel
theorem dX7_feed_25 : decode cX7_feed 25 = .ok (.aload_n 0, 1) := by decide +kernel
theorem dX7_feed_26 : decode cX7_feed 26 = .ok (.getfield 23, 3) := by decide +kernel
theorem dX7_feed_29 : decode cX7_feed 29 = .ok (.getfield 77, 3) := by decide +kernel
theorem dX7_feed_32 : decode cX7_feed 32 = .ok (.goto 5, 3) := by decide +kernel
theorem dX7_feed_35 : decode cX7_feed 35 = .ok (.ldc 80, 2) := by decide +kernel
theorem dX7_feed_37 : decode cX7_feed 37 = .ok (.ireturn, 1) := by decide +kernel
theorem dX8_in_0 : decode cX8_in 0 = .ok (.lload_n 0, 1) := by decide +kernel
theorem dX8_in_1 : decode cX8_in 1 = .ok (.lload_n 2, 1) := by decide +kernel
theorem dX8_in_2 : decode cX8_in 2 = .ok (.lcmp, 1) := by decide +kernel
theorem dX8_in_3 : decode cX8_in 3 = .ok (.ifCond .lt 14, 3) := by decide +kernel
theorem dX8_in_6 : decode cX8_in 6 = .ok (.lload_n 0, 1) := by decide +kernel
theorem dX8_in_7 : decode cX8_in 7 = .ok (.lload 4, 2) := by decide +kernel
theorem dX8_in_9 : decode cX8_in 9 = .ok (.lcmp, 1) := by decide +kernel
theorem dX8_in_10 : decode cX8_in 10 = .ok (.ifCond .gt 7, 3) := by decide +kernel
theorem dX8_in_13 : decode cX8_in 13 = .ok (.iconst 1, 1) := by decide +kernel
theorem dX8_in_14 : decode cX8_in 14 = .ok (.goto 4, 3) := by decide +kernel
theorem dX8_in_17 : decode cX8_in 17 = .ok (.iconst 0, 1) := by decide +kernel
theorem dX8_in_18 : decode cX8_in 18 = .ok (.ireturn, 1) := by decide +kernel
theorem dX8_feed_0 : decode cX8_feed 0 = .ok (.iload_n 1, 1) := by decide +kernel
theorem dX8_feed_1 : decode cX8_feed 1 = .ok (.i2l, 1) := by decide +kernel
theorem dX8_feed_2 : decode cX8_feed 2 = .ok (.lconst 0, 1) := by decide +kernel
theorem dX8_feed_3 : decode cX8_feed 3 = .ok (.ldc2_w 207, 3) := by decide +kernel
theorem dX8_feed_6 : decode cX8_feed 6 = .ok (.invokestatic 55, 3) := by decide +kernel
theorem dX8_feed_9 : decode cX8_feed 9 = .ok (.ifCond .ne 6, 3) := by decide +kernel
theorem dX8_feed_12 : decode cX8_feed 12 = .ok (.ldc 209, 2) := by decide +kernel
theorem dX8_feed_14 : decode cX8_feed 14 = .ok (.ireturn, 1) := by decide +kernel
theorem dX8_feed_15 : decode cX8_feed 15 = .ok (.aload_n 0, 1) := by decide +kernel
theorem dX8_feed_16 : decode cX8_feed 16 = .ok (.getfield 152, 3) := by decide +kernel
theorem dX8_feed_19 : decode cX8_feed 19 = .ok (.sipush 160, 3) := by decide +kernel
theorem dX8_feed_22 : decode cX8_feed 22 = .ok (.if_icmp .ne 6, 3) := by decide +kernel
theorem dX8_feed_25 : decode cX8_feed 25 = .ok (.ldc 210, 2) := by decide +kernel
theorem dX8_feed_27 : decode cX8_feed 27 = .ok (.ireturn, 1) := by decide +kernel
theorem dX8_feed_28 : decode cX8_feed 28 = .ok (.aload_n 0, 1) := by decide +kernel
theorem dX8_feed_29 : decode cX8_feed 29 = .ok (.getfield 26, 3) := by decide +kernel
theorem dX8_feed_32 : decode cX8_feed 32 = .ok (.aload_n 0, 1) := by decide +kernel
theorem dX8_feed_33 : decode cX8_feed 33 = .ok (.getfield 152, 3) := by decide +kernel
theorem dX8_feed_36 : decode cX8_feed 36 = .ok (.iload_n 1, 1) := by decide +kernel
theorem dX8_feed_37 : decode cX8_feed 37 = .ok (.iastore, 1) := by decide +kernel
theorem dX8_feed_38 : decode cX8_feed 38 = .ok (.aload_n 0, 1) := by decide +kernel
theorem dX8_feed_39 : decode cX8_feed 39 = .ok (.dup, 1) := by decide +kernel
theorem dX8_feed_40 : decode cX8_feed 40 = .ok (.getfield 152, 3) := by decide +kernel
theorem dX8_feed_43 : decode cX8_feed 43 = .ok (.iconst 1, 1) := by decide +kernel
theorem dX8_feed_44 : decode cX8_feed 44 = .ok (.iadd, 1) := by decide +kernel
theorem dX8_feed_45 : decode cX8_feed 45 = .ok (.putfield 152, 3) := by decide +kernel
theorem dX8_feed_48 : decode cX8_feed 48 = .ok (.aload_n 0, 1) := by decide +kernel
theorem dX8_feed_49 : decode cX8_feed 49 = .ok (.getfield 152, 3) := by decide +kernel
theorem dX8_feed_52 : decode cX8_feed 52 = .ok (.ireturn, 1) := by decide +kernel
theorem dJ7_fill_53178_0 : decode cJ7_fill_53178 0 = .ok (.iconst 0, 1) := by decide +kernel
theorem dJ7_fill_53178_1 : decode cJ7_fill_53178 1 = .ok (.istore_n 2, 1) := by decide +kernel
theorem dJ7_fill_53178_2 : decode cJ7_fill_53178 2 = .ok (.aload_n 0, 1) := by decide +kernel
theorem dJ7_fill_53178_3 : decode cJ7_fill_53178 3 = .ok (.arraylength, 1) := by decide +kernel
theorem dJ7_fill_53178_4 : decode cJ7_fill_53178 4 = .ok (.istore_n 3, 1) := by decide +kernel
theorem dJ7_fill_53178_5 : decode cJ7_fill_53178 5 = .ok (.iload_n 2, 1) := by decide +kernel
theorem dJ7_fill_53178_6 : decode cJ7_fill_53178 6 = .ok (.iload_n 3, 1) := by decide +kernel
theorem dJ7_fill_53178_7 : decode cJ7_fill_53178 7 = .ok (.if_icmp .ge 13, 3) := by decide +kernel
theorem dJ7_fill_53178_10 : decode cJ7_fill_53178 10 = .ok (.aload_n 0, 1) := by decide +kernel
theorem dJ7_fill_53178_11 : decode cJ7_fill_53178 11 = .ok (.iload_n 2, 1) := by decide +kernel
theorem dJ7_fill_53178_12 : decode cJ7_fill_53178 12 = .ok (.iload_n 1, 1) := by decide +kernel
theorem dJ7_fill_53178_13 : decode cJ7_fill_53178 13 = .ok (.iastore, 1) := by decide +kernel
theorem dJ7_fill_53178_14 : decode cJ7_fill_53178 14 = .ok (.iinc 2 1, 3) := by decide +kernel
theorem dJ7_fill_53178_17 : decode cJ7_fill_53178 17 = .ok (.goto (-12), 3) := by decide +kernel
theorem dJ7_fill_53178_20 : decode cJ7_fill_53178 20 = .ok (.return_, 1) := by decide +kernel
theorem dX1_empty_0 : decode cX1_empty 0 = .ok (.aload_n 0, 1) := by decide +kernel
theorem dX1_empty_1 : decode cX1_empty 1 = .ok (.iconst 0, 1) := by decide +kernel
theorem dX1_empty_2 : decode cX1_empty 2 = .ok (.putfield 44, 3) := by decide +kernel
theorem dX1_empty_5 : decode cX1_empty 5 = .ok (.aload_n 0, 1) := by decide +kernel
theorem dX1_empty_6 : decode cX1_empty 6 = .ok (.iconst 0, 1) := by decide +kernel
theorem dX1_empty_7 : decode cX1_empty 7 = .ok (.putfield 48, 3) := by decide +kernel
theorem dX1_empty_10 : decode cX1_empty 10 = .ok (.aload_n 0, 1) := by decide +kernel
theorem dX1_empty_11 : decode cX1_empty 11 = .ok (.iconst 0, 1) := by decide +kernel
theorem dX1_empty_12 : decode cX1_empty 12 = .ok (.putfield 52, 3) := by decide +kernel
theorem dX1_empty_15 : decode cX1_empty 15 = .ok (.aload_n 0, 1) := by decide +kernel
theorem dX1_empty_16 : decode cX1_empty 16 = .ok (.iconst 0, 1) := by decide +kernel
theorem dX1_empty_17 : decode cX1_empty 17 = .ok (.putfield 55, 3) := by decide +kernel
theorem dX1_empty_20 : decode cX1_empty 20 = .ok (.aload_n 0, 1) := by decide +kernel
theorem dX1_empty_21 : decode cX1_empty 21 = .ok (.getfield 27, 3) := by decide +kernel
theorem dX1_empty_24 : decode cX1_empty 24 = .ok (.iconst 1, 1) := by decide +kernel
theorem dX1_empty_25 : decode cX1_empty 25 = .ok (.invokestatic 58, 3) := by decide +kernel
theorem dX1_empty_28 : decode cX1_empty 28 = .ok (.aload_n 0, 1) := by decide +kernel
theorem dX1_empty_29 : decode cX1_empty 29 = .ok (.getfield 30, 3) := by decide +kernel
theorem dX1_empty_32 : decode cX1_empty 32 = .ok (.iconst 0, 1) := by decide +kernel
theorem dX1_empty_33 : decode cX1_empty 33 = .ok (.invokestatic 58, 3) := by decide +kernel
theorem dX1_empty_36 : decode cX1_empty 36 = .ok (.return_, 1) := by decide +kernel
theorem dX6_at_0 : decode cX6_at 0 = .ok (.iconst 0, 1) := by decide +kernel
theorem dX6_at_1 : decode cX6_at 1 = .ok (.iload_n 1, 1) := by decide +kernel
theorem dX6_at_2 : decode cX6_at 2 = .ok (.if_icmp .gt 20, 3) := by decide +kernel
theorem dX6_at_5 : decode cX6_at 5 = .ok (.iload_n 1, 1) := by decide +kernel
theorem dX6_at_6 : decode cX6_at 6 = .ok (.aload_n 0, 1) := by decide +kernel
theorem dX6_at_7 : decode cX6_at 7 = .ok (.getfield 15, 3) := by decide +kernel
theorem dX6_at_10 : decode cX6_at 10 = .ok (.if_icmp .ge 12, 3) := by decide +kernel
theorem dX6_at_13 : decode cX6_at 13 = .ok (.aload_n 0, 1) := by decide +kernel
theorem dX6_at_14 : decode cX6_at 14 = .ok (.getfield 11, 3) := by decide +kernel
theorem dX6_at_17 : decode cX6_at 17 = .ok (.iload_n 1, 1) := by decide +kernel
theorem dX6_at_18 : decode cX6_at 18 = .ok (.iaload, 1) := by decide +kernel
theorem dX6_at_19 : decode cX6_at 19 = .ok (.goto 5, 3) := by decide +kernel
theorem dX6_at_22 : decode cX6_at 22 = .ok (.ldc 19, 2) := by decide +kernel
theorem dX6_at_24 : decode cX6_at 24 = .ok (.ireturn, 1) := by decide +kernel
theorem dX4_fails_0 : decode cX4_fails 0 = .ok (.aload_n 0, 1) := by decide +kernel
theorem dX4_fails_1 : decode cX4_fails 1 = .ok (.iload_n 1, 1) := by decide +kernel
theorem dX4_fails_2 : decode cX4_fails 2 = .ok (.putfield 23, 3) := by decide +kernel
theorem dX4_fails_5 : decode cX4_fails 5 = .ok (.aload_n 0, 1) := by decide +kernel
theorem dX4_fails_6 : decode cX4_fails 6 = .ok (.aload_n 0, 1) := by decide +kernel
theorem dX4_fails_7 : decode cX4_fails 7 = .ok (.getfield 19, 3) := by decide +kernel
theorem dX4_fails_10 : decode cX4_fails 10 = .ok (.putfield 26, 3) := by decide +kernel
theorem dX4_fails_13 : decode cX4_fails 13 = .ok (.iconst 0, 1) := by decide +kernel
theorem dX4_fails_14 : decode cX4_fails 14 = .ok (.ireturn, 1) := by decide +kernel
theorem dX4_sign_0 : decode cX4_sign 0 = .ok (.aload_n 0, 1) := by decide +kernel
theorem dX4_sign_1 : decode cX4_sign 1 = .ok (.getfield 9, 3) := by decide +kernel
theorem dX4_sign_4 : decode cX4_sign 4 = .ok (.aload_n 0, 1) := by decide +kernel
theorem dX4_sign_5 : decode cX4_sign 5 = .ok (.getfield 19, 3) := by decide +kernel
theorem dX4_sign_8 : decode cX4_sign 8 = .ok (.invokevirtual 61, 3) := by decide +kernel
theorem dX4_sign_11 : decode cX4_sign 11 = .ok (.iload_n 1, 1) := by decide +kernel
theorem dX4_sign_12 : decode cX4_sign 12 = .ok (.if_icmp .eq 9, 3) := by decide +kernel
theorem dX4_sign_15 : decode cX4_sign 15 = .ok (.aload_n 0, 1) := by decide +kernel
theorem dX4_sign_16 : decode cX4_sign 16 = .ok (.iconst 1, 1) := by decide +kernel
theorem dX4_sign_17 : decode cX4_sign 17 = .ok (.invokevirtual 72, 3) := by decide +kernel
theorem dX4_sign_20 : decode cX4_sign 20 = .ok (.ireturn, 1) := by decide +kernel
theorem dX4_sign_21 : decode cX4_sign 21 = .ok (.aload_n 0, 1) := by decide +kernel
theorem dX4_sign_22 : decode cX4_sign 22 = .ok (.dup, 1) := by decide +kernel
theorem dX4_sign_23 : decode cX4_sign 23 = .ok (.getfield 19, 3) := by decide +kernel
theorem dX4_sign_26 : decode cX4_sign 26 = .ok (.iconst 1, 1) := by decide +kernel
theorem dX4_sign_27 : decode cX4_sign 27 = .ok (.iadd, 1) := by decide +kernel
theorem dX4_sign_28 : decode cX4_sign 28 = .ok (.putfield 19, 3) := by decide +kernel
theorem dX4_sign_31 : decode cX4_sign 31 = .ok (.iconst 1, 1) := by decide +kernel
theorem dX4_sign_32 : decode cX4_sign 32 = .ok (.ireturn, 1) := by decide +kernel
theorem dX4_bareNumber_0 : decode cX4_bareNumber 0 = .ok (.iconst 0, 1) := by decide +kernel
theorem dX4_bareNumber_1 : decode cX4_bareNumber 1 = .ok (.istore_n 3, 1) := by decide +kernel
theorem dX4_bareNumber_2 : decode cX4_bareNumber 2 = .ok (.iconst 0, 1) := by decide +kernel
theorem dX4_bareNumber_3 : decode cX4_bareNumber 3 = .ok (.istore 4, 2) := by decide +kernel
theorem dX4_bareNumber_5 : decode cX4_bareNumber 5 = .ok (.iload_n 3, 1) := by decide +kernel
theorem dX4_bareNumber_6 : decode cX4_bareNumber 6 = .ok (.iconst 4, 1) := by decide +kernel
theorem dX4_bareNumber_7 : decode cX4_bareNumber 7 = .ok (.if_icmp .ge 56, 3) := by decide +kernel
theorem dX4_bareNumber_10 : decode cX4_bareNumber 10 = .ok (.aload_n 0, 1) := by decide +kernel
theorem dX4_bareNumber_11 : decode cX4_bareNumber 11 = .ok (.getfield 9, 3) := by decide +kernel
theorem dX4_bareNumber_14 : decode cX4_bareNumber 14 = .ok (.aload_n 0, 1) := by decide +kernel
theorem dX4_bareNumber_15 : decode cX4_bareNumber 15 = .ok (.getfield 19, 3) := by decide +kernel
theorem dX4_bareNumber_18 : decode cX4_bareNumber 18 = .ok (.iload_n 3, 1) := by decide +kernel
theorem dX4_bareNumber_19 : decode cX4_bareNumber 19 = .ok (.iadd, 1) := by decide +kernel
theorem dX4_bareNumber_20 : decode cX4_bareNumber 20 = .ok (.invokevirtual 61, 3) := by decide +kernel
theorem dX4_bareNumber_23 : decode cX4_bareNumber 23 = .ok (.bipush 48, 2) := by decide +kernel
theorem dX4_bareNumber_25 : decode cX4_bareNumber 25 = .ok (.bipush 57, 2) := by decide +kernel
theorem dX4_bareNumber_27 : decode cX4_bareNumber 27 = .ok (.invokestatic 112, 3) := by decide +kernel
theorem dX4_bareNumber_30 : decode cX4_bareNumber 30 = .ok (.ifCond .eq 33, 3) := by decide +kernel
theorem dX4_bareNumber_33 : decode cX4_bareNumber 33 = .ok (.iload 4, 2) := by decide +kernel
theorem dX4_bareNumber_35 : decode cX4_bareNumber 35 = .ok (.bipush 10, 2) := by decide +kernel
theorem dX4_bareNumber_37 : decode cX4_bareNumber 37 = .ok (.imul, 1) := by decide +kernel
theorem dX4_bareNumber_38 : decode cX4_bareNumber 38 = .ok (.aload_n 0, 1) := by decide +kernel
theorem dX4_bareNumber_39 : decode cX4_bareNumber 39 = .ok (.getfield 9, 3) := by decide +kernel
theorem dX4_bareNumber_42 : decode cX4_bareNumber 42 = .ok (.aload_n 0, 1) := by decide +kernel
theorem dX4_bareNumber_43 : decode cX4_bareNumber 43 = .ok (.getfield 19, 3) := by decide +kernel
theorem dX4_bareNumber_46 : decode cX4_bareNumber 46 = .ok (.iload_n 3, 1) := by decide +kernel
theorem dX4_bareNumber_47 : decode cX4_bareNumber 47 = .ok (.iadd, 1) := by decide +kernel
theorem dX4_bareNumber_48 : decode cX4_bareNumber 48 = .ok (.invokevirtual 61, 3) := by decide +kernel
theorem dX4_bareNumber_51 : decode cX4_bareNumber 51 = .ok (.iadd, 1) := by decide +kernel
theorem dX4_bareNumber_52 : decode cX4_bareNumber 52 = .ok (.bipush 48, 2) := by decide +kernel
theorem dX4_bareNumber_54 : decode cX4_bareNumber 54 = .ok (.isub, 1) := by decide +kernel
theorem dX4_bareNumber_55 : decode cX4_bareNumber 55 = .ok (.istore 4, 2) := by decide +kernel
theorem dX4_bareNumber_57 : decode cX4_bareNumber 57 = .ok (.iinc 3 1, 3) := by decide +kernel
theorem dX4_bareNumber_60 : decode cX4_bareNumber 60 = .ok (.goto (-55), 3) := by decide +kernel
theorem dX4_bareNumber_63 : decode cX4_bareNumber 63 = .ok (.iload_n 3, 1) := by decide +kernel
theorem dX4_bareNumber_64 : decode cX4_bareNumber 64 = .ok (.ifCond .eq 8, 3) := by decide +kernel
theorem dX4_bareNumber_67 : decode cX4_bareNumber 67 = .ok (.iload_n 3, 1) := by decide +kernel
theorem dX4_bareNumber_68 : decode cX4_bareNumber 68 = .ok (.iconst 3, 1) := by decide +kernel
theorem dX4_bareNumber_69 : decode cX4_bareNumber 69 = .ok (.if_icmp .le 9, 3) := by decide +kernel
theorem dX4_bareNumber_72 : decode cX4_bareNumber 72 = .ok (.aload_n 0, 1) := by decide +kernel
theorem dX4_bareNumber_73 : decode cX4_bareNumber 73 = .ok (.iconst 1, 1) := by decide +kernel
theorem dX4_bareNumber_74 : decode cX4_bareNumber 74 = .ok (.invokevirtual 72, 3) := by decide +kernel
theorem dX4_bareNumber_77 : decode cX4_bareNumber 77 = .ok (.ireturn, 1) := by decide +kernel
theorem dX4_bareNumber_78 : decode cX4_bareNumber 78 = .ok (.iload 4, 2) := by decide +kernel
theorem dX4_bareNumber_80 : decode cX4_bareNumber 80 = .ok (.iload_n 1, 1) := by decide +kernel
theorem dX4_bareNumber_81 : decode cX4_bareNumber 81 = .ok (.iload_n 2, 1) := by decide +kernel
theorem dX4_bareNumber_82 : decode cX4_bareNumber 82 = .ok (.invokestatic 112, 3) := by decide +kernel
theorem dX4_bareNumber_85 : decode cX4_bareNumber 85 = .ok (.ifCond .ne 9, 3) := by decide +kernel
theorem dX4_bareNumber_88 : decode cX4_bareNumber 88 = .ok (.aload_n 0, 1) := by decide +kernel
theorem dX4_bareNumber_89 : decode cX4_bareNumber 89 = .ok (.iconst 2, 1) := by decide +kernel
theorem dX4_bareNumber_90 : decode cX4_bareNumber 90 = .ok (.invokevirtual 72, 3) := by decide +kernel
theorem dX4_bareNumber_93 : decode cX4_bareNumber 93 = .ok (.ireturn, 1) := by decide +kernel
theorem dX4_bareNumber_94 : decode cX4_bareNumber 94 = .ok (.aload_n 0, 1) := by decide +kernel
theorem dX4_bareNumber_95 : decode cX4_bareNumber 95 = .ok (.iload 4, 2) := by decide +kernel
theorem dX4_bareNumber_97 : decode cX4_bareNumber 97 = .ok (.putfield 88, 3) := by decide +kernel
theorem dX4_bareNumber_100 : decode cX4_bareNumber 100 = .ok (.aload_n 0, 1) := by decide +kernel
theorem dX4_bareNumber_101 : decode cX4_bareNumber 101 = .ok (.dup, 1) := by decide +kernel
theorem dX4_bareNumber_102 : decode cX4_bareNumber 102 = .ok (.getfield 19, 3) := by decide +kernel
theorem dX4_bareNumber_105 : decode cX4_bareNumber 105 = .ok (.iload_n 3, 1) := by decide +kernel
theorem dX4_bareNumber_106 : decode cX4_bareNumber 106 = .ok (.iadd, 1) := by decide +kernel
theorem dX4_bareNumber_107 : decode cX4_bareNumber 107 = .ok (.putfield 19, 3) := by decide +kernel
theorem dX4_bareNumber_110 : decode cX4_bareNumber 110 = .ok (.iconst 1, 1) := by decide +kernel
theorem dX4_bareNumber_111 : decode cX4_bareNumber 111 = .ok (.ireturn, 1) := by decide +kernel
theorem dX4_number_0 : decode cX4_number 0 = .ok (.aload_n 0, 1) := by decide +kernel
theorem dX4_number_1 : decode cX4_number 1 = .ok (.iload_n 1, 1) := by decide +kernel
theorem dX4_number_2 : decode cX4_number 2 = .ok (.iload_n 2, 1) := by decide +kernel
theorem dX4_number_3 : decode cX4_number 3 = .ok (.invokevirtual 100, 3) := by decide +kernel
theorem dX4_number_6 : decode cX4_number 6 = .ok (.ifCond .eq 15, 3) := by decide +kernel
theorem dX4_number_9 : decode cX4_number 9 = .ok (.aload_n 0, 1) := by decide +kernel
theorem dX4_number_10 : decode cX4_number 10 = .ok (.iload_n 3, 1) := by decide +kernel
theorem dX4_number_11 : decode cX4_number 11 = .ok (.invokevirtual 53, 3) := by decide +kernel
theorem dX4_number_14 : decode cX4_number 14 = .ok (.ifCond .eq 7, 3) := by decide +kernel
theorem dX4_number_17 : decode cX4_number 17 = .ok (.iconst 1, 1) := by decide +kernel
theorem dX4_number_18 : decode cX4_number 18 = .ok (.goto 4, 3) := by decide +kernel
theorem dX4_number_21 : decode cX4_number 21 = .ok (.iconst 0, 1) := by decide +kernel
theorem dX4_number_22 : decode cX4_number 22 = .ok (.ireturn, 1) := by decide +kernel
theorem dX4_lawNumber_0 : decode cX4_lawNumber 0 = .ok (.iload_n 1, 1) := by decide +kernel
theorem dX4_lawNumber_1 : decode cX4_lawNumber 1 = .ok (.iconst 0, 1) := by decide +kernel
theorem dX4_lawNumber_2 : decode cX4_lawNumber 2 = .ok (.iconst 5, 1) := by decide +kernel
theorem dX4_lawNumber_3 : decode cX4_lawNumber 3 = .ok (.invokestatic 112, 3) := by decide +kernel
theorem dX4_lawNumber_6 : decode cX4_lawNumber 6 = .ok (.ifCond .eq 21, 3) := by decide +kernel
theorem dX4_lawNumber_9 : decode cX4_lawNumber 9 = .ok (.aload_n 0, 1) := by decide +kernel
theorem dX4_lawNumber_10 : decode cX4_lawNumber 10 = .ok (.getstatic 115, 3) := by decide +kernel
theorem dX4_lawNumber_13 : decode cX4_lawNumber 13 = .ok (.iload_n 1, 1) := by decide +kernel
theorem dX4_lawNumber_14 : decode cX4_lawNumber 14 = .ok (.iaload, 1) := by decide +kernel
theorem dX4_lawNumber_15 : decode cX4_lawNumber 15 = .ok (.getstatic 119, 3) := by decide +kernel
theorem dX4_lawNumber_18 : decode cX4_lawNumber 18 = .ok (.iload_n 1, 1) := by decide +kernel
theorem dX4_lawNumber_19 : decode cX4_lawNumber 19 = .ok (.iaload, 1) := by decide +kernel
theorem dX4_lawNumber_20 : decode cX4_lawNumber 20 = .ok (.iload_n 2, 1) := by decide +kernel
theorem dX4_lawNumber_21 : decode cX4_lawNumber 21 = .ok (.invokevirtual 84, 3) := by decide +kernel
theorem dX4_lawNumber_24 : decode cX4_lawNumber 24 = .ok (.ifCond .ne 5, 3) := by decide +kernel
theorem dX4_lawNumber_27 : decode cX4_lawNumber 27 = .ok (.iconst 0, 1) := by decide +kernel
theorem dX4_lawNumber_28 : decode cX4_lawNumber 28 = .ok (.ireturn, 1) := by decide +kernel
theorem dX4_lawNumber_29 : decode cX4_lawNumber 29 = .ok (.aload_n 0, 1) := by decide +kernel
theorem dX4_lawNumber_30 : decode cX4_lawNumber 30 = .ok (.getfield 15, 3) := by decide +kernel
theorem dX4_lawNumber_33 : decode cX4_lawNumber 33 = .ok (.getfield 122, 3) := by decide +kernel
theorem dX4_lawNumber_36 : decode cX4_lawNumber 36 = .ok (.iload_n 1, 1) := by decide +kernel
theorem dX4_lawNumber_37 : decode cX4_lawNumber 37 = .ok (.aload_n 0, 1) := by decide +kernel
theorem dX4_lawNumber_38 : decode cX4_lawNumber 38 = .ok (.getfield 88, 3) := by decide +kernel
theorem dX4_lawNumber_41 : decode cX4_lawNumber 41 = .ok (.iastore, 1) := by decide +kernel
theorem dX4_lawNumber_42 : decode cX4_lawNumber 42 = .ok (.iconst 1, 1) := by decide +kernel
theorem dX4_lawNumber_43 : decode cX4_lawNumber 43 = .ok (.ireturn, 1) := by decide +kernel
theorem dX4_head_0 : decode cX4_head 0 = .ok (.aload_n 0, 1) := by decide +kernel
theorem dX4_head_1 : decode cX4_head 1 = .ok (.bipush 107, 2) := by decide +kernel
theorem dX4_head_3 : decode cX4_head 3 = .ok (.invokevirtual 53, 3) := by decide +kernel
theorem dX4_head_6 : decode cX4_head 6 = .ok (.ifCond .eq 37, 3) := by decide +kernel
theorem dX4_head_9 : decode cX4_head 9 = .ok (.aload_n 0, 1) := by decide +kernel
theorem dX4_head_10 : decode cX4_head 10 = .ok (.iconst 0, 1) := by decide +kernel
theorem dX4_head_11 : decode cX4_head 11 = .ok (.bipush 44, 2) := by decide +kernel
theorem dX4_head_13 : decode cX4_head 13 = .ok (.invokevirtual 57, 3) := by decide +kernel
theorem dX4_head_16 : decode cX4_head 16 = .ok (.ifCond .eq 27, 3) := by decide +kernel
theorem dX4_head_19 : decode cX4_head 19 = .ok (.aload_n 0, 1) := by decide +kernel
theorem dX4_head_20 : decode cX4_head 20 = .ok (.iconst 1, 1) := by decide +kernel
theorem dX4_head_21 : decode cX4_head 21 = .ok (.bipush 44, 2) := by decide +kernel
theorem dX4_head_23 : decode cX4_head 23 = .ok (.invokevirtual 57, 3) := by decide +kernel
theorem dX4_head_26 : decode cX4_head 26 = .ok (.ifCond .eq 17, 3) := by decide +kernel
theorem dX4_head_29 : decode cX4_head 29 = .ok (.aload_n 0, 1) := by decide +kernel
theorem dX4_head_30 : decode cX4_head 30 = .ok (.iconst 2, 1) := by decide +kernel
theorem dX4_head_31 : decode cX4_head 31 = .ok (.bipush 59, 2) := by decide +kernel
theorem dX4_head_33 : decode cX4_head 33 = .ok (.invokevirtual 57, 3) := by decide +kernel
theorem dX4_head_36 : decode cX4_head 36 = .ok (.ifCond .eq 7, 3) := by decide +kernel
theorem dX4_head_39 : decode cX4_head 39 = .ok (.iconst 1, 1) := by decide +kernel
theorem dX4_head_40 : decode cX4_head 40 = .ok (.goto 4, 3) := by decide +kernel
theorem dX4_head_43 : decode cX4_head 43 = .ok (.iconst 0, 1) := by decide +kernel
theorem dX4_head_44 : decode cX4_head 44 = .ok (.ireturn, 1) := by decide +kernel
theorem dX4_kindOf_0 : decode cX4_kindOf 0 = .ok (.iload_n 0, 1) := by decide +kernel
theorem dX4_kindOf_1 : decode cX4_kindOf 1 = .ok (.lookupswitch 51 #[(98, 43), (100, 49), (102, 45), (110, 47)], 43) := by decide +kernel
theorem dX4_kindOf_44 : decode cX4_kindOf 44 = .ok (.iconst 0, 1) := by decide +kernel
theorem dX4_kindOf_45 : decode cX4_kindOf 45 = .ok (.ireturn, 1) := by decide +kernel
theorem dX4_kindOf_46 : decode cX4_kindOf 46 = .ok (.iconst 1, 1) := by decide +kernel
theorem dX4_kindOf_47 : decode cX4_kindOf 47 = .ok (.ireturn, 1) := by decide +kernel
theorem dX4_kindOf_48 : decode cX4_kindOf 48 = .ok (.iconst 2, 1) := by decide +kernel
theorem dX4_kindOf_49 : decode cX4_kindOf 49 = .ok (.ireturn, 1) := by decide +kernel
theorem dX4_kindOf_50 : decode cX4_kindOf 50 = .ok (.iconst 3, 1) := by decide +kernel
theorem dX4_kindOf_51 : decode cX4_kindOf 51 = .ok (.ireturn, 1) := by decide +kernel
theorem dX4_kindOf_52 : decode cX4_kindOf 52 = .ok (.ldc 69, 2) := by decide +kernel
theorem dX4_kindOf_54 : decode cX4_kindOf 54 = .ok (.ireturn, 1) := by decide +kernel
theorem dX1_leastN_0 : decode cX1_leastN 0 = .ok (.iload_n 0, 1) := by decide +kernel
theorem dX1_leastN_1 : decode cX1_leastN 1 = .ok (.ifCond .eq 8, 3) := by decide +kernel
theorem dX1_leastN_4 : decode cX1_leastN 4 = .ok (.iload_n 0, 1) := by decide +kernel
theorem dX1_leastN_5 : decode cX1_leastN 5 = .ok (.iconst 1, 1) := by decide +kernel
theorem dX1_leastN_6 : decode cX1_leastN 6 = .ok (.if_icmp .ne 7, 3) := by decide +kernel
theorem dX1_leastN_9 : decode cX1_leastN 9 = .ok (.iconst 0, 1) := by decide +kernel
theorem dX1_leastN_10 : decode cX1_leastN 10 = .ok (.goto 4, 3) := by decide +kernel
theorem dX1_leastN_13 : decode cX1_leastN 13 = .ok (.iconst 1, 1) := by decide +kernel
theorem dX1_leastN_14 : decode cX1_leastN 14 = .ok (.ireturn, 1) := by decide +kernel
theorem dX1_greatestN_0 : decode cX1_greatestN 0 = .ok (.iload_n 0, 1) := by decide +kernel
theorem dX1_greatestN_1 : decode cX1_greatestN 1 = .ok (.ifCond .eq 8, 3) := by decide +kernel
theorem dX1_greatestN_4 : decode cX1_greatestN 4 = .ok (.iload_n 0, 1) := by decide +kernel
theorem dX1_greatestN_5 : decode cX1_greatestN 5 = .ok (.iconst 1, 1) := by decide +kernel
theorem dX1_greatestN_6 : decode cX1_greatestN 6 = .ok (.if_icmp .ne 8, 3) := by decide +kernel
theorem dX1_greatestN_9 : decode cX1_greatestN 9 = .ok (.bipush 99, 2) := by decide +kernel
theorem dX1_greatestN_11 : decode cX1_greatestN 11 = .ok (.goto 6, 3) := by decide +kernel
theorem dX1_greatestN_14 : decode cX1_greatestN 14 = .ok (.sipush 365, 3) := by decide +kernel
theorem dX1_greatestN_17 : decode cX1_greatestN 17 = .ok (.ireturn, 1) := by decide +kernel
theorem dX1_tellFeast_0 : decode cX1_tellFeast 0 = .ok (.aload_n 0, 1) := by decide +kernel
theorem dX1_tellFeast_1 : decode cX1_tellFeast 1 = .ok (.getfield 48, 3) := by decide +kernel
theorem dX1_tellFeast_4 : decode cX1_tellFeast 4 = .ok (.bipush 12, 2) := by decide +kernel
theorem dX1_tellFeast_6 : decode cX1_tellFeast 6 = .ok (.if_icmp .lt 4, 3) := by decide +kernel
theorem dX1_tellFeast_9 : decode cX1_tellFeast 9 = .ok (.return_, 1) := by decide +kernel
theorem dX1_tellFeast_10 : decode cX1_tellFeast 10 = .ok (.aload_n 0, 1) := by decide +kernel
theorem dX1_tellFeast_11 : decode cX1_tellFeast 11 = .ok (.getfield 48, 3) := by decide +kernel
theorem dX1_tellFeast_14 : decode cX1_tellFeast 14 = .ok (.iconst 4, 1) := by decide +kernel
theorem dX1_tellFeast_15 : decode cX1_tellFeast 15 = .ok (.imul, 1) := by decide +kernel
theorem dX1_tellFeast_16 : decode cX1_tellFeast 16 = .ok (.istore 5, 2) := by decide +kernel
theorem dX1_tellFeast_18 : decode cX1_tellFeast 18 = .ok (.aload_n 0, 1) := by decide +kernel
theorem dX1_tellFeast_19 : decode cX1_tellFeast 19 = .ok (.getfield 15, 3) := by decide +kernel
theorem dX1_tellFeast_22 : decode cX1_tellFeast 22 = .ok (.iload 5, 2) := by decide +kernel
theorem dX1_tellFeast_24 : decode cX1_tellFeast 24 = .ok (.iconst 0, 1) := by decide +kernel
theorem dX1_tellFeast_25 : decode cX1_tellFeast 25 = .ok (.iadd, 1) := by decide +kernel
theorem dX1_tellFeast_26 : decode cX1_tellFeast 26 = .ok (.iload_n 1, 1) := by decide +kernel
theorem dX1_tellFeast_27 : decode cX1_tellFeast 27 = .ok (.iastore, 1) := by decide +kernel
theorem dX1_tellFeast_28 : decode cX1_tellFeast 28 = .ok (.aload_n 0, 1) := by decide +kernel
theorem dX1_tellFeast_29 : decode cX1_tellFeast 29 = .ok (.getfield 15, 3) := by decide +kernel
theorem dX1_tellFeast_32 : decode cX1_tellFeast 32 = .ok (.iload 5, 2) := by decide +kernel
theorem dX1_tellFeast_34 : decode cX1_tellFeast 34 = .ok (.iconst 1, 1) := by decide +kernel
theorem dX1_tellFeast_35 : decode cX1_tellFeast 35 = .ok (.iadd, 1) := by decide +kernel
theorem dX1_tellFeast_36 : decode cX1_tellFeast 36 = .ok (.iload_n 2, 1) := by decide +kernel
theorem dX1_tellFeast_37 : decode cX1_tellFeast 37 = .ok (.iastore, 1) := by decide +kernel
theorem dX1_tellFeast_38 : decode cX1_tellFeast 38 = .ok (.aload_n 0, 1) := by decide +kernel
theorem dX1_tellFeast_39 : decode cX1_tellFeast 39 = .ok (.getfield 15, 3) := by decide +kernel
theorem dX1_tellFeast_42 : decode cX1_tellFeast 42 = .ok (.iload 5, 2) := by decide +kernel
theorem dX1_tellFeast_44 : decode cX1_tellFeast 44 = .ok (.iconst 2, 1) := by decide +kernel
theorem dX1_tellFeast_45 : decode cX1_tellFeast 45 = .ok (.iadd, 1) := by decide +kernel
theorem dX1_tellFeast_46 : decode cX1_tellFeast 46 = .ok (.iload_n 3, 1) := by decide +kernel
theorem dX1_tellFeast_47 : decode cX1_tellFeast 47 = .ok (.iastore, 1) := by decide +kernel
theorem dX1_tellFeast_48 : decode cX1_tellFeast 48 = .ok (.aload_n 0, 1) := by decide +kernel
theorem dX1_tellFeast_49 : decode cX1_tellFeast 49 = .ok (.getfield 15, 3) := by decide +kernel
theorem dX1_tellFeast_52 : decode cX1_tellFeast 52 = .ok (.iload 5, 2) := by decide +kernel
theorem dX1_tellFeast_54 : decode cX1_tellFeast 54 = .ok (.iconst 3, 1) := by decide +kernel
theorem dX1_tellFeast_55 : decode cX1_tellFeast 55 = .ok (.iadd, 1) := by decide +kernel
theorem dX1_tellFeast_56 : decode cX1_tellFeast 56 = .ok (.iload 4, 2) := by decide +kernel
theorem dX1_tellFeast_58 : decode cX1_tellFeast 58 = .ok (.iastore, 1) := by decide +kernel
theorem dX1_tellFeast_59 : decode cX1_tellFeast 59 = .ok (.aload_n 0, 1) := by decide +kernel
theorem dX1_tellFeast_60 : decode cX1_tellFeast 60 = .ok (.dup, 1) := by decide +kernel
theorem dX1_tellFeast_61 : decode cX1_tellFeast 61 = .ok (.getfield 48, 3) := by decide +kernel
theorem dX1_tellFeast_64 : decode cX1_tellFeast 64 = .ok (.iconst 1, 1) := by decide +kernel
theorem dX1_tellFeast_65 : decode cX1_tellFeast 65 = .ok (.iadd, 1) := by decide +kernel
theorem dX1_tellFeast_66 : decode cX1_tellFeast 66 = .ok (.putfield 48, 3) := by decide +kernel
theorem dX1_tellFeast_69 : decode cX1_tellFeast 69 = .ok (.return_, 1) := by decide +kernel
theorem dX4_oneFeast_0 : decode cX4_oneFeast 0 = .ok (.aload_n 0, 1) := by decide +kernel
theorem dX4_oneFeast_1 : decode cX4_oneFeast 1 = .ok (.dup, 1) := by decide +kernel
theorem dX4_oneFeast_2 : decode cX4_oneFeast 2 = .ok (.getfield 19, 3) := by decide +kernel
theorem dX4_oneFeast_5 : decode cX4_oneFeast 5 = .ok (.iconst 1, 1) := by decide +kernel
theorem dX4_oneFeast_6 : decode cX4_oneFeast 6 = .ok (.iadd, 1) := by decide +kernel
theorem dX4_oneFeast_7 : decode cX4_oneFeast 7 = .ok (.putfield 19, 3) := by decide +kernel
theorem dX4_oneFeast_10 : decode cX4_oneFeast 10 = .ok (.aload_n 0, 1) := by decide +kernel
theorem dX4_oneFeast_11 : decode cX4_oneFeast 11 = .ok (.iload_n 1, 1) := by decide +kernel
theorem dX4_oneFeast_12 : decode cX4_oneFeast 12 = .ok (.invokestatic 78, 3) := by decide +kernel
theorem dX4_oneFeast_15 : decode cX4_oneFeast 15 = .ok (.iload_n 1, 1) := by decide +kernel
theorem dX4_oneFeast_16 : decode cX4_oneFeast 16 = .ok (.invokestatic 81, 3) := by decide +kernel
theorem dX4_oneFeast_19 : decode cX4_oneFeast 19 = .ok (.bipush 44, 2) := by decide +kernel
theorem dX4_oneFeast_21 : decode cX4_oneFeast 21 = .ok (.invokevirtual 84, 3) := by decide +kernel
theorem dX4_oneFeast_24 : decode cX4_oneFeast 24 = .ok (.ifCond .ne 5, 3) := by decide +kernel
theorem dX4_oneFeast_27 : decode cX4_oneFeast 27 = .ok (.iconst 0, 1) := by decide +kernel
theorem dX4_oneFeast_28 : decode cX4_oneFeast 28 = .ok (.ireturn, 1) := by decide +kernel
theorem dX4_oneFeast_29 : decode cX4_oneFeast 29 = .ok (.aload_n 0, 1) := by decide +kernel
theorem dX4_oneFeast_30 : decode cX4_oneFeast 30 = .ok (.getfield 88, 3) := by decide +kernel
theorem dX4_oneFeast_33 : decode cX4_oneFeast 33 = .ok (.istore_n 2, 1) := by decide +kernel
theorem dX4_oneFeast_34 : decode cX4_oneFeast 34 = .ok (.aload_n 0, 1) := by decide +kernel
theorem dX4_oneFeast_35 : decode cX4_oneFeast 35 = .ok (.iconst 1, 1) := by decide +kernel
theorem dX4_oneFeast_36 : decode cX4_oneFeast 36 = .ok (.iconst 5, 1) := by decide +kernel
theorem dX4_oneFeast_37 : decode cX4_oneFeast 37 = .ok (.bipush 44, 2) := by decide +kernel
theorem dX4_oneFeast_39 : decode cX4_oneFeast 39 = .ok (.invokevirtual 84, 3) := by decide +kernel
theorem dX4_oneFeast_42 : decode cX4_oneFeast 42 = .ok (.ifCond .ne 5, 3) := by decide +kernel
theorem dX4_oneFeast_45 : decode cX4_oneFeast 45 = .ok (.iconst 0, 1) := by decide +kernel
theorem dX4_oneFeast_46 : decode cX4_oneFeast 46 = .ok (.ireturn, 1) := by decide +kernel
theorem dX4_oneFeast_47 : decode cX4_oneFeast 47 = .ok (.aload_n 0, 1) := by decide +kernel
theorem dX4_oneFeast_48 : decode cX4_oneFeast 48 = .ok (.getfield 88, 3) := by decide +kernel
theorem dX4_oneFeast_51 : decode cX4_oneFeast 51 = .ok (.istore_n 3, 1) := by decide +kernel
theorem dX4_oneFeast_52 : decode cX4_oneFeast 52 = .ok (.aload_n 0, 1) := by decide +kernel
theorem dX4_oneFeast_53 : decode cX4_oneFeast 53 = .ok (.iconst 1, 1) := by decide +kernel
theorem dX4_oneFeast_54 : decode cX4_oneFeast 54 = .ok (.bipush 6, 2) := by decide +kernel
theorem dX4_oneFeast_56 : decode cX4_oneFeast 56 = .ok (.bipush 59, 2) := by decide +kernel
theorem dX4_oneFeast_58 : decode cX4_oneFeast 58 = .ok (.invokevirtual 84, 3) := by decide +kernel
theorem dX4_oneFeast_61 : decode cX4_oneFeast 61 = .ok (.ifCond .ne 5, 3) := by decide +kernel
theorem dX4_oneFeast_64 : decode cX4_oneFeast 64 = .ok (.iconst 0, 1) := by decide +kernel
theorem dX4_oneFeast_65 : decode cX4_oneFeast 65 = .ok (.ireturn, 1) := by decide +kernel
theorem dX4_oneFeast_66 : decode cX4_oneFeast 66 = .ok (.aload_n 0, 1) := by decide +kernel
theorem dX4_oneFeast_67 : decode cX4_oneFeast 67 = .ok (.getfield 15, 3) := by decide +kernel
theorem dX4_oneFeast_70 : decode cX4_oneFeast 70 = .ok (.iload_n 1, 1) := by decide +kernel
theorem dX4_oneFeast_71 : decode cX4_oneFeast 71 = .ok (.iload_n 2, 1) := by decide +kernel
theorem dX4_oneFeast_72 : decode cX4_oneFeast 72 = .ok (.iload_n 3, 1) := by decide +kernel
theorem dX4_oneFeast_73 : decode cX4_oneFeast 73 = .ok (.aload_n 0, 1) := by decide +kernel
theorem dX4_oneFeast_74 : decode cX4_oneFeast 74 = .ok (.getfield 88, 3) := by decide +kernel
theorem dX4_oneFeast_77 : decode cX4_oneFeast 77 = .ok (.invokevirtual 91, 3) := by decide +kernel
theorem dX4_oneFeast_80 : decode cX4_oneFeast 80 = .ok (.iconst 1, 1) := by decide +kernel
theorem dX4_oneFeast_81 : decode cX4_oneFeast 81 = .ok (.ireturn, 1) := by decide +kernel
theorem dX4_feasts_0 : decode cX4_feasts 0 = .ok (.iconst 0, 1) := by decide +kernel
theorem dX4_feasts_1 : decode cX4_feasts 1 = .ok (.istore_n 1, 1) := by decide +kernel
theorem dX4_feasts_2 : decode cX4_feasts 2 = .ok (.iload_n 1, 1) := by decide +kernel
theorem dX4_feasts_3 : decode cX4_feasts 3 = .ok (.bipush 12, 2) := by decide +kernel
theorem dX4_feasts_5 : decode cX4_feasts 5 = .ok (.if_icmp .gt 60, 3) := by decide +kernel
theorem dX4_feasts_8 : decode cX4_feasts 8 = .ok (.aload_n 0, 1) := by decide +kernel
theorem dX4_feasts_9 : decode cX4_feasts 9 = .ok (.getfield 9, 3) := by decide +kernel
theorem dX4_feasts_12 : decode cX4_feasts 12 = .ok (.aload_n 0, 1) := by decide +kernel
theorem dX4_feasts_13 : decode cX4_feasts 13 = .ok (.getfield 19, 3) := by decide +kernel
theorem dX4_feasts_16 : decode cX4_feasts 16 = .ok (.invokevirtual 61, 3) := by decide +kernel
theorem dX4_feasts_19 : decode cX4_feasts 19 = .ok (.invokestatic 66, 3) := by decide +kernel
theorem dX4_feasts_22 : decode cX4_feasts 22 = .ok (.istore_n 2, 1) := by decide +kernel
theorem dX4_feasts_23 : decode cX4_feasts 23 = .ok (.iload_n 2, 1) := by decide +kernel
theorem dX4_feasts_24 : decode cX4_feasts 24 = .ok (.ldc 69, 2) := by decide +kernel
theorem dX4_feasts_26 : decode cX4_feasts 26 = .ok (.if_icmp .ne 5, 3) := by decide +kernel
theorem dX4_feasts_29 : decode cX4_feasts 29 = .ok (.iconst 1, 1) := by decide +kernel
theorem dX4_feasts_30 : decode cX4_feasts 30 = .ok (.ireturn, 1) := by decide +kernel
theorem dX4_feasts_31 : decode cX4_feasts 31 = .ok (.aload_n 0, 1) := by decide +kernel
theorem dX4_feasts_32 : decode cX4_feasts 32 = .ok (.getfield 15, 3) := by decide +kernel
theorem dX4_feasts_35 : decode cX4_feasts 35 = .ok (.getfield 70, 3) := by decide +kernel
theorem dX4_feasts_38 : decode cX4_feasts 38 = .ok (.bipush 12, 2) := by decide +kernel
theorem dX4_feasts_40 : decode cX4_feasts 40 = .ok (.if_icmp .lt 9, 3) := by decide +kernel
theorem dX4_feasts_43 : decode cX4_feasts 43 = .ok (.aload_n 0, 1) := by decide +kernel
theorem dX4_feasts_44 : decode cX4_feasts 44 = .ok (.iconst 3, 1) := by decide +kernel
theorem dX4_feasts_45 : decode cX4_feasts 45 = .ok (.invokevirtual 72, 3) := by decide +kernel
theorem dX4_feasts_48 : decode cX4_feasts 48 = .ok (.ireturn, 1) := by decide +kernel
theorem dX4_feasts_49 : decode cX4_feasts 49 = .ok (.aload_n 0, 1) := by decide +kernel
theorem dX4_feasts_50 : decode cX4_feasts 50 = .ok (.iload_n 2, 1) := by decide +kernel
theorem dX4_feasts_51 : decode cX4_feasts 51 = .ok (.invokevirtual 75, 3) := by decide +kernel
theorem dX4_feasts_54 : decode cX4_feasts 54 = .ok (.ifCond .ne 5, 3) := by decide +kernel
theorem dX4_feasts_57 : decode cX4_feasts 57 = .ok (.iconst 0, 1) := by decide +kernel
theorem dX4_feasts_58 : decode cX4_feasts 58 = .ok (.ireturn, 1) := by decide +kernel
theorem dX4_feasts_59 : decode cX4_feasts 59 = .ok (.iinc 1 1, 3) := by decide +kernel
theorem dX4_feasts_62 : decode cX4_feasts 62 = .ok (.goto (-60), 3) := by decide +kernel
theorem dX4_feasts_65 : decode cX4_feasts 65 = .ok (.iconst 1, 1) := by decide +kernel
theorem dX4_feasts_66 : decode cX4_feasts 66 = .ok (.ireturn, 1) := by decide +kernel
theorem dX1_tellSeason_0 : decode cX1_tellSeason 0 = .ok (.aload_n 0, 1) := by decide +kernel
theorem dX1_tellSeason_1 : decode cX1_tellSeason 1 = .ok (.getfield 52, 3) := by decide +kernel
theorem dX1_tellSeason_4 : decode cX1_tellSeason 4 = .ok (.iconst 4, 1) := by decide +kernel
theorem dX1_tellSeason_5 : decode cX1_tellSeason 5 = .ok (.if_icmp .lt 4, 3) := by decide +kernel
theorem dX1_tellSeason_8 : decode cX1_tellSeason 8 = .ok (.return_, 1) := by decide +kernel
theorem dX1_tellSeason_9 : decode cX1_tellSeason 9 = .ok (.aload_n 0, 1) := by decide +kernel
theorem dX1_tellSeason_10 : decode cX1_tellSeason 10 = .ok (.getfield 18, 3) := by decide +kernel
theorem dX1_tellSeason_13 : decode cX1_tellSeason 13 = .ok (.aload_n 0, 1) := by decide +kernel
theorem dX1_tellSeason_14 : decode cX1_tellSeason 14 = .ok (.getfield 52, 3) := by decide +kernel
theorem dX1_tellSeason_17 : decode cX1_tellSeason 17 = .ok (.iload_n 1, 1) := by decide +kernel
theorem dX1_tellSeason_18 : decode cX1_tellSeason 18 = .ok (.iastore, 1) := by decide +kernel
theorem dX1_tellSeason_19 : decode cX1_tellSeason 19 = .ok (.aload_n 0, 1) := by decide +kernel
theorem dX1_tellSeason_20 : decode cX1_tellSeason 20 = .ok (.getfield 21, 3) := by decide +kernel
theorem dX1_tellSeason_23 : decode cX1_tellSeason 23 = .ok (.aload_n 0, 1) := by decide +kernel
theorem dX1_tellSeason_24 : decode cX1_tellSeason 24 = .ok (.getfield 52, 3) := by decide +kernel
theorem dX1_tellSeason_27 : decode cX1_tellSeason 27 = .ok (.iload_n 2, 1) := by decide +kernel
theorem dX1_tellSeason_28 : decode cX1_tellSeason 28 = .ok (.iastore, 1) := by decide +kernel
theorem dX1_tellSeason_29 : decode cX1_tellSeason 29 = .ok (.aload_n 0, 1) := by decide +kernel
theorem dX1_tellSeason_30 : decode cX1_tellSeason 30 = .ok (.getfield 24, 3) := by decide +kernel
theorem dX1_tellSeason_33 : decode cX1_tellSeason 33 = .ok (.aload_n 0, 1) := by decide +kernel
theorem dX1_tellSeason_34 : decode cX1_tellSeason 34 = .ok (.getfield 52, 3) := by decide +kernel
theorem dX1_tellSeason_37 : decode cX1_tellSeason 37 = .ok (.iload_n 3, 1) := by decide +kernel
theorem dX1_tellSeason_38 : decode cX1_tellSeason 38 = .ok (.iastore, 1) := by decide +kernel
theorem dX1_tellSeason_39 : decode cX1_tellSeason 39 = .ok (.aload_n 0, 1) := by decide +kernel
theorem dX1_tellSeason_40 : decode cX1_tellSeason 40 = .ok (.dup, 1) := by decide +kernel
theorem dX1_tellSeason_41 : decode cX1_tellSeason 41 = .ok (.getfield 52, 3) := by decide +kernel
theorem dX1_tellSeason_44 : decode cX1_tellSeason 44 = .ok (.iconst 1, 1) := by decide +kernel
theorem dX1_tellSeason_45 : decode cX1_tellSeason 45 = .ok (.iadd, 1) := by decide +kernel
theorem dX1_tellSeason_46 : decode cX1_tellSeason 46 = .ok (.putfield 52, 3) := by decide +kernel
theorem dX1_tellSeason_49 : decode cX1_tellSeason 49 = .ok (.return_, 1) := by decide +kernel
theorem dX4_oneSeason_0 : decode cX4_oneSeason 0 = .ok (.aload_n 0, 1) := by decide +kernel
theorem dX4_oneSeason_1 : decode cX4_oneSeason 1 = .ok (.dup, 1) := by decide +kernel
theorem dX4_oneSeason_2 : decode cX4_oneSeason 2 = .ok (.getfield 19, 3) := by decide +kernel
theorem dX4_oneSeason_5 : decode cX4_oneSeason 5 = .ok (.iconst 1, 1) := by decide +kernel
theorem dX4_oneSeason_6 : decode cX4_oneSeason 6 = .ok (.iadd, 1) := by decide +kernel
theorem dX4_oneSeason_7 : decode cX4_oneSeason 7 = .ok (.putfield 19, 3) := by decide +kernel
theorem dX4_oneSeason_10 : decode cX4_oneSeason 10 = .ok (.aload_n 0, 1) := by decide +kernel
theorem dX4_oneSeason_11 : decode cX4_oneSeason 11 = .ok (.iconst 0, 1) := by decide +kernel
theorem dX4_oneSeason_12 : decode cX4_oneSeason 12 = .ok (.aload_n 0, 1) := by decide +kernel
theorem dX4_oneSeason_13 : decode cX4_oneSeason 13 = .ok (.getfield 15, 3) := by decide +kernel
theorem dX4_oneSeason_16 : decode cX4_oneSeason 16 = .ok (.getfield 70, 3) := by decide +kernel
theorem dX4_oneSeason_19 : decode cX4_oneSeason 19 = .ok (.iconst 1, 1) := by decide +kernel
theorem dX4_oneSeason_20 : decode cX4_oneSeason 20 = .ok (.isub, 1) := by decide +kernel
theorem dX4_oneSeason_21 : decode cX4_oneSeason 21 = .ok (.bipush 44, 2) := by decide +kernel
theorem dX4_oneSeason_23 : decode cX4_oneSeason 23 = .ok (.invokevirtual 84, 3) := by decide +kernel
theorem dX4_oneSeason_26 : decode cX4_oneSeason 26 = .ok (.ifCond .ne 5, 3) := by decide +kernel
theorem dX4_oneSeason_29 : decode cX4_oneSeason 29 = .ok (.iconst 0, 1) := by decide +kernel
theorem dX4_oneSeason_30 : decode cX4_oneSeason 30 = .ok (.ireturn, 1) := by decide +kernel
theorem dX4_oneSeason_31 : decode cX4_oneSeason 31 = .ok (.aload_n 0, 1) := by decide +kernel
theorem dX4_oneSeason_32 : decode cX4_oneSeason 32 = .ok (.getfield 88, 3) := by decide +kernel
theorem dX4_oneSeason_35 : decode cX4_oneSeason 35 = .ok (.istore_n 1, 1) := by decide +kernel
theorem dX4_oneSeason_36 : decode cX4_oneSeason 36 = .ok (.aload_n 0, 1) := by decide +kernel
theorem dX4_oneSeason_37 : decode cX4_oneSeason 37 = .ok (.getfield 19, 3) := by decide +kernel
theorem dX4_oneSeason_40 : decode cX4_oneSeason 40 = .ok (.istore_n 2, 1) := by decide +kernel
theorem dX4_oneSeason_41 : decode cX4_oneSeason 41 = .ok (.aload_n 0, 1) := by decide +kernel
theorem dX4_oneSeason_42 : decode cX4_oneSeason 42 = .ok (.iconst 0, 1) := by decide +kernel
theorem dX4_oneSeason_43 : decode cX4_oneSeason 43 = .ok (.aload_n 0, 1) := by decide +kernel
theorem dX4_oneSeason_44 : decode cX4_oneSeason 44 = .ok (.getfield 15, 3) := by decide +kernel
theorem dX4_oneSeason_47 : decode cX4_oneSeason 47 = .ok (.getfield 70, 3) := by decide +kernel
theorem dX4_oneSeason_50 : decode cX4_oneSeason 50 = .ok (.iconst 1, 1) := by decide +kernel
theorem dX4_oneSeason_51 : decode cX4_oneSeason 51 = .ok (.isub, 1) := by decide +kernel
theorem dX4_oneSeason_52 : decode cX4_oneSeason 52 = .ok (.invokevirtual 100, 3) := by decide +kernel
theorem dX4_oneSeason_55 : decode cX4_oneSeason 55 = .ok (.ifCond .ne 5, 3) := by decide +kernel
theorem dX4_oneSeason_58 : decode cX4_oneSeason 58 = .ok (.iconst 0, 1) := by decide +kernel
theorem dX4_oneSeason_59 : decode cX4_oneSeason 59 = .ok (.ireturn, 1) := by decide +kernel
theorem dX4_oneSeason_60 : decode cX4_oneSeason 60 = .ok (.aload_n 0, 1) := by decide +kernel
theorem dX4_oneSeason_61 : decode cX4_oneSeason 61 = .ok (.getfield 88, 3) := by decide +kernel
theorem dX4_oneSeason_64 : decode cX4_oneSeason 64 = .ok (.istore_n 3, 1) := by decide +kernel
theorem dX4_oneSeason_65 : decode cX4_oneSeason 65 = .ok (.iload_n 3, 1) := by decide +kernel
theorem dX4_oneSeason_66 : decode cX4_oneSeason 66 = .ok (.iload_n 1, 1) := by decide +kernel
theorem dX4_oneSeason_67 : decode cX4_oneSeason 67 = .ok (.if_icmp .ne 14, 3) := by decide +kernel
theorem dX4_oneSeason_70 : decode cX4_oneSeason 70 = .ok (.aload_n 0, 1) := by decide +kernel
theorem dX4_oneSeason_71 : decode cX4_oneSeason 71 = .ok (.iload_n 2, 1) := by decide +kernel
theorem dX4_oneSeason_72 : decode cX4_oneSeason 72 = .ok (.putfield 19, 3) := by decide +kernel
theorem dX4_oneSeason_75 : decode cX4_oneSeason 75 = .ok (.aload_n 0, 1) := by decide +kernel
theorem dX4_oneSeason_76 : decode cX4_oneSeason 76 = .ok (.iconst 2, 1) := by decide +kernel
theorem dX4_oneSeason_77 : decode cX4_oneSeason 77 = .ok (.invokevirtual 72, 3) := by decide +kernel
theorem dX4_oneSeason_80 : decode cX4_oneSeason 80 = .ok (.ireturn, 1) := by decide +kernel
theorem dX4_oneSeason_81 : decode cX4_oneSeason 81 = .ok (.aload_n 0, 1) := by decide +kernel
theorem dX4_oneSeason_82 : decode cX4_oneSeason 82 = .ok (.bipush 44, 2) := by decide +kernel
theorem dX4_oneSeason_84 : decode cX4_oneSeason 84 = .ok (.invokevirtual 53, 3) := by decide +kernel
theorem dX4_oneSeason_87 : decode cX4_oneSeason 87 = .ok (.ifCond .eq 15, 3) := by decide +kernel
theorem dX4_oneSeason_90 : decode cX4_oneSeason 90 = .ok (.aload_n 0, 1) := by decide +kernel
theorem dX4_oneSeason_91 : decode cX4_oneSeason 91 = .ok (.iconst 1, 1) := by decide +kernel
theorem dX4_oneSeason_92 : decode cX4_oneSeason 92 = .ok (.bipush 6, 2) := by decide +kernel
theorem dX4_oneSeason_94 : decode cX4_oneSeason 94 = .ok (.bipush 59, 2) := by decide +kernel
theorem dX4_oneSeason_96 : decode cX4_oneSeason 96 = .ok (.invokevirtual 84, 3) := by decide +kernel
theorem dX4_oneSeason_99 : decode cX4_oneSeason 99 = .ok (.ifCond .ne 5, 3) := by decide +kernel
theorem dX4_oneSeason_102 : decode cX4_oneSeason 102 = .ok (.iconst 0, 1) := by decide +kernel
theorem dX4_oneSeason_103 : decode cX4_oneSeason 103 = .ok (.ireturn, 1) := by decide +kernel
theorem dX4_oneSeason_104 : decode cX4_oneSeason 104 = .ok (.aload_n 0, 1) := by decide +kernel
theorem dX4_oneSeason_105 : decode cX4_oneSeason 105 = .ok (.getfield 15, 3) := by decide +kernel
theorem dX4_oneSeason_108 : decode cX4_oneSeason 108 = .ok (.iload_n 1, 1) := by decide +kernel
theorem dX4_oneSeason_109 : decode cX4_oneSeason 109 = .ok (.iload_n 3, 1) := by decide +kernel
theorem dX4_oneSeason_110 : decode cX4_oneSeason 110 = .ok (.aload_n 0, 1) := by decide +kernel
theorem dX4_oneSeason_111 : decode cX4_oneSeason 111 = .ok (.getfield 88, 3) := by decide +kernel
theorem dX4_oneSeason_114 : decode cX4_oneSeason 114 = .ok (.invokevirtual 103, 3) := by decide +kernel
theorem dX4_oneSeason_117 : decode cX4_oneSeason 117 = .ok (.iconst 1, 1) := by decide +kernel
theorem dX4_oneSeason_118 : decode cX4_oneSeason 118 = .ok (.ireturn, 1) := by decide +kernel
theorem dX4_seasons_0 : decode cX4_seasons 0 = .ok (.iconst 0, 1) := by decide +kernel
theorem dX4_seasons_1 : decode cX4_seasons 1 = .ok (.istore_n 1, 1) := by decide +kernel
theorem dX4_seasons_2 : decode cX4_seasons 2 = .ok (.iload_n 1, 1) := by decide +kernel
theorem dX4_seasons_3 : decode cX4_seasons 3 = .ok (.iconst 4, 1) := by decide +kernel
theorem dX4_seasons_4 : decode cX4_seasons 4 = .ok (.if_icmp .gt 53, 3) := by decide +kernel
theorem dX4_seasons_7 : decode cX4_seasons 7 = .ok (.aload_n 0, 1) := by decide +kernel
theorem dX4_seasons_8 : decode cX4_seasons 8 = .ok (.getfield 9, 3) := by decide +kernel
theorem dX4_seasons_11 : decode cX4_seasons 11 = .ok (.aload_n 0, 1) := by decide +kernel
theorem dX4_seasons_12 : decode cX4_seasons 12 = .ok (.getfield 19, 3) := by decide +kernel
theorem dX4_seasons_15 : decode cX4_seasons 15 = .ok (.invokevirtual 61, 3) := by decide +kernel
theorem dX4_seasons_18 : decode cX4_seasons 18 = .ok (.bipush 122, 2) := by decide +kernel
theorem dX4_seasons_20 : decode cX4_seasons 20 = .ok (.if_icmp .eq 5, 3) := by decide +kernel
theorem dX4_seasons_23 : decode cX4_seasons 23 = .ok (.iconst 1, 1) := by decide +kernel
theorem dX4_seasons_24 : decode cX4_seasons 24 = .ok (.ireturn, 1) := by decide +kernel
theorem dX4_seasons_25 : decode cX4_seasons 25 = .ok (.aload_n 0, 1) := by decide +kernel
theorem dX4_seasons_26 : decode cX4_seasons 26 = .ok (.getfield 15, 3) := by decide +kernel
theorem dX4_seasons_29 : decode cX4_seasons 29 = .ok (.getfield 95, 3) := by decide +kernel
theorem dX4_seasons_32 : decode cX4_seasons 32 = .ok (.iconst 4, 1) := by decide +kernel
theorem dX4_seasons_33 : decode cX4_seasons 33 = .ok (.if_icmp .lt 9, 3) := by decide +kernel
theorem dX4_seasons_36 : decode cX4_seasons 36 = .ok (.aload_n 0, 1) := by decide +kernel
theorem dX4_seasons_37 : decode cX4_seasons 37 = .ok (.iconst 3, 1) := by decide +kernel
theorem dX4_seasons_38 : decode cX4_seasons 38 = .ok (.invokevirtual 72, 3) := by decide +kernel
theorem dX4_seasons_41 : decode cX4_seasons 41 = .ok (.ireturn, 1) := by decide +kernel
theorem dX4_seasons_42 : decode cX4_seasons 42 = .ok (.aload_n 0, 1) := by decide +kernel
theorem dX4_seasons_43 : decode cX4_seasons 43 = .ok (.invokevirtual 97, 3) := by decide +kernel
theorem dX4_seasons_46 : decode cX4_seasons 46 = .ok (.ifCond .ne 5, 3) := by decide +kernel
theorem dX4_seasons_49 : decode cX4_seasons 49 = .ok (.iconst 0, 1) := by decide +kernel
theorem dX4_seasons_50 : decode cX4_seasons 50 = .ok (.ireturn, 1) := by decide +kernel
theorem dX4_seasons_51 : decode cX4_seasons 51 = .ok (.iinc 1 1, 3) := by decide +kernel
theorem dX4_seasons_54 : decode cX4_seasons 54 = .ok (.goto (-52), 3) := by decide +kernel
theorem dX4_seasons_57 : decode cX4_seasons 57 = .ok (.iconst 1, 1) := by decide +kernel
theorem dX4_seasons_58 : decode cX4_seasons 58 = .ok (.ireturn, 1) := by decide +kernel
theorem dX4_psalter_0 : decode cX4_psalter 0 = .ok (.aload_n 0, 1) := by decide +kernel
theorem dX4_psalter_1 : decode cX4_psalter 1 = .ok (.bipush 112, 2) := by decide +kernel
theorem dX4_psalter_3 : decode cX4_psalter 3 = .ok (.invokevirtual 53, 3) := by decide +kernel
theorem dX4_psalter_6 : decode cX4_psalter 6 = .ok (.ifCond .eq 27, 3) := by decide +kernel
theorem dX4_psalter_9 : decode cX4_psalter 9 = .ok (.aload_n 0, 1) := by decide +kernel
theorem dX4_psalter_10 : decode cX4_psalter 10 = .ok (.iconst 3, 1) := by decide +kernel
theorem dX4_psalter_11 : decode cX4_psalter 11 = .ok (.bipush 44, 2) := by decide +kernel
theorem dX4_psalter_13 : decode cX4_psalter 13 = .ok (.invokevirtual 57, 3) := by decide +kernel
theorem dX4_psalter_16 : decode cX4_psalter 16 = .ok (.ifCond .eq 17, 3) := by decide +kernel
theorem dX4_psalter_19 : decode cX4_psalter 19 = .ok (.aload_n 0, 1) := by decide +kernel
theorem dX4_psalter_20 : decode cX4_psalter 20 = .ok (.iconst 4, 1) := by decide +kernel
theorem dX4_psalter_21 : decode cX4_psalter 21 = .ok (.bipush 59, 2) := by decide +kernel
theorem dX4_psalter_23 : decode cX4_psalter 23 = .ok (.invokevirtual 57, 3) := by decide +kernel
theorem dX4_psalter_26 : decode cX4_psalter 26 = .ok (.ifCond .eq 7, 3) := by decide +kernel
theorem dX4_psalter_29 : decode cX4_psalter 29 = .ok (.iconst 1, 1) := by decide +kernel
theorem dX4_psalter_30 : decode cX4_psalter 30 = .ok (.goto 4, 3) := by decide +kernel
theorem dX4_psalter_33 : decode cX4_psalter 33 = .ok (.iconst 0, 1) := by decide +kernel
theorem dX4_psalter_34 : decode cX4_psalter 34 = .ok (.ireturn, 1) := by decide +kernel
theorem dX4_choirs_0 : decode cX4_choirs 0 = .ok (.aload_n 0, 1) := by decide +kernel
theorem dX4_choirs_1 : decode cX4_choirs 1 = .ok (.bipush 99, 2) := by decide +kernel
theorem dX4_choirs_3 : decode cX4_choirs 3 = .ok (.invokevirtual 53, 3) := by decide +kernel
theorem dX4_choirs_6 : decode cX4_choirs 6 = .ok (.ifCond .eq 14, 3) := by decide +kernel
theorem dX4_choirs_9 : decode cX4_choirs 9 = .ok (.aload_n 0, 1) := by decide +kernel
theorem dX4_choirs_10 : decode cX4_choirs 10 = .ok (.iconst 2, 1) := by decide +kernel
theorem dX4_choirs_11 : decode cX4_choirs 11 = .ok (.iconst 5, 1) := by decide +kernel
theorem dX4_choirs_12 : decode cX4_choirs 12 = .ok (.bipush 44, 2) := by decide +kernel
theorem dX4_choirs_14 : decode cX4_choirs 14 = .ok (.invokevirtual 84, 3) := by decide +kernel
theorem dX4_choirs_17 : decode cX4_choirs 17 = .ok (.ifCond .ne 5, 3) := by decide +kernel
theorem dX4_choirs_20 : decode cX4_choirs 20 = .ok (.iconst 0, 1) := by decide +kernel
theorem dX4_choirs_21 : decode cX4_choirs 21 = .ok (.ireturn, 1) := by decide +kernel
theorem dX4_choirs_22 : decode cX4_choirs 22 = .ok (.aload_n 0, 1) := by decide +kernel
theorem dX4_choirs_23 : decode cX4_choirs 23 = .ok (.getfield 15, 3) := by decide +kernel
theorem dX4_choirs_26 : decode cX4_choirs 26 = .ok (.aload_n 0, 1) := by decide +kernel
theorem dX4_choirs_27 : decode cX4_choirs 27 = .ok (.getfield 88, 3) := by decide +kernel
theorem dX4_choirs_30 : decode cX4_choirs 30 = .ok (.putfield 107, 3) := by decide +kernel
theorem dX4_choirs_33 : decode cX4_choirs 33 = .ok (.aload_n 0, 1) := by decide +kernel
theorem dX4_choirs_34 : decode cX4_choirs 34 = .ok (.iconst 5, 1) := by decide +kernel
theorem dX4_choirs_35 : decode cX4_choirs 35 = .ok (.bipush 59, 2) := by decide +kernel
theorem dX4_choirs_37 : decode cX4_choirs 37 = .ok (.invokevirtual 57, 3) := by decide +kernel
theorem dX4_choirs_40 : decode cX4_choirs 40 = .ok (.ireturn, 1) := by decide +kernel
theorem dX4_end_0 : decode cX4_end 0 = .ok (.aload_n 0, 1) := by decide +kernel
theorem dX4_end_1 : decode cX4_end 1 = .ok (.getfield 19, 3) := by decide +kernel
theorem dX4_end_4 : decode cX4_end 4 = .ok (.aload_n 0, 1) := by decide +kernel
theorem dX4_end_5 : decode cX4_end 5 = .ok (.getfield 9, 3) := by decide +kernel
theorem dX4_end_8 : decode cX4_end 8 = .ok (.getfield 109, 3) := by decide +kernel
theorem dX4_end_11 : decode cX4_end 11 = .ok (.if_icmp .ge 11, 3) := by decide +kernel
theorem dX4_end_14 : decode cX4_end 14 = .ok (.aload_n 0, 1) := by decide +kernel
theorem dX4_end_15 : decode cX4_end 15 = .ok (.iconst 1, 1) := by decide +kernel
theorem dX4_end_16 : decode cX4_end 16 = .ok (.invokevirtual 72, 3) := by decide +kernel
theorem dX4_end_19 : decode cX4_end 19 = .ok (.ifCond .eq 7, 3) := by decide +kernel
theorem dX4_end_22 : decode cX4_end 22 = .ok (.iconst 1, 1) := by decide +kernel
theorem dX4_end_23 : decode cX4_end 23 = .ok (.goto 4, 3) := by decide +kernel
theorem dX4_end_26 : decode cX4_end 26 = .ok (.iconst 0, 1) := by decide +kernel
theorem dX4_end_27 : decode cX4_end 27 = .ok (.ireturn, 1) := by decide +kernel
theorem dX4_readsAll_0 : decode cX4_readsAll 0 = .ok (.aload_n 0, 1) := by decide +kernel
theorem dX4_readsAll_1 : decode cX4_readsAll 1 = .ok (.iconst 0, 1) := by decide +kernel
theorem dX4_readsAll_2 : decode cX4_readsAll 2 = .ok (.putfield 19, 3) := by decide +kernel
theorem dX4_readsAll_5 : decode cX4_readsAll 5 = .ok (.aload_n 0, 1) := by decide +kernel
theorem dX4_readsAll_6 : decode cX4_readsAll 6 = .ok (.iconst 0, 1) := by decide +kernel
theorem dX4_readsAll_7 : decode cX4_readsAll 7 = .ok (.putfield 23, 3) := by decide +kernel
theorem dX4_readsAll_10 : decode cX4_readsAll 10 = .ok (.aload_n 0, 1) := by decide +kernel
theorem dX4_readsAll_11 : decode cX4_readsAll 11 = .ok (.iconst 0, 1) := by decide +kernel
theorem dX4_readsAll_12 : decode cX4_readsAll 12 = .ok (.putfield 26, 3) := by decide +kernel
theorem dX4_readsAll_15 : decode cX4_readsAll 15 = .ok (.aload_n 0, 1) := by decide +kernel
theorem dX4_readsAll_16 : decode cX4_readsAll 16 = .ok (.getfield 15, 3) := by decide +kernel
theorem dX4_readsAll_19 : decode cX4_readsAll 19 = .ok (.invokevirtual 29, 3) := by decide +kernel
theorem dX4_readsAll_22 : decode cX4_readsAll 22 = .ok (.aload_n 0, 1) := by decide +kernel
theorem dX4_readsAll_23 : decode cX4_readsAll 23 = .ok (.invokevirtual 34, 3) := by decide +kernel
theorem dX4_readsAll_26 : decode cX4_readsAll 26 = .ok (.ifCond .eq 42, 3) := by decide +kernel
theorem dX4_readsAll_29 : decode cX4_readsAll 29 = .ok (.aload_n 0, 1) := by decide +kernel
theorem dX4_readsAll_30 : decode cX4_readsAll 30 = .ok (.invokevirtual 38, 3) := by decide +kernel
theorem dX4_readsAll_33 : decode cX4_readsAll 33 = .ok (.ifCond .eq 35, 3) := by decide +kernel
theorem dX4_readsAll_36 : decode cX4_readsAll 36 = .ok (.aload_n 0, 1) := by decide +kernel
theorem dX4_readsAll_37 : decode cX4_readsAll 37 = .ok (.invokevirtual 41, 3) := by decide +kernel
theorem dX4_readsAll_40 : decode cX4_readsAll 40 = .ok (.ifCond .eq 28, 3) := by decide +kernel
theorem dX4_readsAll_43 : decode cX4_readsAll 43 = .ok (.aload_n 0, 1) := by decide +kernel
theorem dX4_readsAll_44 : decode cX4_readsAll 44 = .ok (.invokevirtual 44, 3) := by decide +kernel
theorem dX4_readsAll_47 : decode cX4_readsAll 47 = .ok (.ifCond .eq 21, 3) := by decide +kernel
theorem dX4_readsAll_50 : decode cX4_readsAll 50 = .ok (.aload_n 0, 1) := by decide +kernel
theorem dX4_readsAll_51 : decode cX4_readsAll 51 = .ok (.invokevirtual 47, 3) := by decide +kernel
theorem dX4_readsAll_54 : decode cX4_readsAll 54 = .ok (.ifCond .eq 14, 3) := by decide +kernel
theorem dX4_readsAll_57 : decode cX4_readsAll 57 = .ok (.aload_n 0, 1) := by decide +kernel
theorem dX4_readsAll_58 : decode cX4_readsAll 58 = .ok (.invokevirtual 50, 3) := by decide +kernel
theorem dX4_readsAll_61 : decode cX4_readsAll 61 = .ok (.ifCond .eq 7, 3) := by decide +kernel
theorem dX4_readsAll_64 : decode cX4_readsAll 64 = .ok (.iconst 1, 1) := by decide +kernel
theorem dX4_readsAll_65 : decode cX4_readsAll 65 = .ok (.goto 4, 3) := by decide +kernel
theorem dX4_readsAll_68 : decode cX4_readsAll 68 = .ok (.iconst 0, 1) := by decide +kernel
theorem dX4_readsAll_69 : decode cX4_readsAll 69 = .ok (.ireturn, 1) := by decide +kernel
theorem dX1_become_0 : decode cX1_become 0 = .ok (.aload_n 0, 1) := by decide +kernel
theorem dX1_become_1 : decode cX1_become 1 = .ok (.iconst 1, 1) := by decide +kernel
theorem dX1_become_2 : decode cX1_become 2 = .ok (.putfield 44, 3) := by decide +kernel
theorem dX1_become_5 : decode cX1_become 5 = .ok (.aload_n 0, 1) := by decide +kernel
theorem dX1_become_6 : decode cX1_become 6 = .ok (.aload_n 1, 1) := by decide +kernel
theorem dX1_become_7 : decode cX1_become 7 = .ok (.getfield 48, 3) := by decide +kernel
theorem dX1_become_10 : decode cX1_become 10 = .ok (.putfield 48, 3) := by decide +kernel
theorem dX1_become_13 : decode cX1_become 13 = .ok (.aload_n 0, 1) := by decide +kernel
theorem dX1_become_14 : decode cX1_become 14 = .ok (.aload_n 1, 1) := by decide +kernel
theorem dX1_become_15 : decode cX1_become 15 = .ok (.getfield 52, 3) := by decide +kernel
theorem dX1_become_18 : decode cX1_become 18 = .ok (.putfield 52, 3) := by decide +kernel
theorem dX1_become_21 : decode cX1_become 21 = .ok (.aload_n 0, 1) := by decide +kernel
theorem dX1_become_22 : decode cX1_become 22 = .ok (.aload_n 1, 1) := by decide +kernel
theorem dX1_become_23 : decode cX1_become 23 = .ok (.getfield 55, 3) := by decide +kernel
theorem dX1_become_26 : decode cX1_become 26 = .ok (.putfield 55, 3) := by decide +kernel
theorem dX1_become_29 : decode cX1_become 29 = .ok (.aload_n 1, 1) := by decide +kernel
theorem dX1_become_30 : decode cX1_become 30 = .ok (.getfield 9, 3) := by decide +kernel
theorem dX1_become_33 : decode cX1_become 33 = .ok (.iconst 0, 1) := by decide +kernel
theorem dX1_become_34 : decode cX1_become 34 = .ok (.aload_n 0, 1) := by decide +kernel
theorem dX1_become_35 : decode cX1_become 35 = .ok (.getfield 9, 3) := by decide +kernel
theorem dX1_become_38 : decode cX1_become 38 = .ok (.iconst 0, 1) := by decide +kernel
theorem dX1_become_39 : decode cX1_become 39 = .ok (.bipush 6, 2) := by decide +kernel
theorem dX1_become_41 : decode cX1_become 41 = .ok (.invokestatic 64, 3) := by decide +kernel
theorem dX1_become_44 : decode cX1_become 44 = .ok (.aload_n 1, 1) := by decide +kernel
theorem dX1_become_45 : decode cX1_become 45 = .ok (.getfield 15, 3) := by decide +kernel
theorem dX1_become_48 : decode cX1_become 48 = .ok (.iconst 0, 1) := by decide +kernel
theorem dX1_become_49 : decode cX1_become 49 = .ok (.aload_n 0, 1) := by decide +kernel
theorem dX1_become_50 : decode cX1_become 50 = .ok (.getfield 15, 3) := by decide +kernel
theorem dX1_become_53 : decode cX1_become 53 = .ok (.iconst 0, 1) := by decide +kernel
theorem dX1_become_54 : decode cX1_become 54 = .ok (.bipush 48, 2) := by decide +kernel
theorem dX1_become_56 : decode cX1_become 56 = .ok (.invokestatic 64, 3) := by decide +kernel
theorem dX1_become_59 : decode cX1_become 59 = .ok (.aload_n 1, 1) := by decide +kernel
theorem dX1_become_60 : decode cX1_become 60 = .ok (.getfield 18, 3) := by decide +kernel
theorem dX1_become_63 : decode cX1_become 63 = .ok (.iconst 0, 1) := by decide +kernel
theorem dX1_become_64 : decode cX1_become 64 = .ok (.aload_n 0, 1) := by decide +kernel
theorem dX1_become_65 : decode cX1_become 65 = .ok (.getfield 18, 3) := by decide +kernel
theorem dX1_become_68 : decode cX1_become 68 = .ok (.iconst 0, 1) := by decide +kernel
theorem dX1_become_69 : decode cX1_become 69 = .ok (.iconst 4, 1) := by decide +kernel
theorem dX1_become_70 : decode cX1_become 70 = .ok (.invokestatic 64, 3) := by decide +kernel
theorem dX1_become_73 : decode cX1_become 73 = .ok (.aload_n 1, 1) := by decide +kernel
theorem dX1_become_74 : decode cX1_become 74 = .ok (.getfield 21, 3) := by decide +kernel
theorem dX1_become_77 : decode cX1_become 77 = .ok (.iconst 0, 1) := by decide +kernel
theorem dX1_become_78 : decode cX1_become 78 = .ok (.aload_n 0, 1) := by decide +kernel
theorem dX1_become_79 : decode cX1_become 79 = .ok (.getfield 21, 3) := by decide +kernel
theorem dX1_become_82 : decode cX1_become 82 = .ok (.iconst 0, 1) := by decide +kernel
theorem dX1_become_83 : decode cX1_become 83 = .ok (.iconst 4, 1) := by decide +kernel
theorem dX1_become_84 : decode cX1_become 84 = .ok (.invokestatic 64, 3) := by decide +kernel
theorem dX1_become_87 : decode cX1_become 87 = .ok (.aload_n 1, 1) := by decide +kernel
theorem dX1_become_88 : decode cX1_become 88 = .ok (.getfield 24, 3) := by decide +kernel
theorem dX1_become_91 : decode cX1_become 91 = .ok (.iconst 0, 1) := by decide +kernel
theorem dX1_become_92 : decode cX1_become 92 = .ok (.aload_n 0, 1) := by decide +kernel
theorem dX1_become_93 : decode cX1_become 93 = .ok (.getfield 24, 3) := by decide +kernel
theorem dX1_become_96 : decode cX1_become 96 = .ok (.iconst 0, 1) := by decide +kernel
theorem dX1_become_97 : decode cX1_become 97 = .ok (.iconst 4, 1) := by decide +kernel
theorem dX1_become_98 : decode cX1_become 98 = .ok (.invokestatic 64, 3) := by decide +kernel
theorem dX1_become_101 : decode cX1_become 101 = .ok (.aload_n 1, 1) := by decide +kernel
theorem dX1_become_102 : decode cX1_become 102 = .ok (.getfield 27, 3) := by decide +kernel
theorem dX1_become_105 : decode cX1_become 105 = .ok (.iconst 0, 1) := by decide +kernel
theorem dX1_become_106 : decode cX1_become 106 = .ok (.aload_n 0, 1) := by decide +kernel
theorem dX1_become_107 : decode cX1_become 107 = .ok (.getfield 27, 3) := by decide +kernel
theorem dX1_become_110 : decode cX1_become 110 = .ok (.iconst 0, 1) := by decide +kernel
theorem dX1_become_111 : decode cX1_become 111 = .ok (.iconst 5, 1) := by decide +kernel
theorem dX1_become_112 : decode cX1_become 112 = .ok (.invokestatic 64, 3) := by decide +kernel
theorem dX1_become_115 : decode cX1_become 115 = .ok (.aload_n 1, 1) := by decide +kernel
theorem dX1_become_116 : decode cX1_become 116 = .ok (.getfield 30, 3) := by decide +kernel
theorem dX1_become_119 : decode cX1_become 119 = .ok (.iconst 0, 1) := by decide +kernel
theorem dX1_become_120 : decode cX1_become 120 = .ok (.aload_n 0, 1) := by decide +kernel
theorem dX1_become_121 : decode cX1_become 121 = .ok (.getfield 30, 3) := by decide +kernel
theorem dX1_become_124 : decode cX1_become 124 = .ok (.iconst 0, 1) := by decide +kernel
theorem dX1_become_125 : decode cX1_become 125 = .ok (.iconst 5, 1) := by decide +kernel
theorem dX1_become_126 : decode cX1_become 126 = .ok (.invokestatic 64, 3) := by decide +kernel
theorem dX1_become_129 : decode cX1_become 129 = .ok (.return_, 1) := by decide +kernel
theorem dX7_book_0 : decode cX7_book 0 = .ok (.aload_n 0, 1) := by decide +kernel
theorem dX7_book_1 : decode cX7_book 1 = .ok (.getfield 32, 3) := by decide +kernel
theorem dX7_book_4 : decode cX7_book 4 = .ok (.invokevirtual 81, 3) := by decide +kernel
theorem dX7_book_7 : decode cX7_book 7 = .ok (.istore_n 1, 1) := by decide +kernel
theorem dX7_book_8 : decode cX7_book 8 = .ok (.aload_n 0, 1) := by decide +kernel
theorem dX7_book_9 : decode cX7_book 9 = .ok (.getfield 23, 3) := by decide +kernel
theorem dX7_book_12 : decode cX7_book 12 = .ok (.iconst 0, 1) := by decide +kernel
theorem dX7_book_13 : decode cX7_book 13 = .ok (.putfield 77, 3) := by decide +kernel
theorem dX7_book_16 : decode cX7_book 16 = .ok (.iload_n 1, 1) := by decide +kernel
theorem dX7_book_17 : decode cX7_book 17 = .ok (.ifCond .ne 25, 3) := by decide +kernel
theorem dX7_book_20 : decode cX7_book 20 = .ok (.aload_n 0, 1) := by decide +kernel
theorem dX7_book_21 : decode cX7_book 21 = .ok (.aload_n 0, 1) := by decide +kernel
theorem dX7_book_22 : decode cX7_book 22 = .ok (.getfield 32, 3) := by decide +kernel
theorem dX7_book_25 : decode cX7_book 25 = .ok (.getfield 85, 3) := by decide +kernel
theorem dX7_book_28 : decode cX7_book 28 = .ok (.putfield 64, 3) := by decide +kernel
theorem dX7_book_31 : decode cX7_book 31 = .ok (.ldc 88, 2) := by decide +kernel
theorem dX7_book_33 : decode cX7_book 33 = .ok (.aload_n 0, 1) := by decide +kernel
theorem dX7_book_34 : decode cX7_book 34 = .ok (.getfield 32, 3) := by decide +kernel
theorem dX7_book_37 : decode cX7_book 37 = .ok (.getfield 89, 3) := by decide +kernel
theorem dX7_book_40 : decode cX7_book 40 = .ok (.isub, 1) := by decide +kernel
theorem dX7_book_41 : decode cX7_book 41 = .ok (.ireturn, 1) := by decide +kernel
theorem dX7_book_42 : decode cX7_book 42 = .ok (.aload_n 0, 1) := by decide +kernel
theorem dX7_book_43 : decode cX7_book 43 = .ok (.getfield 36, 3) := by decide +kernel
theorem dX7_book_46 : decode cX7_book 46 = .ok (.aload_n 0, 1) := by decide +kernel
theorem dX7_book_47 : decode cX7_book 47 = .ok (.getfield 32, 3) := by decide +kernel
theorem dX7_book_50 : decode cX7_book 50 = .ok (.getfield 92, 3) := by decide +kernel
theorem dX7_book_53 : decode cX7_book 53 = .ok (.invokevirtual 95, 3) := by decide +kernel
theorem dX7_book_56 : decode cX7_book 56 = .ok (.aload_n 0, 1) := by decide +kernel
theorem dX7_book_57 : decode cX7_book 57 = .ok (.getfield 47, 3) := by decide +kernel
theorem dX7_book_60 : decode cX7_book 60 = .ok (.iconst 0, 1) := by decide +kernel
theorem dX7_book_61 : decode cX7_book 61 = .ok (.putfield 99, 3) := by decide +kernel
theorem dX7_book_64 : decode cX7_book 64 = .ok (.aload_n 0, 1) := by decide +kernel
theorem dX7_book_65 : decode cX7_book 65 = .ok (.getfield 36, 3) := by decide +kernel
theorem dX7_book_68 : decode cX7_book 68 = .ok (.getfield 102, 3) := by decide +kernel
theorem dX7_book_71 : decode cX7_book 71 = .ok (.ireturn, 1) := by decide +kernel
theorem dX8_byteAt_0 : decode cX8_byteAt 0 = .ok (.iload_n 1, 1) := by decide +kernel
theorem dX8_byteAt_1 : decode cX8_byteAt 1 = .ok (.aload_n 0, 1) := by decide +kernel
theorem dX8_byteAt_2 : decode cX8_byteAt 2 = .ok (.getfield 152, 3) := by decide +kernel
theorem dX8_byteAt_5 : decode cX8_byteAt 5 = .ok (.if_icmp .ge 12, 3) := by decide +kernel
theorem dX8_byteAt_8 : decode cX8_byteAt 8 = .ok (.aload_n 0, 1) := by decide +kernel
theorem dX8_byteAt_9 : decode cX8_byteAt 9 = .ok (.getfield 26, 3) := by decide +kernel
theorem dX8_byteAt_12 : decode cX8_byteAt 12 = .ok (.iload_n 1, 1) := by decide +kernel
theorem dX8_byteAt_13 : decode cX8_byteAt 13 = .ok (.iaload, 1) := by decide +kernel
theorem dX8_byteAt_14 : decode cX8_byteAt 14 = .ok (.goto 4, 3) := by decide +kernel
theorem dX8_byteAt_17 : decode cX8_byteAt 17 = .ok (.iconst (-1), 1) := by decide +kernel
theorem dX8_byteAt_18 : decode cX8_byteAt 18 = .ok (.ireturn, 1) := by decide +kernel
theorem dX8_reads_0 : decode cX8_reads 0 = .ok (.aload_n 0, 1) := by decide +kernel
theorem dX8_reads_1 : decode cX8_reads 1 = .ok (.aload_n 0, 1) := by decide +kernel
theorem dX8_reads_2 : decode cX8_reads 2 = .ok (.getfield 155, 3) := by decide +kernel
theorem dX8_reads_5 : decode cX8_reads 5 = .ok (.putfield 158, 3) := by decide +kernel
theorem dX8_reads_8 : decode cX8_reads 8 = .ok (.aload_n 0, 1) := by decide +kernel
theorem dX8_reads_9 : decode cX8_reads 9 = .ok (.aload_n 0, 1) := by decide +kernel
theorem dX8_reads_10 : decode cX8_reads 10 = .ok (.getfield 155, 3) := by decide +kernel
theorem dX8_reads_13 : decode cX8_reads 13 = .ok (.invokevirtual 161, 3) := by decide +kernel
theorem dX8_reads_16 : decode cX8_reads 16 = .ok (.istore_n 1, 1) := by decide +kernel
theorem dX8_reads_17 : decode cX8_reads 17 = .ok (.aload_n 0, 1) := by decide +kernel
theorem dX8_reads_18 : decode cX8_reads 18 = .ok (.iload_n 1, 1) := by decide +kernel
theorem dX8_reads_19 : decode cX8_reads 19 = .ok (.putfield 164, 3) := by decide +kernel
theorem dX8_reads_22 : decode cX8_reads 22 = .ok (.aload_n 0, 1) := by decide +kernel
theorem dX8_reads_23 : decode cX8_reads 23 = .ok (.dup, 1) := by decide +kernel
theorem dX8_reads_24 : decode cX8_reads 24 = .ok (.getfield 155, 3) := by decide +kernel
theorem dX8_reads_27 : decode cX8_reads 27 = .ok (.iload_n 1, 1) := by decide +kernel
theorem dX8_reads_28 : decode cX8_reads 28 = .ok (.ifCond .ge 7, 3) := by decide +kernel
theorem dX8_reads_31 : decode cX8_reads 31 = .ok (.iconst 0, 1) := by decide +kernel
theorem dX8_reads_32 : decode cX8_reads 32 = .ok (.goto 4, 3) := by decide +kernel
theorem dX8_reads_35 : decode cX8_reads 35 = .ok (.iconst 1, 1) := by decide +kernel
theorem dX8_reads_36 : decode cX8_reads 36 = .ok (.iadd, 1) := by decide +kernel
theorem dX8_reads_37 : decode cX8_reads 37 = .ok (.putfield 155, 3) := by decide +kernel
theorem dX8_reads_40 : decode cX8_reads 40 = .ok (.aload_n 0, 1) := by decide +kernel
theorem dX8_reads_41 : decode cX8_reads 41 = .ok (.iload_n 1, 1) := by decide +kernel
theorem dX8_reads_42 : decode cX8_reads 42 = .ok (.ifCond .ge 7, 3) := by decide +kernel
theorem dX8_reads_45 : decode cX8_reads 45 = .ok (.iconst 0, 1) := by decide +kernel
theorem dX8_reads_46 : decode cX8_reads 46 = .ok (.goto 56, 3) := by decide +kernel
theorem dX8_reads_49 : decode cX8_reads 49 = .ok (.iload_n 1, 1) := by decide +kernel
theorem dX8_reads_50 : decode cX8_reads 50 = .ok (.i2l, 1) := by decide +kernel
theorem dX8_reads_51 : decode cX8_reads 51 = .ok (.ldc2_w 167, 3) := by decide +kernel
theorem dX8_reads_54 : decode cX8_reads 54 = .ok (.ldc2_w 169, 3) := by decide +kernel
theorem dX8_reads_57 : decode cX8_reads 57 = .ok (.invokestatic 55, 3) := by decide +kernel
theorem dX8_reads_60 : decode cX8_reads 60 = .ok (.ifCond .eq 7, 3) := by decide +kernel
theorem dX8_reads_63 : decode cX8_reads 63 = .ok (.iconst 1, 1) := by decide +kernel
theorem dX8_reads_64 : decode cX8_reads 64 = .ok (.goto 38, 3) := by decide +kernel
theorem dX8_reads_67 : decode cX8_reads 67 = .ok (.iload_n 1, 1) := by decide +kernel
theorem dX8_reads_68 : decode cX8_reads 68 = .ok (.i2l, 1) := by decide +kernel
theorem dX8_reads_69 : decode cX8_reads 69 = .ok (.ldc2_w 171, 3) := by decide +kernel
theorem dX8_reads_72 : decode cX8_reads 72 = .ok (.ldc2_w 173, 3) := by decide +kernel
theorem dX8_reads_75 : decode cX8_reads 75 = .ok (.invokestatic 55, 3) := by decide +kernel
theorem dX8_reads_78 : decode cX8_reads 78 = .ok (.ifCond .eq 7, 3) := by decide +kernel
theorem dX8_reads_81 : decode cX8_reads 81 = .ok (.iconst 2, 1) := by decide +kernel
theorem dX8_reads_82 : decode cX8_reads 82 = .ok (.goto 20, 3) := by decide +kernel
theorem dX8_reads_85 : decode cX8_reads 85 = .ok (.iload_n 1, 1) := by decide +kernel
theorem dX8_reads_86 : decode cX8_reads 86 = .ok (.bipush 44, 2) := by decide +kernel
theorem dX8_reads_88 : decode cX8_reads 88 = .ok (.if_icmp .eq 9, 3) := by decide +kernel
theorem dX8_reads_91 : decode cX8_reads 91 = .ok (.iload_n 1, 1) := by decide +kernel
theorem dX8_reads_92 : decode cX8_reads 92 = .ok (.bipush 59, 2) := by decide +kernel
theorem dX8_reads_94 : decode cX8_reads 94 = .ok (.if_icmp .ne 7, 3) := by decide +kernel
theorem dX8_reads_97 : decode cX8_reads 97 = .ok (.iconst 3, 1) := by decide +kernel
theorem dX8_reads_98 : decode cX8_reads 98 = .ok (.goto 4, 3) := by decide +kernel
theorem dX8_reads_101 : decode cX8_reads 101 = .ok (.iconst 4, 1) := by decide +kernel
theorem dX8_reads_102 : decode cX8_reads 102 = .ok (.putfield 175, 3) := by decide +kernel
theorem dX8_reads_105 : decode cX8_reads 105 = .ok (.aload_n 0, 1) := by decide +kernel
theorem dX8_reads_106 : decode cX8_reads 106 = .ok (.getfield 175, 3) := by decide +kernel
theorem dX8_reads_109 : decode cX8_reads 109 = .ok (.iconst 2, 1) := by decide +kernel
theorem dX8_reads_110 : decode cX8_reads 110 = .ok (.if_icmp .ne 110, 3) := by decide +kernel
theorem dX8_reads_113 : decode cX8_reads 113 = .ok (.aload_n 0, 1) := by decide +kernel
theorem dX8_reads_114 : decode cX8_reads 114 = .ok (.iload_n 1, 1) := by decide +kernel
theorem dX8_reads_115 : decode cX8_reads 115 = .ok (.bipush 48, 2) := by decide +kernel
theorem dX8_reads_117 : decode cX8_reads 117 = .ok (.isub, 1) := by decide +kernel
theorem dX8_reads_118 : decode cX8_reads 118 = .ok (.putfield 164, 3) := by decide +kernel
theorem dX8_reads_121 : decode cX8_reads 121 = .ok (.aload_n 0, 1) := by decide +kernel
theorem dX8_reads_122 : decode cX8_reads 122 = .ok (.aload_n 0, 1) := by decide +kernel
theorem dX8_reads_123 : decode cX8_reads 123 = .ok (.getfield 155, 3) := by decide +kernel
theorem dX8_reads_126 : decode cX8_reads 126 = .ok (.invokevirtual 161, 3) := by decide +kernel
theorem dX8_reads_129 : decode cX8_reads 129 = .ok (.i2l, 1) := by decide +kernel
theorem dX8_reads_130 : decode cX8_reads 130 = .ok (.ldc2_w 171, 3) := by decide +kernel
theorem dX8_reads_133 : decode cX8_reads 133 = .ok (.ldc2_w 173, 3) := by decide +kernel
theorem dX8_reads_136 : decode cX8_reads 136 = .ok (.invokestatic 55, 3) := by decide +kernel
theorem dX8_reads_139 : decode cX8_reads 139 = .ok (.ifCond .eq 59, 3) := by decide +kernel
theorem dX8_reads_142 : decode cX8_reads 142 = .ok (.aload_n 0, 1) := by decide +kernel
theorem dX8_reads_143 : decode cX8_reads 143 = .ok (.aload_n 0, 1) := by decide +kernel
theorem dX8_reads_144 : decode cX8_reads 144 = .ok (.getfield 155, 3) := by decide +kernel
theorem dX8_reads_147 : decode cX8_reads 147 = .ok (.aload_n 0, 1) := by decide +kernel
theorem dX8_reads_148 : decode cX8_reads 148 = .ok (.getfield 158, 3) := by decide +kernel
theorem dX8_reads_151 : decode cX8_reads 151 = .ok (.isub, 1) := by decide +kernel
theorem dX8_reads_152 : decode cX8_reads 152 = .ok (.iconst 3, 1) := by decide +kernel
theorem dX8_reads_153 : decode cX8_reads 153 = .ok (.if_icmp .ge 25, 3) := by decide +kernel
theorem dX8_reads_156 : decode cX8_reads 156 = .ok (.bipush 10, 2) := by decide +kernel
theorem dX8_reads_158 : decode cX8_reads 158 = .ok (.aload_n 0, 1) := by decide +kernel
theorem dX8_reads_159 : decode cX8_reads 159 = .ok (.getfield 164, 3) := by decide +kernel
theorem dX8_reads_162 : decode cX8_reads 162 = .ok (.imul, 1) := by decide +kernel
theorem dX8_reads_163 : decode cX8_reads 163 = .ok (.aload_n 0, 1) := by decide +kernel
theorem dX8_reads_164 : decode cX8_reads 164 = .ok (.aload_n 0, 1) := by decide +kernel
theorem dX8_reads_165 : decode cX8_reads 165 = .ok (.getfield 155, 3) := by decide +kernel
theorem dX8_reads_168 : decode cX8_reads 168 = .ok (.invokevirtual 161, 3) := by decide +kernel
theorem dX8_reads_171 : decode cX8_reads 171 = .ok (.iadd, 1) := by decide +kernel
theorem dX8_reads_172 : decode cX8_reads 172 = .ok (.bipush 48, 2) := by decide +kernel
theorem dX8_reads_174 : decode cX8_reads 174 = .ok (.isub, 1) := by decide +kernel
theorem dX8_reads_175 : decode cX8_reads 175 = .ok (.goto 7, 3) := by decide +kernel
theorem dX8_reads_178 : decode cX8_reads 178 = .ok (.aload_n 0, 1) := by decide +kernel
theorem dX8_reads_179 : decode cX8_reads 179 = .ok (.getfield 164, 3) := by decide +kernel
theorem dX8_reads_182 : decode cX8_reads 182 = .ok (.putfield 164, 3) := by decide +kernel
theorem dX8_reads_185 : decode cX8_reads 185 = .ok (.aload_n 0, 1) := by decide +kernel
theorem dX8_reads_186 : decode cX8_reads 186 = .ok (.dup, 1) := by decide +kernel
theorem dX8_reads_187 : decode cX8_reads 187 = .ok (.getfield 155, 3) := by decide +kernel
theorem dX8_reads_190 : decode cX8_reads 190 = .ok (.iconst 1, 1) := by decide +kernel
theorem dX8_reads_191 : decode cX8_reads 191 = .ok (.iadd, 1) := by decide +kernel
theorem dX8_reads_192 : decode cX8_reads 192 = .ok (.putfield 155, 3) := by decide +kernel
theorem dX8_reads_195 : decode cX8_reads 195 = .ok (.goto (-74), 3) := by decide +kernel
theorem dX8_reads_198 : decode cX8_reads 198 = .ok (.aload_n 0, 1) := by decide +kernel
theorem dX8_reads_199 : decode cX8_reads 199 = .ok (.aload_n 0, 1) := by decide +kernel
theorem dX8_reads_200 : decode cX8_reads 200 = .ok (.getfield 155, 3) := by decide +kernel
theorem dX8_reads_203 : decode cX8_reads 203 = .ok (.aload_n 0, 1) := by decide +kernel
theorem dX8_reads_204 : decode cX8_reads 204 = .ok (.getfield 158, 3) := by decide +kernel
theorem dX8_reads_207 : decode cX8_reads 207 = .ok (.isub, 1) := by decide +kernel
theorem dX8_reads_208 : decode cX8_reads 208 = .ok (.iconst 3, 1) := by decide +kernel
theorem dX8_reads_209 : decode cX8_reads 209 = .ok (.if_icmp .le 7, 3) := by decide +kernel
theorem dX8_reads_212 : decode cX8_reads 212 = .ok (.iconst 4, 1) := by decide +kernel
theorem dX8_reads_213 : decode cX8_reads 213 = .ok (.goto 4, 3) := by decide +kernel
theorem dX8_reads_216 : decode cX8_reads 216 = .ok (.iconst 2, 1) := by decide +kernel
theorem dX8_reads_217 : decode cX8_reads 217 = .ok (.putfield 175, 3) := by decide +kernel
theorem dX8_reads_220 : decode cX8_reads 220 = .ok (.return_, 1) := by decide +kernel
theorem dX8_isLetter_0 : decode cX8_isLetter 0 = .ok (.aload_n 0, 1) := by decide +kernel
theorem dX8_isLetter_1 : decode cX8_isLetter 1 = .ok (.getfield 178, 3) := by decide +kernel
theorem dX8_isLetter_4 : decode cX8_isLetter 4 = .ok (.ifCond .ne 23, 3) := by decide +kernel
theorem dX8_isLetter_7 : decode cX8_isLetter 7 = .ok (.aload_n 0, 1) := by decide +kernel
theorem dX8_isLetter_8 : decode cX8_isLetter 8 = .ok (.getfield 175, 3) := by decide +kernel
theorem dX8_isLetter_11 : decode cX8_isLetter 11 = .ok (.iconst 1, 1) := by decide +kernel
theorem dX8_isLetter_12 : decode cX8_isLetter 12 = .ok (.if_icmp .ne 15, 3) := by decide +kernel
theorem dX8_isLetter_15 : decode cX8_isLetter 15 = .ok (.aload_n 0, 1) := by decide +kernel
theorem dX8_isLetter_16 : decode cX8_isLetter 16 = .ok (.getfield 164, 3) := by decide +kernel
theorem dX8_isLetter_19 : decode cX8_isLetter 19 = .ok (.iload_n 1, 1) := by decide +kernel
theorem dX8_isLetter_20 : decode cX8_isLetter 20 = .ok (.if_icmp .ne 7, 3) := by decide +kernel
theorem dX8_isLetter_23 : decode cX8_isLetter 23 = .ok (.iconst 1, 1) := by decide +kernel
theorem dX8_isLetter_24 : decode cX8_isLetter 24 = .ok (.goto 4, 3) := by decide +kernel
theorem dX8_isLetter_27 : decode cX8_isLetter 27 = .ok (.iconst 0, 1) := by decide +kernel
theorem dX8_isLetter_28 : decode cX8_isLetter 28 = .ok (.ireturn, 1) := by decide +kernel
theorem dX8_goesOn_0 : decode cX8_goesOn 0 = .ok (.aload_n 0, 1) := by decide +kernel
theorem dX8_goesOn_1 : decode cX8_goesOn 1 = .ok (.getfield 178, 3) := by decide +kernel
theorem dX8_goesOn_4 : decode cX8_goesOn 4 = .ok (.ifCond .ne 7, 3) := by decide +kernel
theorem dX8_goesOn_7 : decode cX8_goesOn 7 = .ok (.aload_n 0, 1) := by decide +kernel
theorem dX8_goesOn_8 : decode cX8_goesOn 8 = .ok (.invokevirtual 184, 3) := by decide +kernel
theorem dX8_goesOn_11 : decode cX8_goesOn 11 = .ok (.return_, 1) := by decide +kernel
theorem dX8_bad_0 : decode cX8_bad 0 = .ok (.aload_n 0, 1) := by decide +kernel
theorem dX8_bad_1 : decode cX8_bad 1 = .ok (.getfield 178, 3) := by decide +kernel
theorem dX8_bad_4 : decode cX8_bad 4 = .ok (.ifCond .ne 16, 3) := by decide +kernel
theorem dX8_bad_7 : decode cX8_bad 7 = .ok (.aload_n 0, 1) := by decide +kernel
theorem dX8_bad_8 : decode cX8_bad 8 = .ok (.iload_n 1, 1) := by decide +kernel
theorem dX8_bad_9 : decode cX8_bad 9 = .ok (.putfield 178, 3) := by decide +kernel
theorem dX8_bad_12 : decode cX8_bad 12 = .ok (.aload_n 0, 1) := by decide +kernel
theorem dX8_bad_13 : decode cX8_bad 13 = .ok (.aload_n 0, 1) := by decide +kernel
theorem dX8_bad_14 : decode cX8_bad 14 = .ok (.getfield 158, 3) := by decide +kernel
theorem dX8_bad_17 : decode cX8_bad 17 = .ok (.putfield 181, 3) := by decide +kernel
theorem dX8_bad_20 : decode cX8_bad 20 = .ok (.return_, 1) := by decide +kernel
theorem dX8_letter_0 : decode cX8_letter 0 = .ok (.aload_n 0, 1) := by decide +kernel
theorem dX8_letter_1 : decode cX8_letter 1 = .ok (.iload_n 1, 1) := by decide +kernel
theorem dX8_letter_2 : decode cX8_letter 2 = .ok (.invokevirtual 193, 3) := by decide +kernel
theorem dX8_letter_5 : decode cX8_letter 5 = .ok (.ifCond .ne 8, 3) := by decide +kernel
theorem dX8_letter_8 : decode cX8_letter 8 = .ok (.aload_n 0, 1) := by decide +kernel
theorem dX8_letter_9 : decode cX8_letter 9 = .ok (.iconst 1, 1) := by decide +kernel
theorem dX8_letter_10 : decode cX8_letter 10 = .ok (.invokevirtual 187, 3) := by decide +kernel
theorem dX8_letter_13 : decode cX8_letter 13 = .ok (.aload_n 0, 1) := by decide +kernel
theorem dX8_letter_14 : decode cX8_letter 14 = .ok (.invokevirtual 190, 3) := by decide +kernel
theorem dX8_letter_17 : decode cX8_letter 17 = .ok (.return_, 1) := by decide +kernel
theorem dX8_number_0 : decode cX8_number 0 = .ok (.aload_n 0, 1) := by decide +kernel
theorem dX8_number_1 : decode cX8_number 1 = .ok (.getfield 175, 3) := by decide +kernel
theorem dX8_number_4 : decode cX8_number 4 = .ok (.iconst 2, 1) := by decide +kernel
theorem dX8_number_5 : decode cX8_number 5 = .ok (.if_icmp .eq 11, 3) := by decide +kernel
theorem dX8_number_8 : decode cX8_number 8 = .ok (.aload_n 0, 1) := by decide +kernel
theorem dX8_number_9 : decode cX8_number 9 = .ok (.iconst 1, 1) := by decide +kernel
theorem dX8_number_10 : decode cX8_number 10 = .ok (.invokevirtual 187, 3) := by decide +kernel
theorem dX8_number_13 : decode cX8_number 13 = .ok (.goto 23, 3) := by decide +kernel
theorem dX8_number_16 : decode cX8_number 16 = .ok (.aload_n 0, 1) := by decide +kernel
theorem dX8_number_17 : decode cX8_number 17 = .ok (.getfield 164, 3) := by decide +kernel
theorem dX8_number_20 : decode cX8_number 20 = .ok (.i2l, 1) := by decide +kernel
theorem dX8_number_21 : decode cX8_number 21 = .ok (.iload_n 1, 1) := by decide +kernel
theorem dX8_number_22 : decode cX8_number 22 = .ok (.i2l, 1) := by decide +kernel
theorem dX8_number_23 : decode cX8_number 23 = .ok (.iload_n 2, 1) := by decide +kernel
theorem dX8_number_24 : decode cX8_number 24 = .ok (.i2l, 1) := by decide +kernel
theorem dX8_number_25 : decode cX8_number 25 = .ok (.invokestatic 55, 3) := by decide +kernel
theorem dX8_number_28 : decode cX8_number 28 = .ok (.ifCond .ne 8, 3) := by decide +kernel
theorem dX8_number_31 : decode cX8_number 31 = .ok (.aload_n 0, 1) := by decide +kernel
theorem dX8_number_32 : decode cX8_number 32 = .ok (.iconst 2, 1) := by decide +kernel
theorem dX8_number_33 : decode cX8_number 33 = .ok (.invokevirtual 187, 3) := by decide +kernel
theorem dX8_number_36 : decode cX8_number 36 = .ok (.aload_n 0, 1) := by decide +kernel
theorem dX8_number_37 : decode cX8_number 37 = .ok (.getfield 178, 3) := by decide +kernel
theorem dX8_number_40 : decode cX8_number 40 = .ok (.ifCond .ne 10, 3) := by decide +kernel
theorem dX8_number_43 : decode cX8_number 43 = .ok (.aload_n 0, 1) := by decide +kernel
theorem dX8_number_44 : decode cX8_number 44 = .ok (.getfield 164, 3) := by decide +kernel
theorem dX8_number_47 : decode cX8_number 47 = .ok (.goto 4, 3) := by decide +kernel
theorem dX8_number_50 : decode cX8_number 50 = .ok (.iload_n 1, 1) := by decide +kernel
theorem dX8_number_51 : decode cX8_number 51 = .ok (.istore 4, 2) := by decide +kernel
theorem dX8_number_53 : decode cX8_number 53 = .ok (.aload_n 0, 1) := by decide +kernel
theorem dX8_number_54 : decode cX8_number 54 = .ok (.invokevirtual 190, 3) := by decide +kernel
theorem dX8_number_57 : decode cX8_number 57 = .ok (.aload_n 0, 1) := by decide +kernel
theorem dX8_number_58 : decode cX8_number 58 = .ok (.getfield 178, 3) := by decide +kernel
theorem dX8_number_61 : decode cX8_number 61 = .ok (.ifCond .ne 24, 3) := by decide +kernel
theorem dX8_number_64 : decode cX8_number 64 = .ok (.aload_n 0, 1) := by decide +kernel
theorem dX8_number_65 : decode cX8_number 65 = .ok (.getfield 175, 3) := by decide +kernel
theorem dX8_number_68 : decode cX8_number 68 = .ok (.iconst 3, 1) := by decide +kernel
theorem dX8_number_69 : decode cX8_number 69 = .ok (.if_icmp .ne 11, 3) := by decide +kernel
theorem dX8_number_72 : decode cX8_number 72 = .ok (.aload_n 0, 1) := by decide +kernel
theorem dX8_number_73 : decode cX8_number 73 = .ok (.getfield 164, 3) := by decide +kernel
theorem dX8_number_76 : decode cX8_number 76 = .ok (.iload_n 3, 1) := by decide +kernel
theorem dX8_number_77 : decode cX8_number 77 = .ok (.if_icmp .eq 8, 3) := by decide +kernel
theorem dX8_number_80 : decode cX8_number 80 = .ok (.aload_n 0, 1) := by decide +kernel
theorem dX8_number_81 : decode cX8_number 81 = .ok (.iconst 1, 1) := by decide +kernel
theorem dX8_number_82 : decode cX8_number 82 = .ok (.invokevirtual 187, 3) := by decide +kernel
theorem dX8_number_85 : decode cX8_number 85 = .ok (.aload_n 0, 1) := by decide +kernel
theorem dX8_number_86 : decode cX8_number 86 = .ok (.invokevirtual 190, 3) := by decide +kernel
theorem dX8_number_89 : decode cX8_number 89 = .ok (.iload 4, 2) := by decide +kernel
theorem dX8_number_91 : decode cX8_number 91 = .ok (.ireturn, 1) := by decide +kernel
theorem dX8_sort_0 : decode cX8_sort 0 = .ok (.aload_n 0, 1) := by decide +kernel
theorem dX8_sort_1 : decode cX8_sort 1 = .ok (.bipush 98, 2) := by decide +kernel
theorem dX8_sort_3 : decode cX8_sort 3 = .ok (.invokevirtual 193, 3) := by decide +kernel
theorem dX8_sort_6 : decode cX8_sort 6 = .ok (.ifCond .eq 7, 3) := by decide +kernel
theorem dX8_sort_9 : decode cX8_sort 9 = .ok (.iconst 0, 1) := by decide +kernel
theorem dX8_sort_10 : decode cX8_sort 10 = .ok (.goto 44, 3) := by decide +kernel
theorem dX8_sort_13 : decode cX8_sort 13 = .ok (.aload_n 0, 1) := by decide +kernel
theorem dX8_sort_14 : decode cX8_sort 14 = .ok (.bipush 102, 2) := by decide +kernel
theorem dX8_sort_16 : decode cX8_sort 16 = .ok (.invokevirtual 193, 3) := by decide +kernel
theorem dX8_sort_19 : decode cX8_sort 19 = .ok (.ifCond .eq 7, 3) := by decide +kernel
theorem dX8_sort_22 : decode cX8_sort 22 = .ok (.iconst 1, 1) := by decide +kernel
theorem dX8_sort_23 : decode cX8_sort 23 = .ok (.goto 31, 3) := by decide +kernel
theorem dX8_sort_26 : decode cX8_sort 26 = .ok (.aload_n 0, 1) := by decide +kernel
theorem dX8_sort_27 : decode cX8_sort 27 = .ok (.bipush 110, 2) := by decide +kernel
theorem dX8_sort_29 : decode cX8_sort 29 = .ok (.invokevirtual 193, 3) := by decide +kernel
theorem dX8_sort_32 : decode cX8_sort 32 = .ok (.ifCond .eq 7, 3) := by decide +kernel
theorem dX8_sort_35 : decode cX8_sort 35 = .ok (.iconst 2, 1) := by decide +kernel
theorem dX8_sort_36 : decode cX8_sort 36 = .ok (.goto 18, 3) := by decide +kernel
theorem dX8_sort_39 : decode cX8_sort 39 = .ok (.aload_n 0, 1) := by decide +kernel
theorem dX8_sort_40 : decode cX8_sort 40 = .ok (.bipush 100, 2) := by decide +kernel
theorem dX8_sort_42 : decode cX8_sort 42 = .ok (.invokevirtual 193, 3) := by decide +kernel
theorem dX8_sort_45 : decode cX8_sort 45 = .ok (.ifCond .eq 7, 3) := by decide +kernel
theorem dX8_sort_48 : decode cX8_sort 48 = .ok (.iconst 3, 1) := by decide +kernel
theorem dX8_sort_49 : decode cX8_sort 49 = .ok (.goto 5, 3) := by decide +kernel
theorem dX8_sort_52 : decode cX8_sort 52 = .ok (.ldc 90, 2) := by decide +kernel
theorem dX8_sort_54 : decode cX8_sort 54 = .ok (.ireturn, 1) := by decide +kernel
theorem dX8_readsSeason_0 : decode cX8_readsSeason 0 = .ok (.aload_n 0, 1) := by decide +kernel
theorem dX8_readsSeason_1 : decode cX8_readsSeason 1 = .ok (.getfield 13, 3) := by decide +kernel
theorem dX8_readsSeason_4 : decode cX8_readsSeason 4 = .ok (.bipush 7, 2) := by decide +kernel
theorem dX8_readsSeason_6 : decode cX8_readsSeason 6 = .ok (.iaload, 1) := by decide +kernel
theorem dX8_readsSeason_7 : decode cX8_readsSeason 7 = .ok (.iconst 4, 1) := by decide +kernel
theorem dX8_readsSeason_8 : decode cX8_readsSeason 8 = .ok (.if_icmp .ne 8, 3) := by decide +kernel
theorem dX8_readsSeason_11 : decode cX8_readsSeason 11 = .ok (.aload_n 0, 1) := by decide +kernel
theorem dX8_readsSeason_12 : decode cX8_readsSeason 12 = .ok (.iconst 3, 1) := by decide +kernel
theorem dX8_readsSeason_13 : decode cX8_readsSeason 13 = .ok (.invokevirtual 187, 3) := by decide +kernel
theorem dX8_readsSeason_16 : decode cX8_readsSeason 16 = .ok (.aload_n 0, 1) := by decide +kernel
theorem dX8_readsSeason_17 : decode cX8_readsSeason 17 = .ok (.invokevirtual 190, 3) := by decide +kernel
theorem dX8_readsSeason_20 : decode cX8_readsSeason 20 = .ok (.aload_n 0, 1) := by decide +kernel
theorem dX8_readsSeason_21 : decode cX8_readsSeason 21 = .ok (.iconst 0, 1) := by decide +kernel
theorem dX8_readsSeason_22 : decode cX8_readsSeason 22 = .ok (.aload_n 0, 1) := by decide +kernel
theorem dX8_readsSeason_23 : decode cX8_readsSeason 23 = .ok (.getfield 13, 3) := by decide +kernel
theorem dX8_readsSeason_26 : decode cX8_readsSeason 26 = .ok (.bipush 6, 2) := by decide +kernel
theorem dX8_readsSeason_28 : decode cX8_readsSeason 28 = .ok (.iaload, 1) := by decide +kernel
theorem dX8_readsSeason_29 : decode cX8_readsSeason 29 = .ok (.iconst 1, 1) := by decide +kernel
theorem dX8_readsSeason_30 : decode cX8_readsSeason 30 = .ok (.isub, 1) := by decide +kernel
theorem dX8_readsSeason_31 : decode cX8_readsSeason 31 = .ok (.bipush 44, 2) := by decide +kernel
theorem dX8_readsSeason_33 : decode cX8_readsSeason 33 = .ok (.invokevirtual 199, 3) := by decide +kernel
theorem dX8_readsSeason_36 : decode cX8_readsSeason 36 = .ok (.istore_n 1, 1) := by decide +kernel
theorem dX8_readsSeason_37 : decode cX8_readsSeason 37 = .ok (.aload_n 0, 1) := by decide +kernel
theorem dX8_readsSeason_38 : decode cX8_readsSeason 38 = .ok (.getfield 178, 3) := by decide +kernel
theorem dX8_readsSeason_41 : decode cX8_readsSeason 41 = .ok (.ifCond .ne 24, 3) := by decide +kernel
theorem dX8_readsSeason_44 : decode cX8_readsSeason 44 = .ok (.aload_n 0, 1) := by decide +kernel
theorem dX8_readsSeason_45 : decode cX8_readsSeason 45 = .ok (.getfield 175, 3) := by decide +kernel
theorem dX8_readsSeason_48 : decode cX8_readsSeason 48 = .ok (.iconst 2, 1) := by decide +kernel
theorem dX8_readsSeason_49 : decode cX8_readsSeason 49 = .ok (.if_icmp .ne 16, 3) := by decide +kernel
theorem dX8_readsSeason_52 : decode cX8_readsSeason 52 = .ok (.aload_n 0, 1) := by decide +kernel
theorem dX8_readsSeason_53 : decode cX8_readsSeason 53 = .ok (.getfield 164, 3) := by decide +kernel
theorem dX8_readsSeason_56 : decode cX8_readsSeason 56 = .ok (.iload_n 1, 1) := by decide +kernel
theorem dX8_readsSeason_57 : decode cX8_readsSeason 57 = .ok (.if_icmp .ne 8, 3) := by decide +kernel
theorem dX8_readsSeason_60 : decode cX8_readsSeason 60 = .ok (.aload_n 0, 1) := by decide +kernel
theorem dX8_readsSeason_61 : decode cX8_readsSeason 61 = .ok (.iconst 2, 1) := by decide +kernel
theorem dX8_readsSeason_62 : decode cX8_readsSeason 62 = .ok (.invokevirtual 187, 3) := by decide +kernel
theorem dX8_readsSeason_65 : decode cX8_readsSeason 65 = .ok (.aload_n 0, 1) := by decide +kernel
theorem dX8_readsSeason_66 : decode cX8_readsSeason 66 = .ok (.iconst 0, 1) := by decide +kernel
theorem dX8_readsSeason_67 : decode cX8_readsSeason 67 = .ok (.aload_n 0, 1) := by decide +kernel
theorem dX8_readsSeason_68 : decode cX8_readsSeason 68 = .ok (.getfield 13, 3) := by decide +kernel
theorem dX8_readsSeason_71 : decode cX8_readsSeason 71 = .ok (.bipush 6, 2) := by decide +kernel
theorem dX8_readsSeason_73 : decode cX8_readsSeason 73 = .ok (.iaload, 1) := by decide +kernel
theorem dX8_readsSeason_74 : decode cX8_readsSeason 74 = .ok (.iconst 1, 1) := by decide +kernel
theorem dX8_readsSeason_75 : decode cX8_readsSeason 75 = .ok (.isub, 1) := by decide +kernel
theorem dX8_readsSeason_76 : decode cX8_readsSeason 76 = .ok (.bipush 44, 2) := by decide +kernel
theorem dX8_readsSeason_78 : decode cX8_readsSeason 78 = .ok (.invokevirtual 199, 3) := by decide +kernel
theorem dX8_readsSeason_81 : decode cX8_readsSeason 81 = .ok (.istore_n 2, 1) := by decide +kernel
theorem dX8_readsSeason_82 : decode cX8_readsSeason 82 = .ok (.aload_n 0, 1) := by decide +kernel
theorem dX8_readsSeason_83 : decode cX8_readsSeason 83 = .ok (.iconst 1, 1) := by decide +kernel
theorem dX8_readsSeason_84 : decode cX8_readsSeason 84 = .ok (.bipush 6, 2) := by decide +kernel
theorem dX8_readsSeason_86 : decode cX8_readsSeason 86 = .ok (.bipush 59, 2) := by decide +kernel
theorem dX8_readsSeason_88 : decode cX8_readsSeason 88 = .ok (.invokevirtual 199, 3) := by decide +kernel
theorem dX8_readsSeason_91 : decode cX8_readsSeason 91 = .ok (.istore_n 3, 1) := by decide +kernel
theorem dX8_readsSeason_92 : decode cX8_readsSeason 92 = .ok (.aload_n 0, 1) := by decide +kernel
theorem dX8_readsSeason_93 : decode cX8_readsSeason 93 = .ok (.getfield 178, 3) := by decide +kernel
theorem dX8_readsSeason_96 : decode cX8_readsSeason 96 = .ok (.ifCond .ne 56, 3) := by decide +kernel
theorem dX8_readsSeason_99 : decode cX8_readsSeason 99 = .ok (.bipush 57, 2) := by decide +kernel
theorem dX8_readsSeason_101 : decode cX8_readsSeason 101 = .ok (.iconst 3, 1) := by decide +kernel
theorem dX8_readsSeason_102 : decode cX8_readsSeason 102 = .ok (.aload_n 0, 1) := by decide +kernel
theorem dX8_readsSeason_103 : decode cX8_readsSeason 103 = .ok (.getfield 13, 3) := by decide +kernel
theorem dX8_readsSeason_106 : decode cX8_readsSeason 106 = .ok (.bipush 7, 2) := by decide +kernel
theorem dX8_readsSeason_108 : decode cX8_readsSeason 108 = .ok (.iaload, 1) := by decide +kernel
theorem dX8_readsSeason_109 : decode cX8_readsSeason 109 = .ok (.imul, 1) := by decide +kernel
theorem dX8_readsSeason_110 : decode cX8_readsSeason 110 = .ok (.iadd, 1) := by decide +kernel
theorem dX8_readsSeason_111 : decode cX8_readsSeason 111 = .ok (.istore 4, 2) := by decide +kernel
theorem dX8_readsSeason_113 : decode cX8_readsSeason 113 = .ok (.aload_n 0, 1) := by decide +kernel
theorem dX8_readsSeason_114 : decode cX8_readsSeason 114 = .ok (.getfield 13, 3) := by decide +kernel
theorem dX8_readsSeason_117 : decode cX8_readsSeason 117 = .ok (.iload 4, 2) := by decide +kernel
theorem dX8_readsSeason_119 : decode cX8_readsSeason 119 = .ok (.iload_n 1, 1) := by decide +kernel
theorem dX8_readsSeason_120 : decode cX8_readsSeason 120 = .ok (.iastore, 1) := by decide +kernel
theorem dX8_readsSeason_121 : decode cX8_readsSeason 121 = .ok (.aload_n 0, 1) := by decide +kernel
theorem dX8_readsSeason_122 : decode cX8_readsSeason 122 = .ok (.getfield 13, 3) := by decide +kernel
theorem dX8_readsSeason_125 : decode cX8_readsSeason 125 = .ok (.iload 4, 2) := by decide +kernel
theorem dX8_readsSeason_127 : decode cX8_readsSeason 127 = .ok (.iconst 1, 1) := by decide +kernel
theorem dX8_readsSeason_128 : decode cX8_readsSeason 128 = .ok (.iadd, 1) := by decide +kernel
theorem dX8_readsSeason_129 : decode cX8_readsSeason 129 = .ok (.iload_n 2, 1) := by decide +kernel
theorem dX8_readsSeason_130 : decode cX8_readsSeason 130 = .ok (.iastore, 1) := by decide +kernel
theorem dX8_readsSeason_131 : decode cX8_readsSeason 131 = .ok (.aload_n 0, 1) := by decide +kernel
theorem dX8_readsSeason_132 : decode cX8_readsSeason 132 = .ok (.getfield 13, 3) := by decide +kernel
theorem dX8_readsSeason_135 : decode cX8_readsSeason 135 = .ok (.iload 4, 2) := by decide +kernel
theorem dX8_readsSeason_137 : decode cX8_readsSeason 137 = .ok (.iconst 2, 1) := by decide +kernel
theorem dX8_readsSeason_138 : decode cX8_readsSeason 138 = .ok (.iadd, 1) := by decide +kernel
theorem dX8_readsSeason_139 : decode cX8_readsSeason 139 = .ok (.iload_n 3, 1) := by decide +kernel
theorem dX8_readsSeason_140 : decode cX8_readsSeason 140 = .ok (.iastore, 1) := by decide +kernel
theorem dX8_readsSeason_141 : decode cX8_readsSeason 141 = .ok (.aload_n 0, 1) := by decide +kernel
theorem dX8_readsSeason_142 : decode cX8_readsSeason 142 = .ok (.getfield 13, 3) := by decide +kernel
theorem dX8_readsSeason_145 : decode cX8_readsSeason 145 = .ok (.bipush 7, 2) := by decide +kernel
theorem dX8_readsSeason_147 : decode cX8_readsSeason 147 = .ok (.dup2, 1) := by decide +kernel
theorem dX8_readsSeason_148 : decode cX8_readsSeason 148 = .ok (.iaload, 1) := by decide +kernel
theorem dX8_readsSeason_149 : decode cX8_readsSeason 149 = .ok (.iconst 1, 1) := by decide +kernel
theorem dX8_readsSeason_150 : decode cX8_readsSeason 150 = .ok (.iadd, 1) := by decide +kernel
theorem dX8_readsSeason_151 : decode cX8_readsSeason 151 = .ok (.iastore, 1) := by decide +kernel
theorem dX8_readsSeason_152 : decode cX8_readsSeason 152 = .ok (.return_, 1) := by decide +kernel
theorem dX8_puts_0 : decode cX8_puts 0 = .ok (.bipush 9, 2) := by decide +kernel
theorem dX8_puts_2 : decode cX8_puts 2 = .ok (.iconst 4, 1) := by decide +kernel
theorem dX8_puts_3 : decode cX8_puts 3 = .ok (.aload_n 0, 1) := by decide +kernel
theorem dX8_puts_4 : decode cX8_puts 4 = .ok (.bipush 6, 2) := by decide +kernel
theorem dX8_puts_6 : decode cX8_puts 6 = .ok (.iaload, 1) := by decide +kernel
theorem dX8_puts_7 : decode cX8_puts 7 = .ok (.imul, 1) := by decide +kernel
theorem dX8_puts_8 : decode cX8_puts 8 = .ok (.iadd, 1) := by decide +kernel
theorem dX8_puts_9 : decode cX8_puts 9 = .ok (.istore 5, 2) := by decide +kernel
theorem dX8_puts_11 : decode cX8_puts 11 = .ok (.aload_n 0, 1) := by decide +kernel
theorem dX8_puts_12 : decode cX8_puts 12 = .ok (.iload 5, 2) := by decide +kernel
theorem dX8_puts_14 : decode cX8_puts 14 = .ok (.iload_n 1, 1) := by decide +kernel
theorem dX8_puts_15 : decode cX8_puts 15 = .ok (.iastore, 1) := by decide +kernel
theorem dX8_puts_16 : decode cX8_puts 16 = .ok (.aload_n 0, 1) := by decide +kernel
theorem dX8_puts_17 : decode cX8_puts 17 = .ok (.iload 5, 2) := by decide +kernel
theorem dX8_puts_19 : decode cX8_puts 19 = .ok (.iconst 1, 1) := by decide +kernel
theorem dX8_puts_20 : decode cX8_puts 20 = .ok (.iadd, 1) := by decide +kernel
theorem dX8_puts_21 : decode cX8_puts 21 = .ok (.iload_n 2, 1) := by decide +kernel
theorem dX8_puts_22 : decode cX8_puts 22 = .ok (.iastore, 1) := by decide +kernel
theorem dX8_puts_23 : decode cX8_puts 23 = .ok (.aload_n 0, 1) := by decide +kernel
theorem dX8_puts_24 : decode cX8_puts 24 = .ok (.iload 5, 2) := by decide +kernel
theorem dX8_puts_26 : decode cX8_puts 26 = .ok (.iconst 2, 1) := by decide +kernel
theorem dX8_puts_27 : decode cX8_puts 27 = .ok (.iadd, 1) := by decide +kernel
theorem dX8_puts_28 : decode cX8_puts 28 = .ok (.iload_n 3, 1) := by decide +kernel
theorem dX8_puts_29 : decode cX8_puts 29 = .ok (.iastore, 1) := by decide +kernel
theorem dX8_puts_30 : decode cX8_puts 30 = .ok (.aload_n 0, 1) := by decide +kernel
theorem dX8_puts_31 : decode cX8_puts 31 = .ok (.iload 5, 2) := by decide +kernel
theorem dX8_puts_33 : decode cX8_puts 33 = .ok (.iconst 3, 1) := by decide +kernel
theorem dX8_puts_34 : decode cX8_puts 34 = .ok (.iadd, 1) := by decide +kernel
theorem dX8_puts_35 : decode cX8_puts 35 = .ok (.iload 4, 2) := by decide +kernel
theorem dX8_puts_37 : decode cX8_puts 37 = .ok (.iastore, 1) := by decide +kernel
theorem dX8_puts_38 : decode cX8_puts 38 = .ok (.aload_n 0, 1) := by decide +kernel
theorem dX8_puts_39 : decode cX8_puts 39 = .ok (.bipush 6, 2) := by decide +kernel
theorem dX8_puts_41 : decode cX8_puts 41 = .ok (.dup2, 1) := by decide +kernel
theorem dX8_puts_42 : decode cX8_puts 42 = .ok (.iaload, 1) := by decide +kernel
theorem dX8_puts_43 : decode cX8_puts 43 = .ok (.iconst 1, 1) := by decide +kernel
theorem dX8_puts_44 : decode cX8_puts 44 = .ok (.iadd, 1) := by decide +kernel
theorem dX8_puts_45 : decode cX8_puts 45 = .ok (.iastore, 1) := by decide +kernel
theorem dX8_puts_46 : decode cX8_puts 46 = .ok (.return_, 1) := by decide +kernel
theorem dX8_readsFeast_0 : decode cX8_readsFeast 0 = .ok (.aload_n 0, 1) := by decide +kernel
theorem dX8_readsFeast_1 : decode cX8_readsFeast 1 = .ok (.invokevirtual 196, 3) := by decide +kernel
theorem dX8_readsFeast_4 : decode cX8_readsFeast 4 = .ok (.istore_n 1, 1) := by decide +kernel
theorem dX8_readsFeast_5 : decode cX8_readsFeast 5 = .ok (.aload_n 0, 1) := by decide +kernel
theorem dX8_readsFeast_6 : decode cX8_readsFeast 6 = .ok (.getfield 13, 3) := by decide +kernel
theorem dX8_readsFeast_9 : decode cX8_readsFeast 9 = .ok (.bipush 6, 2) := by decide +kernel
theorem dX8_readsFeast_11 : decode cX8_readsFeast 11 = .ok (.iaload, 1) := by decide +kernel
theorem dX8_readsFeast_12 : decode cX8_readsFeast 12 = .ok (.bipush 12, 2) := by decide +kernel
theorem dX8_readsFeast_14 : decode cX8_readsFeast 14 = .ok (.if_icmp .ne 8, 3) := by decide +kernel
theorem dX8_readsFeast_17 : decode cX8_readsFeast 17 = .ok (.aload_n 0, 1) := by decide +kernel
theorem dX8_readsFeast_18 : decode cX8_readsFeast 18 = .ok (.iconst 3, 1) := by decide +kernel
theorem dX8_readsFeast_19 : decode cX8_readsFeast 19 = .ok (.invokevirtual 187, 3) := by decide +kernel
theorem dX8_readsFeast_22 : decode cX8_readsFeast 22 = .ok (.aload_n 0, 1) := by decide +kernel
theorem dX8_readsFeast_23 : decode cX8_readsFeast 23 = .ok (.invokevirtual 190, 3) := by decide +kernel
theorem dX8_readsFeast_26 : decode cX8_readsFeast 26 = .ok (.aload_n 0, 1) := by decide +kernel
theorem dX8_readsFeast_27 : decode cX8_readsFeast 27 = .ok (.iload_n 1, 1) := by decide +kernel
theorem dX8_readsFeast_28 : decode cX8_readsFeast 28 = .ok (.iconst 2, 1) := by decide +kernel
theorem dX8_readsFeast_29 : decode cX8_readsFeast 29 = .ok (.if_icmp .ge 7, 3) := by decide +kernel
theorem dX8_readsFeast_32 : decode cX8_readsFeast 32 = .ok (.iconst 0, 1) := by decide +kernel
theorem dX8_readsFeast_33 : decode cX8_readsFeast 33 = .ok (.goto 4, 3) := by decide +kernel
theorem dX8_readsFeast_36 : decode cX8_readsFeast 36 = .ok (.iconst 1, 1) := by decide +kernel
theorem dX8_readsFeast_37 : decode cX8_readsFeast 37 = .ok (.iload_n 1, 1) := by decide +kernel
theorem dX8_readsFeast_38 : decode cX8_readsFeast 38 = .ok (.iconst 2, 1) := by decide +kernel
theorem dX8_readsFeast_39 : decode cX8_readsFeast 39 = .ok (.if_icmp .ge 8, 3) := by decide +kernel
theorem dX8_readsFeast_42 : decode cX8_readsFeast 42 = .ok (.bipush 99, 2) := by decide +kernel
theorem dX8_readsFeast_44 : decode cX8_readsFeast 44 = .ok (.goto 6, 3) := by decide +kernel
theorem dX8_readsFeast_47 : decode cX8_readsFeast 47 = .ok (.sipush 365, 3) := by decide +kernel
theorem dX8_readsFeast_50 : decode cX8_readsFeast 50 = .ok (.bipush 44, 2) := by decide +kernel
theorem dX8_readsFeast_52 : decode cX8_readsFeast 52 = .ok (.invokevirtual 199, 3) := by decide +kernel
theorem dX8_readsFeast_55 : decode cX8_readsFeast 55 = .ok (.istore_n 2, 1) := by decide +kernel
theorem dX8_readsFeast_56 : decode cX8_readsFeast 56 = .ok (.aload_n 0, 1) := by decide +kernel
theorem dX8_readsFeast_57 : decode cX8_readsFeast 57 = .ok (.iconst 1, 1) := by decide +kernel
theorem dX8_readsFeast_58 : decode cX8_readsFeast 58 = .ok (.iconst 5, 1) := by decide +kernel
theorem dX8_readsFeast_59 : decode cX8_readsFeast 59 = .ok (.bipush 44, 2) := by decide +kernel
theorem dX8_readsFeast_61 : decode cX8_readsFeast 61 = .ok (.invokevirtual 199, 3) := by decide +kernel
theorem dX8_readsFeast_64 : decode cX8_readsFeast 64 = .ok (.istore_n 3, 1) := by decide +kernel
theorem dX8_readsFeast_65 : decode cX8_readsFeast 65 = .ok (.aload_n 0, 1) := by decide +kernel
theorem dX8_readsFeast_66 : decode cX8_readsFeast 66 = .ok (.iconst 1, 1) := by decide +kernel
theorem dX8_readsFeast_67 : decode cX8_readsFeast 67 = .ok (.bipush 6, 2) := by decide +kernel
theorem dX8_readsFeast_69 : decode cX8_readsFeast 69 = .ok (.bipush 59, 2) := by decide +kernel
theorem dX8_readsFeast_71 : decode cX8_readsFeast 71 = .ok (.invokevirtual 199, 3) := by decide +kernel
theorem dX8_readsFeast_74 : decode cX8_readsFeast 74 = .ok (.istore 4, 2) := by decide +kernel
theorem dX8_readsFeast_76 : decode cX8_readsFeast 76 = .ok (.aload_n 0, 1) := by decide +kernel
theorem dX8_readsFeast_77 : decode cX8_readsFeast 77 = .ok (.getfield 178, 3) := by decide +kernel
theorem dX8_readsFeast_80 : decode cX8_readsFeast 80 = .ok (.ifCond .ne 15, 3) := by decide +kernel
theorem dX8_readsFeast_83 : decode cX8_readsFeast 83 = .ok (.aload_n 0, 1) := by decide +kernel
theorem dX8_readsFeast_84 : decode cX8_readsFeast 84 = .ok (.getfield 13, 3) := by decide +kernel
theorem dX8_readsFeast_87 : decode cX8_readsFeast 87 = .ok (.iload_n 1, 1) := by decide +kernel
theorem dX8_readsFeast_88 : decode cX8_readsFeast 88 = .ok (.iload_n 2, 1) := by decide +kernel
theorem dX8_readsFeast_89 : decode cX8_readsFeast 89 = .ok (.iload_n 3, 1) := by decide +kernel
theorem dX8_readsFeast_90 : decode cX8_readsFeast 90 = .ok (.iload 4, 2) := by decide +kernel
theorem dX8_readsFeast_92 : decode cX8_readsFeast 92 = .ok (.invokestatic 203, 3) := by decide +kernel
theorem dX8_readsFeast_95 : decode cX8_readsFeast 95 = .ok (.return_, 1) := by decide +kernel
theorem dX8_readsAll_0 : decode cX8_readsAll 0 = .ok (.aload_n 0, 1) := by decide +kernel
theorem dX8_readsAll_1 : decode cX8_readsAll 1 = .ok (.bipush 107, 2) := by decide +kernel
theorem dX8_readsAll_3 : decode cX8_readsAll 3 = .ok (.invokevirtual 211, 3) := by decide +kernel
theorem dX8_readsAll_6 : decode cX8_readsAll 6 = .ok (.aload_n 0, 1) := by decide +kernel
theorem dX8_readsAll_7 : decode cX8_readsAll 7 = .ok (.getfield 13, 3) := by decide +kernel
theorem dX8_readsAll_10 : decode cX8_readsAll 10 = .ok (.iconst 0, 1) := by decide +kernel
theorem dX8_readsAll_11 : decode cX8_readsAll 11 = .ok (.aload_n 0, 1) := by decide +kernel
theorem dX8_readsAll_12 : decode cX8_readsAll 12 = .ok (.iconst 0, 1) := by decide +kernel
theorem dX8_readsAll_13 : decode cX8_readsAll 13 = .ok (.iconst 2, 1) := by decide +kernel
theorem dX8_readsAll_14 : decode cX8_readsAll 14 = .ok (.bipush 44, 2) := by decide +kernel
theorem dX8_readsAll_16 : decode cX8_readsAll 16 = .ok (.invokevirtual 199, 3) := by decide +kernel
theorem dX8_readsAll_19 : decode cX8_readsAll 19 = .ok (.iastore, 1) := by decide +kernel
theorem dX8_readsAll_20 : decode cX8_readsAll 20 = .ok (.aload_n 0, 1) := by decide +kernel
theorem dX8_readsAll_21 : decode cX8_readsAll 21 = .ok (.getfield 13, 3) := by decide +kernel
theorem dX8_readsAll_24 : decode cX8_readsAll 24 = .ok (.iconst 1, 1) := by decide +kernel
theorem dX8_readsAll_25 : decode cX8_readsAll 25 = .ok (.aload_n 0, 1) := by decide +kernel
theorem dX8_readsAll_26 : decode cX8_readsAll 26 = .ok (.iconst 0, 1) := by decide +kernel
theorem dX8_readsAll_27 : decode cX8_readsAll 27 = .ok (.bipush 29, 2) := by decide +kernel
theorem dX8_readsAll_29 : decode cX8_readsAll 29 = .ok (.bipush 44, 2) := by decide +kernel
theorem dX8_readsAll_31 : decode cX8_readsAll 31 = .ok (.invokevirtual 199, 3) := by decide +kernel
theorem dX8_readsAll_34 : decode cX8_readsAll 34 = .ok (.iastore, 1) := by decide +kernel
theorem dX8_readsAll_35 : decode cX8_readsAll 35 = .ok (.aload_n 0, 1) := by decide +kernel
theorem dX8_readsAll_36 : decode cX8_readsAll 36 = .ok (.getfield 13, 3) := by decide +kernel
theorem dX8_readsAll_39 : decode cX8_readsAll 39 = .ok (.iconst 2, 1) := by decide +kernel
theorem dX8_readsAll_40 : decode cX8_readsAll 40 = .ok (.aload_n 0, 1) := by decide +kernel
theorem dX8_readsAll_41 : decode cX8_readsAll 41 = .ok (.iconst 0, 1) := by decide +kernel
theorem dX8_readsAll_42 : decode cX8_readsAll 42 = .ok (.bipush 6, 2) := by decide +kernel
theorem dX8_readsAll_44 : decode cX8_readsAll 44 = .ok (.bipush 59, 2) := by decide +kernel
theorem dX8_readsAll_46 : decode cX8_readsAll 46 = .ok (.invokevirtual 199, 3) := by decide +kernel
theorem dX8_readsAll_49 : decode cX8_readsAll 49 = .ok (.iastore, 1) := by decide +kernel
theorem dX8_readsAll_50 : decode cX8_readsAll 50 = .ok (.aload_n 0, 1) := by decide +kernel
theorem dX8_readsAll_51 : decode cX8_readsAll 51 = .ok (.invokevirtual 196, 3) := by decide +kernel
theorem dX8_readsAll_54 : decode cX8_readsAll 54 = .ok (.ldc 90, 2) := by decide +kernel
theorem dX8_readsAll_56 : decode cX8_readsAll 56 = .ok (.if_icmp .eq 10, 3) := by decide +kernel
theorem dX8_readsAll_59 : decode cX8_readsAll 59 = .ok (.aload_n 0, 1) := by decide +kernel
theorem dX8_readsAll_60 : decode cX8_readsAll 60 = .ok (.invokevirtual 214, 3) := by decide +kernel
theorem dX8_readsAll_63 : decode cX8_readsAll 63 = .ok (.goto (-13), 3) := by decide +kernel
theorem dX8_readsAll_66 : decode cX8_readsAll 66 = .ok (.aload_n 0, 1) := by decide +kernel
theorem dX8_readsAll_67 : decode cX8_readsAll 67 = .ok (.bipush 122, 2) := by decide +kernel
theorem dX8_readsAll_69 : decode cX8_readsAll 69 = .ok (.invokevirtual 193, 3) := by decide +kernel
theorem dX8_readsAll_72 : decode cX8_readsAll 72 = .ok (.ifCond .eq 10, 3) := by decide +kernel
theorem dX8_readsAll_75 : decode cX8_readsAll 75 = .ok (.aload_n 0, 1) := by decide +kernel
theorem dX8_readsAll_76 : decode cX8_readsAll 76 = .ok (.invokevirtual 217, 3) := by decide +kernel
theorem dX8_readsAll_79 : decode cX8_readsAll 79 = .ok (.goto (-13), 3) := by decide +kernel
theorem dX8_readsAll_82 : decode cX8_readsAll 82 = .ok (.aload_n 0, 1) := by decide +kernel
theorem dX8_readsAll_83 : decode cX8_readsAll 83 = .ok (.bipush 112, 2) := by decide +kernel
theorem dX8_readsAll_85 : decode cX8_readsAll 85 = .ok (.invokevirtual 211, 3) := by decide +kernel
theorem dX8_readsAll_88 : decode cX8_readsAll 88 = .ok (.aload_n 0, 1) := by decide +kernel
theorem dX8_readsAll_89 : decode cX8_readsAll 89 = .ok (.getfield 13, 3) := by decide +kernel
theorem dX8_readsAll_92 : decode cX8_readsAll 92 = .ok (.iconst 3, 1) := by decide +kernel
theorem dX8_readsAll_93 : decode cX8_readsAll 93 = .ok (.aload_n 0, 1) := by decide +kernel
theorem dX8_readsAll_94 : decode cX8_readsAll 94 = .ok (.bipush 10, 2) := by decide +kernel
theorem dX8_readsAll_96 : decode cX8_readsAll 96 = .ok (.sipush 150, 3) := by decide +kernel
theorem dX8_readsAll_99 : decode cX8_readsAll 99 = .ok (.bipush 44, 2) := by decide +kernel
theorem dX8_readsAll_101 : decode cX8_readsAll 101 = .ok (.invokevirtual 199, 3) := by decide +kernel
theorem dX8_readsAll_104 : decode cX8_readsAll 104 = .ok (.iastore, 1) := by decide +kernel
theorem dX8_readsAll_105 : decode cX8_readsAll 105 = .ok (.aload_n 0, 1) := by decide +kernel
theorem dX8_readsAll_106 : decode cX8_readsAll 106 = .ok (.getfield 13, 3) := by decide +kernel
theorem dX8_readsAll_109 : decode cX8_readsAll 109 = .ok (.iconst 4, 1) := by decide +kernel
theorem dX8_readsAll_110 : decode cX8_readsAll 110 = .ok (.aload_n 0, 1) := by decide +kernel
theorem dX8_readsAll_111 : decode cX8_readsAll 111 = .ok (.iconst 1, 1) := by decide +kernel
theorem dX8_readsAll_112 : decode cX8_readsAll 112 = .ok (.bipush 9, 2) := by decide +kernel
theorem dX8_readsAll_114 : decode cX8_readsAll 114 = .ok (.bipush 59, 2) := by decide +kernel
theorem dX8_readsAll_116 : decode cX8_readsAll 116 = .ok (.invokevirtual 199, 3) := by decide +kernel
theorem dX8_readsAll_119 : decode cX8_readsAll 119 = .ok (.iastore, 1) := by decide +kernel
theorem dX8_readsAll_120 : decode cX8_readsAll 120 = .ok (.aload_n 0, 1) := by decide +kernel
theorem dX8_readsAll_121 : decode cX8_readsAll 121 = .ok (.bipush 99, 2) := by decide +kernel
theorem dX8_readsAll_123 : decode cX8_readsAll 123 = .ok (.invokevirtual 211, 3) := by decide +kernel
theorem dX8_readsAll_126 : decode cX8_readsAll 126 = .ok (.aload_n 0, 1) := by decide +kernel
theorem dX8_readsAll_127 : decode cX8_readsAll 127 = .ok (.getfield 13, 3) := by decide +kernel
theorem dX8_readsAll_130 : decode cX8_readsAll 130 = .ok (.bipush 8, 2) := by decide +kernel
theorem dX8_readsAll_132 : decode cX8_readsAll 132 = .ok (.aload_n 0, 1) := by decide +kernel
theorem dX8_readsAll_133 : decode cX8_readsAll 133 = .ok (.iconst 2, 1) := by decide +kernel
theorem dX8_readsAll_134 : decode cX8_readsAll 134 = .ok (.iconst 5, 1) := by decide +kernel
theorem dX8_readsAll_135 : decode cX8_readsAll 135 = .ok (.bipush 44, 2) := by decide +kernel
theorem dX8_readsAll_137 : decode cX8_readsAll 137 = .ok (.invokevirtual 199, 3) := by decide +kernel
theorem dX8_readsAll_140 : decode cX8_readsAll 140 = .ok (.iastore, 1) := by decide +kernel
theorem dX8_readsAll_141 : decode cX8_readsAll 141 = .ok (.aload_n 0, 1) := by decide +kernel
theorem dX8_readsAll_142 : decode cX8_readsAll 142 = .ok (.getfield 13, 3) := by decide +kernel
theorem dX8_readsAll_145 : decode cX8_readsAll 145 = .ok (.iconst 5, 1) := by decide +kernel
theorem dX8_readsAll_146 : decode cX8_readsAll 146 = .ok (.aload_n 0, 1) := by decide +kernel
theorem dX8_readsAll_147 : decode cX8_readsAll 147 = .ok (.iconst 0, 1) := by decide +kernel
theorem dX8_readsAll_148 : decode cX8_readsAll 148 = .ok (.iconst 2, 1) := by decide +kernel
theorem dX8_readsAll_149 : decode cX8_readsAll 149 = .ok (.bipush 59, 2) := by decide +kernel
theorem dX8_readsAll_151 : decode cX8_readsAll 151 = .ok (.invokevirtual 199, 3) := by decide +kernel
theorem dX8_readsAll_154 : decode cX8_readsAll 154 = .ok (.iastore, 1) := by decide +kernel
theorem dX8_readsAll_155 : decode cX8_readsAll 155 = .ok (.aload_n 0, 1) := by decide +kernel
theorem dX8_readsAll_156 : decode cX8_readsAll 156 = .ok (.getfield 175, 3) := by decide +kernel
theorem dX8_readsAll_159 : decode cX8_readsAll 159 = .ok (.ifCond .eq 8, 3) := by decide +kernel
theorem dX8_readsAll_162 : decode cX8_readsAll 162 = .ok (.aload_n 0, 1) := by decide +kernel
theorem dX8_readsAll_163 : decode cX8_readsAll 163 = .ok (.iconst 1, 1) := by decide +kernel
theorem dX8_readsAll_164 : decode cX8_readsAll 164 = .ok (.invokevirtual 187, 3) := by decide +kernel
theorem dX8_readsAll_167 : decode cX8_readsAll 167 = .ok (.return_, 1) := by decide +kernel
theorem dX8_copies_0 : decode cX8_copies 0 = .ok (.iconst 0, 1) := by decide +kernel
theorem dX8_copies_1 : decode cX8_copies 1 = .ok (.istore 4, 2) := by decide +kernel
theorem dX8_copies_3 : decode cX8_copies 3 = .ok (.iload 4, 2) := by decide +kernel
theorem dX8_copies_5 : decode cX8_copies 5 = .ok (.bipush 79, 2) := by decide +kernel
theorem dX8_copies_7 : decode cX8_copies 7 = .ok (.if_icmp .ge 21, 3) := by decide +kernel
