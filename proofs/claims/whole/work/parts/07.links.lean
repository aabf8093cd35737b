theorem in_X0 : ∀ w ∈ wsX00, w ∈ fr_tb := fr_inl [270, 272, 274, 276, 278] (by decide +kernel) (by decide +kernel)
theorem in_X1 : ∀ w ∈ wsX10, w ∈ fr_tb := fr_inl [153, 155, 157, 159, 161, 163, 165, 167, 169, 171, 173] (by decide +kernel) (by decide +kernel)
theorem in_X2 : ∀ w ∈ wsX20, w ∈ fr_tb := fr_inl [193, 195, 197, 199] (by decide +kernel) (by decide +kernel)
theorem in_X3 : ∀ w ∈ wsX30, w ∈ fr_tb := fr_inl [216, 218, 220, 222, 224, 226] (by decide +kernel) (by decide +kernel)
theorem in_X4 : ∀ w ∈ wsX40, w ∈ fr_tb := fr_inl [245, 247, 249, 251, 253, 255] (by decide +kernel) (by decide +kernel)
theorem in_X5 : ∀ w ∈ wsX50, w ∈ fr_tb := fr_inl [298, 300, 302, 304, 306, 308, 310, 312] (by decide +kernel) (by decide +kernel)
theorem in_X6 : ∀ w ∈ wsX60, w ∈ fr_tb := fr_inl [105, 107] (by decide +kernel) (by decide +kernel)
theorem in_X7 : ∀ w ∈ wsX70, w ∈ fr_tb := fr_inl [323, 325, 327, 329, 331, 333, 335, 337] (by decide +kernel) (by decide +kernel)
theorem in_X8 : ∀ w ∈ wsX80, w ∈ fr_tb := fr_inl [811, 813, 815, 817, 819, 821, 823, 825, 827, 829, 831, 833, 835, 837, 839, 841, 843, 845, 847, 849, 851, 853, 855, 857, 859, 861, 863] (by decide +kernel) (by decide +kernel)
theorem faRX0_11 : fr_fa RX0 11 0 0 := ⟨RX0, TX0, 5, rfl, by decide, fr_in (i := 264) (by decide +kernel) rfl, in_X0, rfl⟩
theorem faRX0_15 : fr_fa RX0 15 0 1 := ⟨RX0, TX0, 5, rfl, by decide, fr_in (i := 265) (by decide +kernel) rfl, in_X0, rfl⟩
theorem faRX0_18 : fr_fa RX0 18 0 2 := ⟨RX0, TX0, 5, rfl, by decide, fr_in (i := 266) (by decide +kernel) rfl, in_X0, rfl⟩
theorem faRX0_21 : fr_fa RX0 21 0 3 := ⟨RX0, TX0, 5, rfl, by decide, fr_in (i := 267) (by decide +kernel) rfl, in_X0, rfl⟩
theorem faRX0_24 : fr_fa RX0 24 0 4 := ⟨RX0, TX0, 5, rfl, by decide, fr_in (i := 268) (by decide +kernel) rfl, in_X0, rfl⟩
theorem faRX0_37 : fr_fa RX0 37 1 1 := ⟨RX1, TX1, 11, rfl, by decide, fr_in (i := 122) (by decide +kernel) rfl, in_X1, rfl⟩
theorem faRX0_52 : fr_fa RX0 52 1 5 := ⟨RX1, TX1, 11, rfl, by decide, fr_in (i := 139) (by decide +kernel) rfl, in_X1, rfl⟩
theorem faRX0_55 : fr_fa RX0 55 1 4 := ⟨RX1, TX1, 11, rfl, by decide, fr_in (i := 134) (by decide +kernel) rfl, in_X1, rfl⟩
theorem faRX0_58 : fr_fa RX0 58 1 9 := ⟨RX1, TX1, 11, rfl, by decide, fr_in (i := 148) (by decide +kernel) rfl, in_X1, rfl⟩
theorem faRX0_61 : fr_fa RX0 61 1 10 := ⟨RX1, TX1, 11, rfl, by decide, fr_in (i := 151) (by decide +kernel) rfl, in_X1, rfl⟩
theorem faRX1_9 : fr_fa RX1 9 1 4 := ⟨RX1, TX1, 11, rfl, by decide, fr_in (i := 132) (by decide +kernel) rfl, in_X1, rfl⟩
theorem faRX1_15 : fr_fa RX1 15 1 5 := ⟨RX1, TX1, 11, rfl, by decide, fr_in (i := 138) (by decide +kernel) rfl, in_X1, rfl⟩
theorem faRX1_18 : fr_fa RX1 18 1 6 := ⟨RX1, TX1, 11, rfl, by decide, fr_in (i := 141) (by decide +kernel) rfl, in_X1, rfl⟩
theorem faRX1_21 : fr_fa RX1 21 1 7 := ⟨RX1, TX1, 11, rfl, by decide, fr_in (i := 143) (by decide +kernel) rfl, in_X1, rfl⟩
theorem faRX1_24 : fr_fa RX1 24 1 8 := ⟨RX1, TX1, 11, rfl, by decide, fr_in (i := 145) (by decide +kernel) rfl, in_X1, rfl⟩
theorem faRX1_27 : fr_fa RX1 27 1 9 := ⟨RX1, TX1, 11, rfl, by decide, fr_in (i := 147) (by decide +kernel) rfl, in_X1, rfl⟩
theorem faRX1_30 : fr_fa RX1 30 1 10 := ⟨RX1, TX1, 11, rfl, by decide, fr_in (i := 150) (by decide +kernel) rfl, in_X1, rfl⟩
theorem faRX1_48 : fr_fa RX1 48 1 1 := ⟨RX1, TX1, 11, rfl, by decide, fr_in (i := 123) (by decide +kernel) rfl, in_X1, rfl⟩
theorem faRX1_52 : fr_fa RX1 52 1 2 := ⟨RX1, TX1, 11, rfl, by decide, fr_in (i := 124) (by decide +kernel) rfl, in_X1, rfl⟩
theorem faRX1_55 : fr_fa RX1 55 1 3 := ⟨RX1, TX1, 11, rfl, by decide, fr_in (i := 129) (by decide +kernel) rfl, in_X1, rfl⟩
theorem faRX2_11 : fr_fa RX2 11 1 4 := ⟨RX1, TX1, 11, rfl, by decide, fr_in (i := 133) (by decide +kernel) rfl, in_X1, rfl⟩
theorem faRX2_21 : fr_fa RX2 21 2 0 := ⟨RX2, TX2, 4, rfl, by decide, fr_in (i := 184) (by decide +kernel) rfl, in_X2, rfl⟩
theorem faRX2_28 : fr_fa RX2 28 2 1 := ⟨RX2, TX2, 4, rfl, by decide, fr_in (i := 187) (by decide +kernel) rfl, in_X2, rfl⟩
theorem faRX2_35 : fr_fa RX2 35 2 2 := ⟨RX2, TX2, 4, rfl, by decide, fr_in (i := 189) (by decide +kernel) rfl, in_X2, rfl⟩
theorem faRX2_41 : fr_fa RX2 41 2 3 := ⟨RX2, TX2, 4, rfl, by decide, fr_in (i := 191) (by decide +kernel) rfl, in_X2, rfl⟩
theorem faRX3_9 : fr_fa RX3 9 3 0 := ⟨RX3, TX3, 6, rfl, by decide, fr_in (i := 206) (by decide +kernel) rfl, in_X3, rfl⟩
theorem faRX3_15 : fr_fa RX3 15 3 1 := ⟨RX3, TX3, 6, rfl, by decide, fr_in (i := 207) (by decide +kernel) rfl, in_X3, rfl⟩
theorem faRX3_19 : fr_fa RX3 19 3 2 := ⟨RX3, TX3, 6, rfl, by decide, fr_in (i := 209) (by decide +kernel) rfl, in_X3, rfl⟩
theorem faRX3_23 : fr_fa RX3 23 3 3 := ⟨RX3, TX3, 6, rfl, by decide, fr_in (i := 211) (by decide +kernel) rfl, in_X3, rfl⟩
theorem faRX3_26 : fr_fa RX3 26 3 4 := ⟨RX3, TX3, 6, rfl, by decide, fr_in (i := 213) (by decide +kernel) rfl, in_X3, rfl⟩
theorem faRX3_29 : fr_fa RX3 29 3 5 := ⟨RX3, TX3, 6, rfl, by decide, fr_in (i := 215) (by decide +kernel) rfl, in_X3, rfl⟩
theorem faRX3_44 : fr_fa RX3 44 1 1 := ⟨RX1, TX1, 11, rfl, by decide, fr_in (i := 119) (by decide +kernel) rfl, in_X1, rfl⟩
theorem faRX3_80 : fr_fa RX3 80 2 0 := ⟨RX2, TX2, 4, rfl, by decide, fr_in (i := 185) (by decide +kernel) rfl, in_X2, rfl⟩
theorem faRX3_98 : fr_fa RX3 98 1 2 := ⟨RX1, TX1, 11, rfl, by decide, fr_in (i := 126) (by decide +kernel) rfl, in_X1, rfl⟩
theorem faRX3_101 : fr_fa RX3 101 1 6 := ⟨RX1, TX1, 11, rfl, by decide, fr_in (i := 142) (by decide +kernel) rfl, in_X1, rfl⟩
theorem faRX3_104 : fr_fa RX3 104 1 7 := ⟨RX1, TX1, 11, rfl, by decide, fr_in (i := 144) (by decide +kernel) rfl, in_X1, rfl⟩
theorem faRX3_110 : fr_fa RX3 110 1 8 := ⟨RX1, TX1, 11, rfl, by decide, fr_in (i := 146) (by decide +kernel) rfl, in_X1, rfl⟩
theorem faRX3_131 : fr_fa RX3 131 1 4 := ⟨RX1, TX1, 11, rfl, by decide, fr_in (i := 137) (by decide +kernel) rfl, in_X1, rfl⟩
theorem faRX4_9 : fr_fa RX4 9 4 0 := ⟨RX4, TX4, 6, rfl, by decide, fr_in (i := 236) (by decide +kernel) rfl, in_X4, rfl⟩
theorem faRX4_15 : fr_fa RX4 15 4 1 := ⟨RX4, TX4, 6, rfl, by decide, fr_in (i := 237) (by decide +kernel) rfl, in_X4, rfl⟩
theorem faRX4_19 : fr_fa RX4 19 4 2 := ⟨RX4, TX4, 6, rfl, by decide, fr_in (i := 239) (by decide +kernel) rfl, in_X4, rfl⟩
theorem faRX4_70 : fr_fa RX4 70 1 1 := ⟨RX1, TX1, 11, rfl, by decide, fr_in (i := 121) (by decide +kernel) rfl, in_X1, rfl⟩
theorem faRX4_88 : fr_fa RX4 88 4 3 := ⟨RX4, TX4, 6, rfl, by decide, fr_in (i := 240) (by decide +kernel) rfl, in_X4, rfl⟩
theorem faRX4_95 : fr_fa RX4 95 1 2 := ⟨RX1, TX1, 11, rfl, by decide, fr_in (i := 125) (by decide +kernel) rfl, in_X1, rfl⟩
theorem faRX4_109 : fr_fa RX4 109 6 1 := ⟨RX6, TX6, 2, rfl, by decide, fr_in (i := 104) (by decide +kernel) rfl, in_X6, rfl⟩
theorem faRX4_122 : fr_fa RX4 122 1 4 := ⟨RX1, TX1, 11, rfl, by decide, fr_in (i := 136) (by decide +kernel) rfl, in_X1, rfl⟩
theorem faRX5_9 : fr_fa RX5 9 5 0 := ⟨RX5, TX5, 8, rfl, by decide, fr_in (i := 287) (by decide +kernel) rfl, in_X5, rfl⟩
theorem faRX5_15 : fr_fa RX5 15 5 1 := ⟨RX5, TX5, 8, rfl, by decide, fr_in (i := 288) (by decide +kernel) rfl, in_X5, rfl⟩
theorem faRX5_19 : fr_fa RX5 19 5 2 := ⟨RX5, TX5, 8, rfl, by decide, fr_in (i := 289) (by decide +kernel) rfl, in_X5, rfl⟩
theorem faRX5_23 : fr_fa RX5 23 5 3 := ⟨RX5, TX5, 8, rfl, by decide, fr_in (i := 291) (by decide +kernel) rfl, in_X5, rfl⟩
theorem faRX5_26 : fr_fa RX5 26 5 4 := ⟨RX5, TX5, 8, rfl, by decide, fr_in (i := 292) (by decide +kernel) rfl, in_X5, rfl⟩
theorem faRX5_35 : fr_fa RX5 35 5 5 := ⟨RX5, TX5, 8, rfl, by decide, fr_in (i := 294) (by decide +kernel) rfl, in_X5, rfl⟩
theorem faRX5_39 : fr_fa RX5 39 5 6 := ⟨RX5, TX5, 8, rfl, by decide, fr_in (i := 295) (by decide +kernel) rfl, in_X5, rfl⟩
theorem faRX5_46 : fr_fa RX5 46 5 7 := ⟨RX5, TX5, 8, rfl, by decide, fr_in (i := 297) (by decide +kernel) rfl, in_X5, rfl⟩
theorem faRX5_69 : fr_fa RX5 69 1 3 := ⟨RX1, TX1, 11, rfl, by decide, fr_in (i := 128) (by decide +kernel) rfl, in_X1, rfl⟩
theorem faRX6_11 : fr_fa RX6 11 6 0 := ⟨RX6, TX6, 2, rfl, by decide, fr_in (i := 101) (by decide +kernel) rfl, in_X6, rfl⟩
theorem faRX6_15 : fr_fa RX6 15 6 1 := ⟨RX6, TX6, 2, rfl, by decide, fr_in (i := 102) (by decide +kernel) rfl, in_X6, rfl⟩
theorem faRX7_23 : fr_fa RX7 23 7 0 := ⟨RX7, TX7, 8, rfl, by decide, fr_in (i := 315) (by decide +kernel) rfl, in_X7, rfl⟩
theorem faRX7_32 : fr_fa RX7 32 7 1 := ⟨RX7, TX7, 8, rfl, by decide, fr_in (i := 316) (by decide +kernel) rfl, in_X7, rfl⟩
theorem faRX7_36 : fr_fa RX7 36 7 2 := ⟨RX7, TX7, 8, rfl, by decide, fr_in (i := 317) (by decide +kernel) rfl, in_X7, rfl⟩
theorem faRX7_40 : fr_fa RX7 40 7 3 := ⟨RX7, TX7, 8, rfl, by decide, fr_in (i := 318) (by decide +kernel) rfl, in_X7, rfl⟩
theorem faRX7_47 : fr_fa RX7 47 7 4 := ⟨RX7, TX7, 8, rfl, by decide, fr_in (i := 319) (by decide +kernel) rfl, in_X7, rfl⟩
theorem faRX7_51 : fr_fa RX7 51 7 5 := ⟨RX7, TX7, 8, rfl, by decide, fr_in (i := 320) (by decide +kernel) rfl, in_X7, rfl⟩
theorem faRX7_60 : fr_fa RX7 60 7 6 := ⟨RX7, TX7, 8, rfl, by decide, fr_in (i := 321) (by decide +kernel) rfl, in_X7, rfl⟩
theorem faRX7_64 : fr_fa RX7 64 7 7 := ⟨RX7, TX7, 8, rfl, by decide, fr_in (i := 322) (by decide +kernel) rfl, in_X7, rfl⟩
theorem faRX7_77 : fr_fa RX7 77 6 1 := ⟨RX6, TX6, 2, rfl, by decide, fr_in (i := 103) (by decide +kernel) rfl, in_X6, rfl⟩
theorem faRX7_85 : fr_fa RX7 85 4 4 := ⟨RX4, TX4, 6, rfl, by decide, fr_in (i := 242) (by decide +kernel) rfl, in_X4, rfl⟩
theorem faRX7_89 : fr_fa RX7 89 4 5 := ⟨RX4, TX4, 6, rfl, by decide, fr_in (i := 244) (by decide +kernel) rfl, in_X4, rfl⟩
theorem faRX7_92 : fr_fa RX7 92 4 1 := ⟨RX4, TX4, 6, rfl, by decide, fr_in (i := 238) (by decide +kernel) rfl, in_X4, rfl⟩
theorem faRX7_99 : fr_fa RX7 99 0 4 := ⟨RX0, TX0, 5, rfl, by decide, fr_in (i := 269) (by decide +kernel) rfl, in_X0, rfl⟩
theorem faRX7_102 : fr_fa RX7 102 1 1 := ⟨RX1, TX1, 11, rfl, by decide, fr_in (i := 120) (by decide +kernel) rfl, in_X1, rfl⟩
theorem faRX7_124 : fr_fa RX7 124 1 5 := ⟨RX1, TX1, 11, rfl, by decide, fr_in (i := 140) (by decide +kernel) rfl, in_X1, rfl⟩
theorem faRX7_128 : fr_fa RX7 128 1 0 := ⟨RX1, TX1, 11, rfl, by decide, fr_in (i := 118) (by decide +kernel) rfl, in_X1, rfl⟩
theorem faRX7_141 : fr_fa RX7 141 1 4 := ⟨RX1, TX1, 11, rfl, by decide, fr_in (i := 135) (by decide +kernel) rfl, in_X1, rfl⟩
theorem faRX7_147 : fr_fa RX7 147 1 9 := ⟨RX1, TX1, 11, rfl, by decide, fr_in (i := 149) (by decide +kernel) rfl, in_X1, rfl⟩
theorem faRX7_150 : fr_fa RX7 150 1 10 := ⟨RX1, TX1, 11, rfl, by decide, fr_in (i := 152) (by decide +kernel) rfl, in_X1, rfl⟩
theorem faRX7_160 : fr_fa RX7 160 3 1 := ⟨RX3, TX3, 6, rfl, by decide, fr_in (i := 208) (by decide +kernel) rfl, in_X3, rfl⟩
theorem faRX7_164 : fr_fa RX7 164 2 0 := ⟨RX2, TX2, 4, rfl, by decide, fr_in (i := 186) (by decide +kernel) rfl, in_X2, rfl⟩
theorem faRX7_167 : fr_fa RX7 167 2 1 := ⟨RX2, TX2, 4, rfl, by decide, fr_in (i := 188) (by decide +kernel) rfl, in_X2, rfl⟩
theorem faRX7_170 : fr_fa RX7 170 2 2 := ⟨RX2, TX2, 4, rfl, by decide, fr_in (i := 190) (by decide +kernel) rfl, in_X2, rfl⟩
theorem faRX7_173 : fr_fa RX7 173 2 3 := ⟨RX2, TX2, 4, rfl, by decide, fr_in (i := 192) (by decide +kernel) rfl, in_X2, rfl⟩
theorem faRX7_190 : fr_fa RX7 190 5 6 := ⟨RX5, TX5, 8, rfl, by decide, fr_in (i := 296) (by decide +kernel) rfl, in_X5, rfl⟩
theorem faRX7_216 : fr_fa RX7 216 3 3 := ⟨RX3, TX3, 6, rfl, by decide, fr_in (i := 212) (by decide +kernel) rfl, in_X3, rfl⟩
theorem faRX7_219 : fr_fa RX7 219 3 2 := ⟨RX3, TX3, 6, rfl, by decide, fr_in (i := 210) (by decide +kernel) rfl, in_X3, rfl⟩
theorem faRX7_222 : fr_fa RX7 222 3 4 := ⟨RX3, TX3, 6, rfl, by decide, fr_in (i := 214) (by decide +kernel) rfl, in_X3, rfl⟩
theorem faRX7_240 : fr_fa RX7 240 5 4 := ⟨RX5, TX5, 8, rfl, by decide, fr_in (i := 293) (by decide +kernel) rfl, in_X5, rfl⟩
theorem faRX7_243 : fr_fa RX7 243 5 2 := ⟨RX5, TX5, 8, rfl, by decide, fr_in (i := 290) (by decide +kernel) rfl, in_X5, rfl⟩
theorem faRX7_268 : fr_fa RX7 268 1 2 := ⟨RX1, TX1, 11, rfl, by decide, fr_in (i := 127) (by decide +kernel) rfl, in_X1, rfl⟩
theorem faRX7_271 : fr_fa RX7 271 1 3 := ⟨RX1, TX1, 11, rfl, by decide, fr_in (i := 131) (by decide +kernel) rfl, in_X1, rfl⟩
theorem faRX8_7 : fr_fa RX8 7 8 0 := ⟨RX8, TX8, 27, rfl, by decide, fr_in (i := 784) (by decide +kernel) rfl, in_X8, rfl⟩
theorem faRX8_13 : fr_fa RX8 13 8 1 := ⟨RX8, TX8, 27, rfl, by decide, fr_in (i := 785) (by decide +kernel) rfl, in_X8, rfl⟩
theorem faRX8_16 : fr_fa RX8 16 8 2 := ⟨RX8, TX8, 27, rfl, by decide, fr_in (i := 786) (by decide +kernel) rfl, in_X8, rfl⟩
theorem faRX8_19 : fr_fa RX8 19 8 4 := ⟨RX8, TX8, 27, rfl, by decide, fr_in (i := 788) (by decide +kernel) rfl, in_X8, rfl⟩
theorem faRX8_22 : fr_fa RX8 22 8 5 := ⟨RX8, TX8, 27, rfl, by decide, fr_in (i := 789) (by decide +kernel) rfl, in_X8, rfl⟩
theorem faRX8_26 : fr_fa RX8 26 8 6 := ⟨RX8, TX8, 27, rfl, by decide, fr_in (i := 790) (by decide +kernel) rfl, in_X8, rfl⟩
theorem faRX8_29 : fr_fa RX8 29 8 15 := ⟨RX8, TX8, 27, rfl, by decide, fr_in (i := 799) (by decide +kernel) rfl, in_X8, rfl⟩
theorem faRX8_32 : fr_fa RX8 32 8 16 := ⟨RX8, TX8, 27, rfl, by decide, fr_in (i := 800) (by decide +kernel) rfl, in_X8, rfl⟩
theorem faRX8_35 : fr_fa RX8 35 8 17 := ⟨RX8, TX8, 27, rfl, by decide, fr_in (i := 801) (by decide +kernel) rfl, in_X8, rfl⟩
theorem faRX8_38 : fr_fa RX8 38 8 18 := ⟨RX8, TX8, 27, rfl, by decide, fr_in (i := 802) (by decide +kernel) rfl, in_X8, rfl⟩
theorem faRX8_41 : fr_fa RX8 41 8 19 := ⟨RX8, TX8, 27, rfl, by decide, fr_in (i := 803) (by decide +kernel) rfl, in_X8, rfl⟩
theorem faRX8_44 : fr_fa RX8 44 8 22 := ⟨RX8, TX8, 27, rfl, by decide, fr_in (i := 806) (by decide +kernel) rfl, in_X8, rfl⟩
theorem faRX8_47 : fr_fa RX8 47 8 23 := ⟨RX8, TX8, 27, rfl, by decide, fr_in (i := 807) (by decide +kernel) rfl, in_X8, rfl⟩
theorem faRX8_50 : fr_fa RX8 50 8 24 := ⟨RX8, TX8, 27, rfl, by decide, fr_in (i := 808) (by decide +kernel) rfl, in_X8, rfl⟩
theorem faRX8_63 : fr_fa RX8 63 8 21 := ⟨RX8, TX8, 27, rfl, by decide, fr_in (i := 805) (by decide +kernel) rfl, in_X8, rfl⟩
theorem faRX8_71 : fr_fa RX8 71 8 20 := ⟨RX8, TX8, 27, rfl, by decide, fr_in (i := 804) (by decide +kernel) rfl, in_X8, rfl⟩
theorem faRX8_135 : fr_fa RX8 135 8 25 := ⟨RX8, TX8, 27, rfl, by decide, fr_in (i := 809) (by decide +kernel) rfl, in_X8, rfl⟩
theorem faRX8_138 : fr_fa RX8 138 8 26 := ⟨RX8, TX8, 27, rfl, by decide, fr_in (i := 810) (by decide +kernel) rfl, in_X8, rfl⟩
theorem faRX8_152 : fr_fa RX8 152 8 7 := ⟨RX8, TX8, 27, rfl, by decide, fr_in (i := 791) (by decide +kernel) rfl, in_X8, rfl⟩
theorem faRX8_155 : fr_fa RX8 155 8 8 := ⟨RX8, TX8, 27, rfl, by decide, fr_in (i := 792) (by decide +kernel) rfl, in_X8, rfl⟩
theorem faRX8_158 : fr_fa RX8 158 8 9 := ⟨RX8, TX8, 27, rfl, by decide, fr_in (i := 793) (by decide +kernel) rfl, in_X8, rfl⟩
theorem faRX8_164 : fr_fa RX8 164 8 11 := ⟨RX8, TX8, 27, rfl, by decide, fr_in (i := 795) (by decide +kernel) rfl, in_X8, rfl⟩
theorem faRX8_175 : fr_fa RX8 175 8 10 := ⟨RX8, TX8, 27, rfl, by decide, fr_in (i := 794) (by decide +kernel) rfl, in_X8, rfl⟩
theorem faRX8_178 : fr_fa RX8 178 8 12 := ⟨RX8, TX8, 27, rfl, by decide, fr_in (i := 796) (by decide +kernel) rfl, in_X8, rfl⟩
theorem faRX8_181 : fr_fa RX8 181 8 13 := ⟨RX8, TX8, 27, rfl, by decide, fr_in (i := 797) (by decide +kernel) rfl, in_X8, rfl⟩
theorem faRX8_227 : fr_fa RX8 227 8 14 := ⟨RX8, TX8, 27, rfl, by decide, fr_in (i := 798) (by decide +kernel) rfl, in_X8, rfl⟩
theorem faRX8_235 : fr_fa RX8 235 8 3 := ⟨RX8, TX8, 27, rfl, by decide, fr_in (i := 787) (by decide +kernel) rfl, in_X8, rfl⟩
theorem fpRX0_24 : fr_fp RX0 24 0 4 .int := ⟨RX0, TX0, 5, tyX0, rfl, by decide, fr_in (i := 268) (by decide +kernel) rfl, in_X0, rfl, rfl, tyX0_ok, nmX0, rfl⟩
theorem fpRX0_37 : fr_fp RX0 37 1 1 .int := ⟨RX1, TX1, 11, tyX1, rfl, by decide, fr_in (i := 122) (by decide +kernel) rfl, in_X1, rfl, rfl, tyX1_ok, nmX1, rfl⟩
theorem fpRX1_44 : fr_fp RX1 44 1 0 .boolean := ⟨RX1, TX1, 11, tyX1, rfl, by decide, fr_in (i := 117) (by decide +kernel) rfl, in_X1, rfl, rfl, tyX1_ok, nmX1, rfl⟩
theorem fpRX1_48 : fr_fp RX1 48 1 1 .int := ⟨RX1, TX1, 11, tyX1, rfl, by decide, fr_in (i := 123) (by decide +kernel) rfl, in_X1, rfl, rfl, tyX1_ok, nmX1, rfl⟩
theorem fpRX1_52 : fr_fp RX1 52 1 2 .int := ⟨RX1, TX1, 11, tyX1, rfl, by decide, fr_in (i := 124) (by decide +kernel) rfl, in_X1, rfl, rfl, tyX1_ok, nmX1, rfl⟩
theorem fpRX1_55 : fr_fp RX1 55 1 3 .int := ⟨RX1, TX1, 11, tyX1, rfl, by decide, fr_in (i := 129) (by decide +kernel) rfl, in_X1, rfl, rfl, tyX1_ok, nmX1, rfl⟩
theorem fpRX2_21 : fr_fp RX2 21 2 0 .int := ⟨RX2, TX2, 4, tyX2, rfl, by decide, fr_in (i := 184) (by decide +kernel) rfl, in_X2, rfl, rfl, tyX2_ok, nmX2, rfl⟩
theorem fpRX2_28 : fr_fp RX2 28 2 1 .int := ⟨RX2, TX2, 4, tyX2, rfl, by decide, fr_in (i := 187) (by decide +kernel) rfl, in_X2, rfl, rfl, tyX2_ok, nmX2, rfl⟩
theorem fpRX2_35 : fr_fp RX2 35 2 2 .int := ⟨RX2, TX2, 4, tyX2, rfl, by decide, fr_in (i := 189) (by decide +kernel) rfl, in_X2, rfl, rfl, tyX2_ok, nmX2, rfl⟩
theorem fpRX2_41 : fr_fp RX2 41 2 3 .int := ⟨RX2, TX2, 4, tyX2, rfl, by decide, fr_in (i := 191) (by decide +kernel) rfl, in_X2, rfl, rfl, tyX2_ok, nmX2, rfl⟩
theorem fpRX4_19 : fr_fp RX4 19 4 2 .int := ⟨RX4, TX4, 6, tyX4, rfl, by decide, fr_in (i := 239) (by decide +kernel) rfl, in_X4, rfl, rfl, tyX4_ok, nmX4, rfl⟩
theorem fpRX4_23 : fr_fp RX4 23 4 4 .int := ⟨RX4, TX4, 6, tyX4, rfl, by decide, fr_in (i := 241) (by decide +kernel) rfl, in_X4, rfl, rfl, tyX4_ok, nmX4, rfl⟩
theorem fpRX4_26 : fr_fp RX4 26 4 5 .int := ⟨RX4, TX4, 6, tyX4, rfl, by decide, fr_in (i := 243) (by decide +kernel) rfl, in_X4, rfl, rfl, tyX4_ok, nmX4, rfl⟩
theorem fpRX4_88 : fr_fp RX4 88 4 3 .int := ⟨RX4, TX4, 6, tyX4, rfl, by decide, fr_in (i := 240) (by decide +kernel) rfl, in_X4, rfl, rfl, tyX4_ok, nmX4, rfl⟩
theorem fpRX4_107 : fr_fp RX4 107 1 3 .int := ⟨RX1, TX1, 11, tyX1, rfl, by decide, fr_in (i := 130) (by decide +kernel) rfl, in_X1, rfl, rfl, tyX1_ok, nmX1, rfl⟩
theorem fpRX5_35 : fr_fp RX5 35 5 5 .int := ⟨RX5, TX5, 8, tyX5, rfl, by decide, fr_in (i := 294) (by decide +kernel) rfl, in_X5, rfl, rfl, tyX5_ok, nmX5, rfl⟩
theorem fpRX5_39 : fr_fp RX5 39 5 6 .int := ⟨RX5, TX5, 8, tyX5, rfl, by decide, fr_in (i := 295) (by decide +kernel) rfl, in_X5, rfl, rfl, tyX5_ok, nmX5, rfl⟩
theorem fpRX5_46 : fr_fp RX5 46 5 7 .int := ⟨RX5, TX5, 8, tyX5, rfl, by decide, fr_in (i := 297) (by decide +kernel) rfl, in_X5, rfl, rfl, tyX5_ok, nmX5, rfl⟩
theorem fpRX6_15 : fr_fp RX6 15 6 1 .int := ⟨RX6, TX6, 2, tyX6, rfl, by decide, fr_in (i := 102) (by decide +kernel) rfl, in_X6, rfl, rfl, tyX6_ok, nmX6, rfl⟩
theorem fpRX7_64 : fr_fp RX7 64 7 7 .int := ⟨RX7, TX7, 8, tyX7, rfl, by decide, fr_in (i := 322) (by decide +kernel) rfl, in_X7, rfl, rfl, tyX7_ok, nmX7, rfl⟩
theorem fpRX7_77 : fr_fp RX7 77 6 1 .int := ⟨RX6, TX6, 2, tyX6, rfl, by decide, fr_in (i := 103) (by decide +kernel) rfl, in_X6, rfl, rfl, tyX6_ok, nmX6, rfl⟩
theorem fpRX7_99 : fr_fp RX7 99 0 4 .int := ⟨RX0, TX0, 5, tyX0, rfl, by decide, fr_in (i := 269) (by decide +kernel) rfl, in_X0, rfl, rfl, tyX0_ok, nmX0, rfl⟩
theorem fpRX8_63 : fr_fp RX8 63 8 21 .int := ⟨RX8, TX8, 27, tyX8, rfl, by decide, fr_in (i := 805) (by decide +kernel) rfl, in_X8, rfl, rfl, tyX8_ok, nmX8, rfl⟩
theorem fpRX8_71 : fr_fp RX8 71 8 20 .int := ⟨RX8, TX8, 27, tyX8, rfl, by decide, fr_in (i := 804) (by decide +kernel) rfl, in_X8, rfl, rfl, tyX8_ok, nmX8, rfl⟩
theorem fpRX8_135 : fr_fp RX8 135 8 25 .int := ⟨RX8, TX8, 27, tyX8, rfl, by decide, fr_in (i := 809) (by decide +kernel) rfl, in_X8, rfl, rfl, tyX8_ok, nmX8, rfl⟩
theorem fpRX8_138 : fr_fp RX8 138 8 26 .int := ⟨RX8, TX8, 27, tyX8, rfl, by decide, fr_in (i := 810) (by decide +kernel) rfl, in_X8, rfl, rfl, tyX8_ok, nmX8, rfl⟩
theorem fpRX8_152 : fr_fp RX8 152 8 7 .int := ⟨RX8, TX8, 27, tyX8, rfl, by decide, fr_in (i := 791) (by decide +kernel) rfl, in_X8, rfl, rfl, tyX8_ok, nmX8, rfl⟩
theorem fpRX8_155 : fr_fp RX8 155 8 8 .int := ⟨RX8, TX8, 27, tyX8, rfl, by decide, fr_in (i := 792) (by decide +kernel) rfl, in_X8, rfl, rfl, tyX8_ok, nmX8, rfl⟩
theorem fpRX8_158 : fr_fp RX8 158 8 9 .int := ⟨RX8, TX8, 27, tyX8, rfl, by decide, fr_in (i := 793) (by decide +kernel) rfl, in_X8, rfl, rfl, tyX8_ok, nmX8, rfl⟩
theorem fpRX8_164 : fr_fp RX8 164 8 11 .int := ⟨RX8, TX8, 27, tyX8, rfl, by decide, fr_in (i := 795) (by decide +kernel) rfl, in_X8, rfl, rfl, tyX8_ok, nmX8, rfl⟩
theorem fpRX8_175 : fr_fp RX8 175 8 10 .int := ⟨RX8, TX8, 27, tyX8, rfl, by decide, fr_in (i := 794) (by decide +kernel) rfl, in_X8, rfl, rfl, tyX8_ok, nmX8, rfl⟩
theorem fpRX8_178 : fr_fp RX8 178 8 12 .int := ⟨RX8, TX8, 27, tyX8, rfl, by decide, fr_in (i := 796) (by decide +kernel) rfl, in_X8, rfl, rfl, tyX8_ok, nmX8, rfl⟩
theorem fpRX8_181 : fr_fp RX8 181 8 13 .int := ⟨RX8, TX8, 27, tyX8, rfl, by decide, fr_in (i := 797) (by decide +kernel) rfl, in_X8, rfl, rfl, tyX8_ok, nmX8, rfl⟩
theorem fpRX8_227 : fr_fp RX8 227 8 14 .int := ⟨RX8, TX8, 27, tyX8, rfl, by decide, fr_in (i := 798) (by decide +kernel) rfl, in_X8, rfl, rfl, tyX8_ok, nmX8, rfl⟩
theorem fpRX8_235 : fr_fp RX8 235 8 3 .int := ⟨RX8, TX8, 27, tyX8, rfl, by decide, fr_in (i := 787) (by decide +kernel) rfl, in_X8, rfl, rfl, tyX8_ok, nmX8, rfl⟩
theorem kcRX2_58 : Cond.constant RX2 58 (-1000000 : Int32) ∈ fr_tb := fr_in (i := 577) (by decide +kernel) rfl
theorem kcRX3_50 : Cond.constant RX3 50 (-1000000 : Int32) ∈ fr_tb := fr_in (i := 562) (by decide +kernel) rfl
theorem kcRX4_69 : Cond.constant RX4 69 (-1000000 : Int32) ∈ fr_tb := fr_in (i := 409) (by decide +kernel) rfl
theorem kcRX6_19 : Cond.constant RX6 19 (-1000000 : Int32) ∈ fr_tb := fr_in (i := 380) (by decide +kernel) rfl
theorem kcRX7_72 : Cond.constant RX7 72 (-1000001 : Int32) ∈ fr_tb := fr_in (i := 347) (by decide +kernel) rfl
theorem kcRX7_80 : Cond.constant RX7 80 (-1000003 : Int32) ∈ fr_tb := fr_in (i := 352) (by decide +kernel) rfl
theorem kcRX7_88 : Cond.constant RX7 88 (-1000100 : Int32) ∈ fr_tb := fr_in (i := 448) (by decide +kernel) rfl
theorem kcRX7_105 : Cond.constant RX7 105 (-1000002 : Int32) ∈ fr_tb := fr_in (i := 464) (by decide +kernel) rfl
theorem kcRX7_203 : Cond.constant RX7 203 (-1000000 : Int32) ∈ fr_tb := fr_in (i := 668) (by decide +kernel) rfl
theorem kcRX8_90 : Cond.constant RX8 90 (-1000000 : Int32) ∈ fr_tb := fr_in (i := 923) (by decide +kernel) rfl
theorem kcRX8_209 : Cond.constant RX8 209 (-1000001 : Int32) ∈ fr_tb := fr_in (i := 875) (by decide +kernel) rfl
theorem kcRX8_210 : Cond.constant RX8 210 (-1000003 : Int32) ∈ fr_tb := fr_in (i := 876) (by decide +kernel) rfl
theorem kcRX8_230 : Cond.constant RX8 230 (-1000100 : Int32) ∈ fr_tb := fr_in (i := 935) (by decide +kernel) rfl
theorem kcRX8_238 : Cond.constant RX8 238 (-1000002 : Int32) ∈ fr_tb := fr_in (i := 947) (by decide +kernel) rfl
theorem klRX8_53 : Cond.constantLong RX8 53 (999 : Int64) ∈ fr_tb := fr_in (i := 1016) (by decide +kernel) rfl
theorem klRX8_167 : Cond.constantLong RX8 167 (97 : Int64) ∈ fr_tb := fr_in (i := 891) (by decide +kernel) rfl
theorem klRX8_169 : Cond.constantLong RX8 169 (122 : Int64) ∈ fr_tb := fr_in (i := 892) (by decide +kernel) rfl
theorem klRX8_171 : Cond.constantLong RX8 171 (48 : Int64) ∈ fr_tb := fr_in (i := 893) (by decide +kernel) rfl
theorem klRX8_173 : Cond.constantLong RX8 173 (57 : Int64) ∈ fr_tb := fr_in (i := 894) (by decide +kernel) rfl
theorem klRX8_207 : Cond.constantLong RX8 207 (255 : Int64) ∈ fr_tb := fr_in (i := 871) (by decide +kernel) rfl
theorem klRX8_220 : Cond.constantLong RX8 220 (69 : Int64) ∈ fr_tb := fr_in (i := 881) (by decide +kernel) rfl
theorem klRX8_222 : Cond.constantLong RX8 222 (78 : Int64) ∈ fr_tb := fr_in (i := 882) (by decide +kernel) rfl
theorem klRX8_239 : Cond.constantLong RX8 239 (99 : Int64) ∈ fr_tb := fr_in (i := 968) (by decide +kernel) rfl
theorem klRX8_241 : Cond.constantLong RX8 241 (365 : Int64) ∈ fr_tb := fr_in (i := 969) (by decide +kernel) rfl
theorem klRX8_243 : Cond.constantLong RX8 243 (3 : Int64) ∈ fr_tb := fr_in (i := 960) (by decide +kernel) rfl
theorem klRX8_248 : Cond.constantLong RX8 248 (5 : Int64) ∈ fr_tb := fr_in (i := 970) (by decide +kernel) rfl
theorem klRX8_250 : Cond.constantLong RX8 250 (6 : Int64) ∈ fr_tb := fr_in (i := 971) (by decide +kernel) rfl
theorem klRX8_265 : Cond.constantLong RX8 265 (2 : Int64) ∈ fr_tb := fr_in (i := 991) (by decide +kernel) rfl
theorem klRX8_267 : Cond.constantLong RX8 267 (29 : Int64) ∈ fr_tb := fr_in (i := 992) (by decide +kernel) rfl
theorem klRX8_269 : Cond.constantLong RX8 269 (10 : Int64) ∈ fr_tb := fr_in (i := 993) (by decide +kernel) rfl
theorem klRX8_271 : Cond.constantLong RX8 271 (150 : Int64) ∈ fr_tb := fr_in (i := 994) (by decide +kernel) rfl
theorem klRX8_273 : Cond.constantLong RX8 273 (9 : Int64) ∈ fr_tb := fr_in (i := 995) (by decide +kernel) rfl
theorem klRX8_281 : Cond.constantLong RX8 281 (366 : Int64) ∈ fr_tb := fr_in (i := 1004) (by decide +kernel) rfl
theorem klRX8_286 : Cond.constantLong RX8 286 (8 : Int64) ∈ fr_tb := fr_in (i := 1017) (by decide +kernel) rfl
theorem klRX8_313 : Cond.constantLong RX8 313 (30 : Int64) ∈ fr_tb := fr_in (i := 1178) (by decide +kernel) rfl
theorem klRX8_315 : Cond.constantLong RX8 315 (400 : Int64) ∈ fr_tb := fr_in (i := 1183) (by decide +kernel) rfl
theorem slRX7_135 : Cond.fieldLink RX7 135 RX7 "LEAST_LAW" "[I" ∈ fr_tb := fr_in (i := 510) (by decide +kernel) rfl
theorem slRX7_138 : Cond.fieldLink RX7 138 RX7 "GREATEST_LAW" "[I" ∈ fr_tb := fr_in (i := 511) (by decide +kernel) rfl
theorem mlRX0_28 : Cond.methodLink RX0 28 yX0_forgetOldest ∈ fr_tb := fr_in (i := 496) (by decide +kernel) rfl
theorem mlRX0_31 : Cond.methodLink RX0 31 arraycopyName ∈ fr_tb := fr_in (i := 500) (by decide +kernel) rfl
theorem mlRX0_42 : Cond.methodLink RX0 42 Lib.Math.max.name ∈ fr_tb := fr_in (i := 469) (by decide +kernel) rfl
theorem mlRX1_37 : Cond.methodLink RX1 37 yX1_leastN ∈ fr_tb := fr_in (i := 490) (by decide +kernel) rfl
theorem mlRX1_41 : Cond.methodLink RX1 41 yX1_greatestN ∈ fr_tb := fr_in (i := 491) (by decide +kernel) rfl
theorem mlRX1_58 : Cond.methodLink RX1 58 yJ7_fill_53178 ∈ fr_tb := fr_in (i := 365) (by decide +kernel) rfl
theorem mlRX1_64 : Cond.methodLink RX1 64 arraycopyName ∈ fr_tb := fr_in (i := 453) (by decide +kernel) rfl
theorem mlRX1_70 : Cond.methodLink RX1 70 yX1_hasFeast ∈ fr_tb := fr_in (i := 485) (by decide +kernel) rfl
theorem mlRX1_74 : Cond.methodLink RX1 74 yX1_hasChoir ∈ fr_tb := fr_in (i := 648) (by decide +kernel) rfl
theorem mlRX2_17 : Cond.methodLink RX2 17 yX2_daysOf ∈ fr_tb := fr_in (i := 539) (by decide +kernel) rfl
theorem mlRX2_25 : Cond.methodLink RX2 25 yX2_leapYearsAhead ∈ fr_tb := fr_in (i := 542) (by decide +kernel) rfl
theorem mlRX2_31 : Cond.methodLink RX2 31 yX2_dayOfDate ∈ fr_tb := fr_in (i := 545) (by decide +kernel) rfl
theorem mlRX2_38 : Cond.methodLink RX2 38 yX2_sundayFrom ∈ fr_tb := fr_in (i := 553) (by decide +kernel) rfl
theorem mlRX2_44 : Cond.methodLink RX2 44 yX2_isLeap ∈ fr_tb := fr_in (i := 549) (by decide +kernel) rfl
theorem mlRX2_48 : Cond.methodLink RX2 48 yX2_weekday ∈ fr_tb := fr_in (i := 557) (by decide +kernel) rfl
theorem mlRX2_51 : Cond.methodLink RX2 51 yX2_unboundDay ∈ fr_tb := fr_in (i := 572) (by decide +kernel) rfl
theorem mlRX3_32 : Cond.methodLink RX3 32 yX2_turnTo ∈ fr_tb := fr_in (i := 535) (by decide +kernel) rfl
theorem mlRX3_38 : Cond.methodLink RX3 38 yJ7_fill_53178 ∈ fr_tb := fr_in (i := 561) (by decide +kernel) rfl
theorem mlRX3_51 : Cond.methodLink RX3 51 yX3_ownDayOf ∈ fr_tb := fr_in (i := 563) (by decide +kernel) rfl
theorem mlRX3_55 : Cond.methodLink RX3 55 yX3_settleAll ∈ fr_tb := fr_in (i := 578) (by decide +kernel) rfl
theorem mlRX3_59 : Cond.methodLink RX3 59 yX1_mark ∈ fr_tb := fr_in (i := 567) (by decide +kernel) rfl
theorem mlRX3_63 : Cond.methodLink RX3 63 yX2_ownDay ∈ fr_tb := fr_in (i := 568) (by decide +kernel) rfl
theorem mlRX3_66 : Cond.methodLink RX3 66 yX3_settle ∈ fr_tb := fr_in (i := 582) (by decide +kernel) rfl
theorem mlRX3_69 : Cond.methodLink RX3 69 yX3_isFree ∈ fr_tb := fr_in (i := 586) (by decide +kernel) rfl
theorem mlRX3_73 : Cond.methodLink RX3 73 yX2_weekday ∈ fr_tb := fr_in (i := 591) (by decide +kernel) rfl
theorem mlRX3_76 : Cond.methodLink RX3 76 yX3_hold ∈ fr_tb := fr_in (i := 592) (by decide +kernel) rfl
theorem mlRX3_83 : Cond.methodLink RX3 83 Lib.Math.min.name ∈ fr_tb := fr_in (i := 596) (by decide +kernel) rfl
theorem mlRX3_88 : Cond.methodLink RX3 88 yX3_firstFree ∈ fr_tb := fr_in (i := 599) (by decide +kernel) rfl
theorem mlRX3_95 : Cond.methodLink RX3 95 yX3_holderOf ∈ fr_tb := fr_in (i := 623) (by decide +kernel) rfl
theorem mlRX3_107 : Cond.methodLink RX3 107 yX3_liesIn ∈ fr_tb := fr_in (i := 674) (by decide +kernel) rfl
theorem mlRX3_113 : Cond.methodLink RX3 113 yX3_isHeld ∈ fr_tb := fr_in (i := 678) (by decide +kernel) rfl
theorem mlRX3_116 : Cond.methodLink RX3 116 yX1_hasFeast ∈ fr_tb := fr_in (i := 682) (by decide +kernel) rfl
theorem mlRX3_119 : Cond.methodLink RX3 119 yX3_rankOf ∈ fr_tb := fr_in (i := 619) (by decide +kernel) rfl
theorem mlRX3_125 : Cond.methodLink RX3 125 yX3_servicesOf ∈ fr_tb := fr_in (i := 615) (by decide +kernel) rfl
theorem mlRX3_128 : Cond.methodLink RX3 128 yX3_isReadingDay ∈ fr_tb := fr_in (i := 701) (by decide +kernel) rfl
theorem mlRX4_29 : Cond.methodLink RX4 29 yX1_empty ∈ fr_tb := fr_in (i := 361) (by decide +kernel) rfl
theorem mlRX4_34 : Cond.methodLink RX4 34 yX4_head ∈ fr_tb := fr_in (i := 368) (by decide +kernel) rfl
theorem mlRX4_38 : Cond.methodLink RX4 38 yX4_feasts ∈ fr_tb := fr_in (i := 402) (by decide +kernel) rfl
theorem mlRX4_41 : Cond.methodLink RX4 41 yX4_seasons ∈ fr_tb := fr_in (i := 424) (by decide +kernel) rfl
theorem mlRX4_44 : Cond.methodLink RX4 44 yX4_psalter ∈ fr_tb := fr_in (i := 436) (by decide +kernel) rfl
theorem mlRX4_47 : Cond.methodLink RX4 47 yX4_choirs ∈ fr_tb := fr_in (i := 440) (by decide +kernel) rfl
theorem mlRX4_50 : Cond.methodLink RX4 50 yX4_end ∈ fr_tb := fr_in (i := 444) (by decide +kernel) rfl
theorem mlRX4_53 : Cond.methodLink RX4 53 yX4_sign ∈ fr_tb := fr_in (i := 372) (by decide +kernel) rfl
theorem mlRX4_57 : Cond.methodLink RX4 57 yX4_lawNumber ∈ fr_tb := fr_in (i := 385) (by decide +kernel) rfl
theorem mlRX4_61 : Cond.methodLink RX4 61 yX6_at ∈ fr_tb := fr_in (i := 376) (by decide +kernel) rfl
theorem mlRX4_66 : Cond.methodLink RX4 66 yX4_kindOf ∈ fr_tb := fr_in (i := 406) (by decide +kernel) rfl
theorem mlRX4_72 : Cond.methodLink RX4 72 yX4_fails ∈ fr_tb := fr_in (i := 381) (by decide +kernel) rfl
theorem mlRX4_75 : Cond.methodLink RX4 75 yX4_oneFeast ∈ fr_tb := fr_in (i := 410) (by decide +kernel) rfl
theorem mlRX4_78 : Cond.methodLink RX4 78 yX1_leastN ∈ fr_tb := fr_in (i := 414) (by decide +kernel) rfl
theorem mlRX4_81 : Cond.methodLink RX4 81 yX1_greatestN ∈ fr_tb := fr_in (i := 417) (by decide +kernel) rfl
theorem mlRX4_84 : Cond.methodLink RX4 84 yX4_number ∈ fr_tb := fr_in (i := 394) (by decide +kernel) rfl
theorem mlRX4_91 : Cond.methodLink RX4 91 yX1_tellFeast ∈ fr_tb := fr_in (i := 420) (by decide +kernel) rfl
theorem mlRX4_97 : Cond.methodLink RX4 97 yX4_oneSeason ∈ fr_tb := fr_in (i := 428) (by decide +kernel) rfl
theorem mlRX4_100 : Cond.methodLink RX4 100 yX4_bareNumber ∈ fr_tb := fr_in (i := 398) (by decide +kernel) rfl
theorem mlRX4_103 : Cond.methodLink RX4 103 yX1_tellSeason ∈ fr_tb := fr_in (i := 432) (by decide +kernel) rfl
theorem mlRX5_29 : Cond.methodLink RX5 29 yJ7_fill_53178 ∈ fr_tb := fr_in (i := 633) (by decide +kernel) rfl
theorem mlRX5_42 : Cond.methodLink RX5 42 yX5_dealOut ∈ fr_tb := fr_in (i := 634) (by decide +kernel) rfl
theorem mlRX5_49 : Cond.methodLink RX5 49 yX3_servicesOf ∈ fr_tb := fr_in (i := 638) (by decide +kernel) rfl
theorem mlRX5_55 : Cond.methodLink RX5 55 Lib.Math.min.name ∈ fr_tb := fr_in (i := 639) (by decide +kernel) rfl
theorem mlRX5_61 : Cond.methodLink RX5 61 yX5_choose ∈ fr_tb := fr_in (i := 640) (by decide +kernel) rfl
theorem mlRX5_65 : Cond.methodLink RX5 65 yX5_give ∈ fr_tb := fr_in (i := 653) (by decide +kernel) rfl
theorem mlRX5_74 : Cond.methodLink RX5 74 yX1_isAway ∈ fr_tb := fr_in (i := 644) (by decide +kernel) rfl
theorem mlRX5_78 : Cond.methodLink RX5 78 yX5_goesAheadOf ∈ fr_tb := fr_in (i := 649) (by decide +kernel) rfl
theorem mlRX5_82 : Cond.methodLink RX5 82 Lib.Math.max.name ∈ fr_tb := fr_in (i := 730) (by decide +kernel) rfl
theorem mlRX7_68 : Cond.methodLink RX7 68 yX7_within ∈ fr_tb := fr_in (i := 344) (by decide +kernel) rfl
theorem mlRX7_73 : Cond.methodLink RX7 73 yX6_put ∈ fr_tb := fr_in (i := 348) (by decide +kernel) rfl
theorem mlRX7_81 : Cond.methodLink RX7 81 yX4_readsAll ∈ fr_tb := fr_in (i := 357) (by decide +kernel) rfl
theorem mlRX7_95 : Cond.methodLink RX7 95 yX1_become ∈ fr_tb := fr_in (i := 449) (by decide +kernel) rfl
theorem mlRX7_106 : Cond.methodLink RX7 106 yX0_takeBackLatest ∈ fr_tb := fr_in (i := 465) (by decide +kernel) rfl
theorem mlRX7_109 : Cond.methodLink RX7 109 yX1_hasFeast ∈ fr_tb := fr_in (i := 477) (by decide +kernel) rfl
theorem mlRX7_112 : Cond.methodLink RX7 112 yX1_mark ∈ fr_tb := fr_in (i := 481) (by decide +kernel) rfl
theorem mlRX7_116 : Cond.methodLink RX7 116 yX1_canBe ∈ fr_tb := fr_in (i := 487) (by decide +kernel) rfl
theorem mlRX7_120 : Cond.methodLink RX7 120 yX0_keep ∈ fr_tb := fr_in (i := 492) (by decide +kernel) rfl
theorem mlRX7_132 : Cond.methodLink RX7 132 yX1_tellFeast ∈ fr_tb := fr_in (i := 505) (by decide +kernel) rfl
theorem mlRX7_144 : Cond.methodLink RX7 144 yX1_hasChoir ∈ fr_tb := fr_in (i := 516) (by decide +kernel) rfl
theorem mlRX7_153 : Cond.methodLink RX7 153 yX7_isYear ∈ fr_tb := fr_in (i := 528) (by decide +kernel) rfl
theorem mlRX7_156 : Cond.methodLink RX7 156 yX3_lay ∈ fr_tb := fr_in (i := 531) (by decide +kernel) rfl
theorem mlRX7_176 : Cond.methodLink RX7 176 yX2_sundays ∈ fr_tb := fr_in (i := 603) (by decide +kernel) rfl
theorem mlRX7_180 : Cond.methodLink RX7 180 yX3_howMany ∈ fr_tb := fr_in (i := 607) (by decide +kernel) rfl
theorem mlRX7_184 : Cond.methodLink RX7 184 yX3_servicesOfAllDays ∈ fr_tb := fr_in (i := 611) (by decide +kernel) rfl
theorem mlRX7_187 : Cond.methodLink RX7 187 yX5_go ∈ fr_tb := fr_in (i := 629) (by decide +kernel) rfl
theorem mlRX7_193 : Cond.methodLink RX7 193 yX7_isDay ∈ fr_tb := fr_in (i := 661) (by decide +kernel) rfl
theorem mlRX7_197 : Cond.methodLink RX7 197 yX2_weekday ∈ fr_tb := fr_in (i := 666) (by decide +kernel) rfl
theorem mlRX7_200 : Cond.methodLink RX7 200 yX3_holderOf ∈ fr_tb := fr_in (i := 667) (by decide +kernel) rfl
theorem mlRX7_204 : Cond.methodLink RX7 204 yX3_rankOf ∈ fr_tb := fr_in (i := 669) (by decide +kernel) rfl
theorem mlRX7_207 : Cond.methodLink RX7 207 yX3_colourOf ∈ fr_tb := fr_in (i := 670) (by decide +kernel) rfl
theorem mlRX7_210 : Cond.methodLink RX7 210 yX3_servicesOf ∈ fr_tb := fr_in (i := 683) (by decide +kernel) rfl
theorem mlRX7_213 : Cond.methodLink RX7 213 yX3_rememberedOn ∈ fr_tb := fr_in (i := 684) (by decide +kernel) rfl
theorem mlRX7_225 : Cond.methodLink RX7 225 Lib.Math.max.name ∈ fr_tb := fr_in (i := 696) (by decide +kernel) rfl
theorem mlRX7_230 : Cond.methodLink RX7 230 yX3_readingDays ∈ fr_tb := fr_in (i := 697) (by decide +kernel) rfl
theorem mlRX7_233 : Cond.methodLink RX7 233 yX3_isReadingDay ∈ fr_tb := fr_in (i := 705) (by decide +kernel) rfl
theorem mlRX7_236 : Cond.methodLink RX7 236 yX3_dayOfReading ∈ fr_tb := fr_in (i := 710) (by decide +kernel) rfl
theorem mlRX7_246 : Cond.methodLink RX7 246 yX5_gap ∈ fr_tb := fr_in (i := 726) (by decide +kernel) rfl
theorem mlRX7_249 : Cond.methodLink RX7 249 yX7_lastOf ∈ fr_tb := fr_in (i := 735) (by decide +kernel) rfl
theorem mlRX7_252 : Cond.methodLink RX7 252 yX2_turnTo ∈ fr_tb := fr_in (i := 739) (by decide +kernel) rfl
theorem mlRX7_256 : Cond.methodLink RX7 256 yX3_ownDayOf ∈ fr_tb := fr_in (i := 740) (by decide +kernel) rfl
theorem mlRX7_259 : Cond.methodLink RX7 259 yX2_dateOfSpring ∈ fr_tb := fr_in (i := 745) (by decide +kernel) rfl
theorem mlRX7_262 : Cond.methodLink RX7 262 Lib.Math.min.name ∈ fr_tb := fr_in (i := 738) (by decide +kernel) rfl
theorem mlRX7_265 : Cond.methodLink RX7 265 yX2_isLeap ∈ fr_tb := fr_in (i := 749) (by decide +kernel) rfl
theorem mlRX7_274 : Cond.methodLink RX7 274 yX2_daysOf ∈ fr_tb := fr_in (i := 665) (by decide +kernel) rfl
theorem mlRX8_55 : Cond.methodLink RX8 55 yX8_in ∈ fr_tb := fr_in (i := 872) (by decide +kernel) rfl
theorem mlRX8_59 : Cond.methodLink RX8 59 yX8_isLeap ∈ fr_tb := fr_in (i := 1026) (by decide +kernel) rfl
theorem mlRX8_67 : Cond.methodLink RX8 67 yX8_weekdayOf ∈ fr_tb := fr_in (i := 1042) (by decide +kernel) rfl
theorem mlRX8_74 : Cond.methodLink RX8 74 yX8_dayOfDate ∈ fr_tb := fr_in (i := 1034) (by decide +kernel) rfl
theorem mlRX8_78 : Cond.methodLink RX8 78 yX8_moon ∈ fr_tb := fr_in (i := 1050) (by decide +kernel) rfl
theorem mlRX8_81 : Cond.methodLink RX8 81 yX8_sunday ∈ fr_tb := fr_in (i := 1038) (by decide +kernel) rfl
theorem mlRX8_84 : Cond.methodLink RX8 84 yX8_of ∈ fr_tb := fr_in (i := 961) (by decide +kernel) rfl
theorem mlRX8_87 : Cond.methodLink RX8 87 yX8_spring ∈ fr_tb := fr_in (i := 1046) (by decide +kernel) rfl
theorem mlRX8_91 : Cond.methodLink RX8 91 yX8_isFree ∈ fr_tb := fr_in (i := 1066) (by decide +kernel) rfl
theorem mlRX8_94 : Cond.methodLink RX8 94 yX8_holds ∈ fr_tb := fr_in (i := 1070) (by decide +kernel) rfl
theorem mlRX8_98 : Cond.methodLink RX8 98 yX8_freeBehind ∈ fr_tb := fr_in (i := 1074) (by decide +kernel) rfl
theorem mlRX8_101 : Cond.methodLink RX8 101 yX8_opens ∈ fr_tb := fr_in (i := 1022) (by decide +kernel) rfl
theorem mlRX8_105 : Cond.methodLink RX8 105 yX8_ownDay ∈ fr_tb := fr_in (i := 1030) (by decide +kernel) rfl
theorem mlRX8_108 : Cond.methodLink RX8 108 yX8_nextFeast ∈ fr_tb := fr_in (i := 1054) (by decide +kernel) rfl
theorem mlRX8_112 : Cond.methodLink RX8 112 yX8_comes ∈ fr_tb := fr_in (i := 1062) (by decide +kernel) rfl
theorem mlRX8_115 : Cond.methodLink RX8 115 yX8_isAhead ∈ fr_tb := fr_in (i := 1058) (by decide +kernel) rfl
theorem mlRX8_119 : Cond.methodLink RX8 119 yX8_isHeld ∈ fr_tb := fr_in (i := 1086) (by decide +kernel) rfl
theorem mlRX8_122 : Cond.methodLink RX8 122 yX8_rankOf ∈ fr_tb := fr_in (i := 1098) (by decide +kernel) rfl
theorem mlRX8_125 : Cond.methodLink RX8 125 yX8_isAway ∈ fr_tb := fr_in (i := 1106) (by decide +kernel) rfl
theorem mlRX8_128 : Cond.methodLink RX8 128 yX8_had ∈ fr_tb := fr_in (i := 1110) (by decide +kernel) rfl
theorem mlRX8_131 : Cond.methodLink RX8 131 yX8_isBetter ∈ fr_tb := fr_in (i := 1114) (by decide +kernel) rfl
theorem mlRX8_141 : Cond.methodLink RX8 141 yX8_servicesOf ∈ fr_tb := fr_in (i := 1094) (by decide +kernel) rfl
theorem mlRX8_144 : Cond.methodLink RX8 144 yX8_choose ∈ fr_tb := fr_in (i := 1102) (by decide +kernel) rfl
theorem mlRX8_148 : Cond.methodLink RX8 148 yX8_laysRota ∈ fr_tb := fr_in (i := 1090) (by decide +kernel) rfl
theorem mlRX8_161 : Cond.methodLink RX8 161 yX8_byteAt ∈ fr_tb := fr_in (i := 887) (by decide +kernel) rfl
theorem mlRX8_184 : Cond.methodLink RX8 184 yX8_reads ∈ fr_tb := fr_in (i := 883) (by decide +kernel) rfl
theorem mlRX8_187 : Cond.methodLink RX8 187 yX8_bad ∈ fr_tb := fr_in (i := 907) (by decide +kernel) rfl
theorem mlRX8_190 : Cond.methodLink RX8 190 yX8_goesOn ∈ fr_tb := fr_in (i := 911) (by decide +kernel) rfl
theorem mlRX8_193 : Cond.methodLink RX8 193 yX8_isLetter ∈ fr_tb := fr_in (i := 903) (by decide +kernel) rfl
theorem mlRX8_196 : Cond.methodLink RX8 196 yX8_sort ∈ fr_tb := fr_in (i := 919) (by decide +kernel) rfl
theorem mlRX8_199 : Cond.methodLink RX8 199 yX8_number ∈ fr_tb := fr_in (i := 915) (by decide +kernel) rfl
theorem mlRX8_203 : Cond.methodLink RX8 203 yX8_puts ∈ fr_tb := fr_in (i := 928) (by decide +kernel) rfl
theorem mlRX8_211 : Cond.methodLink RX8 211 yX8_letter ∈ fr_tb := fr_in (i := 899) (by decide +kernel) rfl
theorem mlRX8_214 : Cond.methodLink RX8 214 yX8_readsFeast ∈ fr_tb := fr_in (i := 924) (by decide +kernel) rfl
theorem mlRX8_217 : Cond.methodLink RX8 217 yX8_readsSeason ∈ fr_tb := fr_in (i := 931) (by decide +kernel) rfl
theorem mlRX8_224 : Cond.methodLink RX8 224 yX8_readsAll ∈ fr_tb := fr_in (i := 895) (by decide +kernel) rfl
theorem mlRX8_231 : Cond.methodLink RX8 231 yX8_copies ∈ fr_tb := fr_in (i := 936) (by decide +kernel) rfl
theorem mlRX8_245 : Cond.methodLink RX8 245 yX8_isN ∈ fr_tb := fr_in (i := 965) (by decide +kernel) rfl
theorem mlRX8_252 : Cond.methodLink RX8 252 yX8_isFeast ∈ fr_tb := fr_in (i := 952) (by decide +kernel) rfl
theorem mlRX8_255 : Cond.methodLink RX8 255 yX8_mayBe ∈ fr_tb := fr_in (i := 956) (by decide +kernel) rfl
theorem mlRX8_258 : Cond.methodLink RX8 258 yX8_notes ∈ fr_tb := fr_in (i := 972) (by decide +kernel) rfl
theorem mlRX8_261 : Cond.methodLink RX8 261 yX8_isBook ∈ fr_tb := fr_in (i := 980) (by decide +kernel) rfl
theorem mlRX8_275 : Cond.methodLink RX8 275 yX8_isLaw ∈ fr_tb := fr_in (i := 988) (by decide +kernel) rfl
theorem mlRX8_278 : Cond.methodLink RX8 278 yX8_isChoir ∈ fr_tb := fr_in (i := 1000) (by decide +kernel) rfl
theorem mlRX8_283 : Cond.methodLink RX8 283 yX8_isYear ∈ fr_tb := fr_in (i := 1013) (by decide +kernel) rfl
theorem mlRX8_288 : Cond.methodLink RX8 288 yX8_lays ∈ fr_tb := fr_in (i := 1018) (by decide +kernel) rfl
theorem mlRX8_291 : Cond.methodLink RX8 291 yX8_sundays ∈ fr_tb := fr_in (i := 1078) (by decide +kernel) rfl
theorem mlRX8_294 : Cond.methodLink RX8 294 yX8_manyHeld ∈ fr_tb := fr_in (i := 1082) (by decide +kernel) rfl
theorem mlRX8_298 : Cond.methodLink RX8 298 yX8_hasDay ∈ fr_tb := fr_in (i := 1122) (by decide +kernel) rfl
theorem mlRX8_301 : Cond.methodLink RX8 301 yX8_colourOf ∈ fr_tb := fr_in (i := 1126) (by decide +kernel) rfl
theorem mlRX8_304 : Cond.methodLink RX8 304 yX8_rememberedOn ∈ fr_tb := fr_in (i := 1130) (by decide +kernel) rfl
theorem mlRX8_307 : Cond.methodLink RX8 307 yX8_readings ∈ fr_tb := fr_in (i := 1142) (by decide +kernel) rfl
theorem mlRX8_310 : Cond.methodLink RX8 310 yX8_unfair ∈ fr_tb := fr_in (i := 1162) (by decide +kernel) rfl
theorem mm_max : fr_mw Lib.Math.max.name Lib.Math.max.code := ⟨fr_in (i := 470) (by decide +kernel) rfl, fr_in (i := 86) (by decide +kernel) rfl, fr_in (i := 471) (by decide +kernel) rfl⟩
theorem mm_min : fr_mw Lib.Math.min.name Lib.Math.min.code := ⟨fr_in (i := 597) (by decide +kernel) rfl, fr_in (i := 86) (by decide +kernel) rfl, fr_in (i := 598) (by decide +kernel) rfl⟩
theorem mm_acp : fr_aw := ⟨fr_in (i := 455) (by decide +kernel) rfl, fr_in (i := 454) (by decide +kernel) rfl, fr_in (i := 85) (by decide +kernel) rfl⟩
def YJ7_fill_53178 : fr_Y := (yJ7_fill_53178, cJ7_fill_53178, 4, none, { frames := 0, cells := 0, slots := 0, locals := 0 })
theorem msJ7_fill_53178 : fr_mS YJ7_fill_53178 2 := ⟨fr_in (i := 366) (by decide +kernel) rfl, fr_in (i := 84) (by decide +kernel) rfl, fr_in (i := 367) (by decide +kernel) rfl, ⟨by decide +kernel, by decide +kernel, by decide +kernel⟩, rfl, rfl⟩
def YX0_forgetOldest : fr_Y := (yX0_forgetOldest, cX0_forgetOldest, 1, none, { frames := 1, cells := 0, slots := 0, locals := 30 })
theorem msX0_forgetOldest : fr_mV YX0_forgetOldest 0 0 := ⟨⟨_, _, rfl⟩, fr_in (i := 498) (by decide +kernel) rfl, fr_in (i := 13) (by decide +kernel) rfl, fr_in (i := 81) (by decide +kernel) rfl, fr_in (i := 499) (by decide +kernel) rfl, ⟨by decide +kernel, by decide +kernel, by decide +kernel⟩, rfl, rfl⟩
def YX0_keep : fr_Y := (yX0_keep, cX0_keep, 5, none, { frames := 2, cells := 0, slots := 0, locals := 50 })
theorem msX0_keep : fr_mV YX0_keep 4 0 := ⟨⟨_, _, rfl⟩, fr_in (i := 493) (by decide +kernel) rfl, fr_in (i := 494) (by decide +kernel) rfl, fr_in (i := 81) (by decide +kernel) rfl, fr_in (i := 495) (by decide +kernel) rfl, ⟨by decide +kernel, by decide +kernel, by decide +kernel⟩, rfl, rfl⟩
def YX0_takeBackLatest : fr_Y := (yX0_takeBackLatest, cX0_takeBackLatest, 3, none, { frames := 1, cells := 0, slots := 0, locals := 30 })
theorem msX0_takeBackLatest : fr_mV YX0_takeBackLatest 1 0 := ⟨⟨_, _, rfl⟩, fr_in (i := 466) (by decide +kernel) rfl, fr_in (i := 467) (by decide +kernel) rfl, fr_in (i := 81) (by decide +kernel) rfl, fr_in (i := 468) (by decide +kernel) rfl, ⟨by decide +kernel, by decide +kernel, by decide +kernel⟩, rfl, rfl⟩
def YX1_become : fr_Y := (yX1_become, cX1_become, 2, none, { frames := 1, cells := 0, slots := 0, locals := 30 })
theorem msX1_become : fr_mV YX1_become 1 1 := ⟨⟨_, _, rfl⟩, fr_in (i := 450) (by decide +kernel) rfl, fr_in (i := 451) (by decide +kernel) rfl, fr_in (i := 77) (by decide +kernel) rfl, fr_in (i := 452) (by decide +kernel) rfl, ⟨by decide +kernel, by decide +kernel, by decide +kernel⟩, rfl, rfl⟩
def YX1_canBe : fr_Y := (yX1_canBe, cX1_canBe, 4, some .boolean, { frames := 1, cells := 0, slots := 0, locals := 22 })
theorem msX1_canBe : fr_mS YX1_canBe 4 := ⟨fr_in (i := 488) (by decide +kernel) rfl, fr_in (i := 77) (by decide +kernel) rfl, fr_in (i := 489) (by decide +kernel) rfl, ⟨by decide +kernel, by decide +kernel, by decide +kernel⟩, rfl, rfl⟩
def YX1_empty : fr_Y := (yX1_empty, cX1_empty, 1, none, { frames := 1, cells := 0, slots := 0, locals := 23 })
theorem msX1_empty : fr_mV YX1_empty 0 1 := ⟨⟨_, _, rfl⟩, fr_in (i := 362) (by decide +kernel) rfl, fr_in (i := 363) (by decide +kernel) rfl, fr_in (i := 77) (by decide +kernel) rfl, fr_in (i := 364) (by decide +kernel) rfl, ⟨by decide +kernel, by decide +kernel, by decide +kernel⟩, rfl, rfl⟩
def YX1_greatestN : fr_Y := (yX1_greatestN, cX1_greatestN, 1, some .int, { frames := 0, cells := 0, slots := 0, locals := 0 })
theorem msX1_greatestN : fr_mS YX1_greatestN 1 := ⟨fr_in (i := 418) (by decide +kernel) rfl, fr_in (i := 77) (by decide +kernel) rfl, fr_in (i := 419) (by decide +kernel) rfl, ⟨by decide +kernel, by decide +kernel, by decide +kernel⟩, rfl, rfl⟩
def YX1_hasChoir : fr_Y := (yX1_hasChoir, cX1_hasChoir, 2, some .boolean, { frames := 0, cells := 0, slots := 0, locals := 0 })
theorem msX1_hasChoir : fr_mV YX1_hasChoir 1 1 := ⟨⟨_, _, rfl⟩, fr_in (i := 517) (by decide +kernel) rfl, fr_in (i := 518) (by decide +kernel) rfl, fr_in (i := 77) (by decide +kernel) rfl, fr_in (i := 519) (by decide +kernel) rfl, ⟨by decide +kernel, by decide +kernel, by decide +kernel⟩, rfl, rfl⟩
def YX1_hasFeast : fr_Y := (yX1_hasFeast, cX1_hasFeast, 2, some .boolean, { frames := 0, cells := 0, slots := 0, locals := 0 })
theorem msX1_hasFeast : fr_mV YX1_hasFeast 1 1 := ⟨⟨_, _, rfl⟩, fr_in (i := 478) (by decide +kernel) rfl, fr_in (i := 479) (by decide +kernel) rfl, fr_in (i := 77) (by decide +kernel) rfl, fr_in (i := 480) (by decide +kernel) rfl, ⟨by decide +kernel, by decide +kernel, by decide +kernel⟩, rfl, rfl⟩
def YX1_isAway : fr_Y := (yX1_isAway, cX1_isAway, 3, some .boolean, { frames := 1, cells := 0, slots := 0, locals := 22 })
theorem msX1_isAway : fr_mV YX1_isAway 2 1 := ⟨⟨_, _, rfl⟩, fr_in (i := 645) (by decide +kernel) rfl, fr_in (i := 646) (by decide +kernel) rfl, fr_in (i := 77) (by decide +kernel) rfl, fr_in (i := 647) (by decide +kernel) rfl, ⟨by decide +kernel, by decide +kernel, by decide +kernel⟩, rfl, rfl⟩
def YX1_leastN : fr_Y := (yX1_leastN, cX1_leastN, 1, some .int, { frames := 0, cells := 0, slots := 0, locals := 0 })
theorem msX1_leastN : fr_mS YX1_leastN 1 := ⟨fr_in (i := 415) (by decide +kernel) rfl, fr_in (i := 77) (by decide +kernel) rfl, fr_in (i := 416) (by decide +kernel) rfl, ⟨by decide +kernel, by decide +kernel, by decide +kernel⟩, rfl, rfl⟩
def YX1_mark : fr_Y := (yX1_mark, cX1_mark, 3, some .int, { frames := 1, cells := 0, slots := 0, locals := 22 })
theorem msX1_mark : fr_mV YX1_mark 2 1 := ⟨⟨_, _, rfl⟩, fr_in (i := 482) (by decide +kernel) rfl, fr_in (i := 483) (by decide +kernel) rfl, fr_in (i := 77) (by decide +kernel) rfl, fr_in (i := 484) (by decide +kernel) rfl, ⟨by decide +kernel, by decide +kernel, by decide +kernel⟩, rfl, rfl⟩
def YX1_tellFeast : fr_Y := (yX1_tellFeast, cX1_tellFeast, 6, none, { frames := 0, cells := 0, slots := 0, locals := 0 })
theorem msX1_tellFeast : fr_mV YX1_tellFeast 4 1 := ⟨⟨_, _, rfl⟩, fr_in (i := 421) (by decide +kernel) rfl, fr_in (i := 422) (by decide +kernel) rfl, fr_in (i := 77) (by decide +kernel) rfl, fr_in (i := 423) (by decide +kernel) rfl, ⟨by decide +kernel, by decide +kernel, by decide +kernel⟩, rfl, rfl⟩
def YX1_tellSeason : fr_Y := (yX1_tellSeason, cX1_tellSeason, 4, none, { frames := 0, cells := 0, slots := 0, locals := 0 })
theorem msX1_tellSeason : fr_mV YX1_tellSeason 3 1 := ⟨⟨_, _, rfl⟩, fr_in (i := 433) (by decide +kernel) rfl, fr_in (i := 434) (by decide +kernel) rfl, fr_in (i := 77) (by decide +kernel) rfl, fr_in (i := 435) (by decide +kernel) rfl, ⟨by decide +kernel, by decide +kernel, by decide +kernel⟩, rfl, rfl⟩
def YX2_dateOfSpring : fr_Y := (yX2_dateOfSpring, cX2_dateOfSpring, 1, some .int, { frames := 1, cells := 0, slots := 0, locals := 20 })
theorem msX2_dateOfSpring : fr_mV YX2_dateOfSpring 0 2 := ⟨⟨_, _, rfl⟩, fr_in (i := 746) (by decide +kernel) rfl, fr_in (i := 747) (by decide +kernel) rfl, fr_in (i := 79) (by decide +kernel) rfl, fr_in (i := 748) (by decide +kernel) rfl, ⟨by decide +kernel, by decide +kernel, by decide +kernel⟩, rfl, rfl⟩
def YX2_dayOfDate : fr_Y := (yX2_dayOfDate, cX2_dayOfDate, 2, some .int, { frames := 1, cells := 0, slots := 0, locals := 20 })
theorem msX2_dayOfDate : fr_mV YX2_dayOfDate 1 2 := ⟨⟨_, _, rfl⟩, fr_in (i := 546) (by decide +kernel) rfl, fr_in (i := 547) (by decide +kernel) rfl, fr_in (i := 79) (by decide +kernel) rfl, fr_in (i := 548) (by decide +kernel) rfl, ⟨by decide +kernel, by decide +kernel, by decide +kernel⟩, rfl, rfl⟩
def YX2_daysOf : fr_Y := (yX2_daysOf, cX2_daysOf, 3, some .int, { frames := 0, cells := 0, slots := 0, locals := 0 })
theorem msX2_daysOf : fr_mS YX2_daysOf 2 := ⟨fr_in (i := 540) (by decide +kernel) rfl, fr_in (i := 79) (by decide +kernel) rfl, fr_in (i := 541) (by decide +kernel) rfl, ⟨by decide +kernel, by decide +kernel, by decide +kernel⟩, rfl, rfl⟩
def YX2_isLeap : fr_Y := (yX2_isLeap, cX2_isLeap, 1, some .boolean, { frames := 0, cells := 0, slots := 0, locals := 0 })
theorem msX2_isLeap : fr_mV YX2_isLeap 0 2 := ⟨⟨_, _, rfl⟩, fr_in (i := 550) (by decide +kernel) rfl, fr_in (i := 551) (by decide +kernel) rfl, fr_in (i := 79) (by decide +kernel) rfl, fr_in (i := 552) (by decide +kernel) rfl, ⟨by decide +kernel, by decide +kernel, by decide +kernel⟩, rfl, rfl⟩
def YX2_leapYearsAhead : fr_Y := (yX2_leapYearsAhead, cX2_leapYearsAhead, 3, some .int, { frames := 0, cells := 0, slots := 0, locals := 0 })
theorem msX2_leapYearsAhead : fr_mS YX2_leapYearsAhead 2 := ⟨fr_in (i := 543) (by decide +kernel) rfl, fr_in (i := 79) (by decide +kernel) rfl, fr_in (i := 544) (by decide +kernel) rfl, ⟨by decide +kernel, by decide +kernel, by decide +kernel⟩, rfl, rfl⟩
def YX2_ownDay : fr_Y := (yX2_ownDay, cX2_ownDay, 4, some .int, { frames := 3, cells := 0, slots := 0, locals := 64 })
theorem msX2_ownDay : fr_mV YX2_ownDay 2 2 := ⟨⟨_, _, rfl⟩, fr_in (i := 569) (by decide +kernel) rfl, fr_in (i := 570) (by decide +kernel) rfl, fr_in (i := 79) (by decide +kernel) rfl, fr_in (i := 571) (by decide +kernel) rfl, ⟨by decide +kernel, by decide +kernel, by decide +kernel⟩, rfl, rfl⟩
def YX2_sundayFrom : fr_Y := (yX2_sundayFrom, cX2_sundayFrom, 2, some .int, { frames := 1, cells := 0, slots := 0, locals := 21 })
theorem msX2_sundayFrom : fr_mV YX2_sundayFrom 1 2 := ⟨⟨_, _, rfl⟩, fr_in (i := 554) (by decide +kernel) rfl, fr_in (i := 555) (by decide +kernel) rfl, fr_in (i := 79) (by decide +kernel) rfl, fr_in (i := 556) (by decide +kernel) rfl, ⟨by decide +kernel, by decide +kernel, by decide +kernel⟩, rfl, rfl⟩
def YX2_sundays : fr_Y := (yX2_sundays, cX2_sundays, 1, some .int, { frames := 2, cells := 0, slots := 0, locals := 42 })
theorem msX2_sundays : fr_mV YX2_sundays 0 2 := ⟨⟨_, _, rfl⟩, fr_in (i := 604) (by decide +kernel) rfl, fr_in (i := 605) (by decide +kernel) rfl, fr_in (i := 79) (by decide +kernel) rfl, fr_in (i := 606) (by decide +kernel) rfl, ⟨by decide +kernel, by decide +kernel, by decide +kernel⟩, rfl, rfl⟩
def YX2_turnTo : fr_Y := (yX2_turnTo, cX2_turnTo, 4, none, { frames := 2, cells := 0, slots := 0, locals := 42 })
theorem msX2_turnTo : fr_mV YX2_turnTo 2 2 := ⟨⟨_, _, rfl⟩, fr_in (i := 536) (by decide +kernel) rfl, fr_in (i := 537) (by decide +kernel) rfl, fr_in (i := 79) (by decide +kernel) rfl, fr_in (i := 538) (by decide +kernel) rfl, ⟨by decide +kernel, by decide +kernel, by decide +kernel⟩, rfl, rfl⟩
def YX2_unboundDay : fr_Y := (yX2_unboundDay, cX2_unboundDay, 3, some .int, { frames := 2, cells := 0, slots := 0, locals := 42 })
theorem msX2_unboundDay : fr_mV YX2_unboundDay 2 2 := ⟨⟨_, _, rfl⟩, fr_in (i := 574) (by decide +kernel) rfl, fr_in (i := 14) (by decide +kernel) rfl, fr_in (i := 79) (by decide +kernel) rfl, fr_in (i := 575) (by decide +kernel) rfl, ⟨by decide +kernel, by decide +kernel, by decide +kernel⟩, rfl, rfl⟩
def YX2_weekday : fr_Y := (yX2_weekday, cX2_weekday, 2, some .int, { frames := 0, cells := 0, slots := 0, locals := 0 })
theorem msX2_weekday : fr_mV YX2_weekday 1 2 := ⟨⟨_, _, rfl⟩, fr_in (i := 558) (by decide +kernel) rfl, fr_in (i := 559) (by decide +kernel) rfl, fr_in (i := 79) (by decide +kernel) rfl, fr_in (i := 560) (by decide +kernel) rfl, ⟨by decide +kernel, by decide +kernel, by decide +kernel⟩, rfl, rfl⟩
def YX3_colourOf : fr_Y := (yX3_colourOf, cX3_colourOf, 4, some .int, { frames := 3, cells := 0, slots := 0, locals := 65 })
theorem msX3_colourOf : fr_mV YX3_colourOf 1 3 := ⟨⟨_, _, rfl⟩, fr_in (i := 671) (by decide +kernel) rfl, fr_in (i := 672) (by decide +kernel) rfl, fr_in (i := 78) (by decide +kernel) rfl, fr_in (i := 673) (by decide +kernel) rfl, ⟨by decide +kernel, by decide +kernel, by decide +kernel⟩, rfl, rfl⟩
def YX3_dayOfReading : fr_Y := (yX3_dayOfReading, cX3_dayOfReading, 6, some .int, { frames := 4, cells := 0, slots := 0, locals := 87 })
theorem msX3_dayOfReading : fr_mV YX3_dayOfReading 1 3 := ⟨⟨_, _, rfl⟩, fr_in (i := 711) (by decide +kernel) rfl, fr_in (i := 712) (by decide +kernel) rfl, fr_in (i := 78) (by decide +kernel) rfl, fr_in (i := 713) (by decide +kernel) rfl, ⟨by decide +kernel, by decide +kernel, by decide +kernel⟩, rfl, rfl⟩
def YX3_firstFree : fr_Y := (yX3_firstFree, cX3_firstFree, 4, some .int, { frames := 2, cells := 0, slots := 0, locals := 43 })
theorem msX3_firstFree : fr_mV YX3_firstFree 2 3 := ⟨⟨_, _, rfl⟩, fr_in (i := 601) (by decide +kernel) rfl, fr_in (i := 19) (by decide +kernel) rfl, fr_in (i := 78) (by decide +kernel) rfl, fr_in (i := 602) (by decide +kernel) rfl, ⟨by decide +kernel, by decide +kernel, by decide +kernel⟩, rfl, rfl⟩
def YX3_hold : fr_Y := (yX3_hold, cX3_hold, 4, none, { frames := 0, cells := 0, slots := 0, locals := 0 })
theorem msX3_hold : fr_mV YX3_hold 3 3 := ⟨⟨_, _, rfl⟩, fr_in (i := 594) (by decide +kernel) rfl, fr_in (i := 18) (by decide +kernel) rfl, fr_in (i := 78) (by decide +kernel) rfl, fr_in (i := 595) (by decide +kernel) rfl, ⟨by decide +kernel, by decide +kernel, by decide +kernel⟩, rfl, rfl⟩
def YX3_holderOf : fr_Y := (yX3_holderOf, cX3_holderOf, 2, some .int, { frames := 1, cells := 0, slots := 0, locals := 22 })
theorem msX3_holderOf : fr_mV YX3_holderOf 1 3 := ⟨⟨_, _, rfl⟩, fr_in (i := 624) (by decide +kernel) rfl, fr_in (i := 625) (by decide +kernel) rfl, fr_in (i := 78) (by decide +kernel) rfl, fr_in (i := 626) (by decide +kernel) rfl, ⟨by decide +kernel, by decide +kernel, by decide +kernel⟩, rfl, rfl⟩
def YX3_howMany : fr_Y := (yX3_howMany, cX3_howMany, 4, some .int, { frames := 0, cells := 0, slots := 0, locals := 0 })
theorem msX3_howMany : fr_mV YX3_howMany 1 3 := ⟨⟨_, _, rfl⟩, fr_in (i := 608) (by decide +kernel) rfl, fr_in (i := 609) (by decide +kernel) rfl, fr_in (i := 78) (by decide +kernel) rfl, fr_in (i := 610) (by decide +kernel) rfl, ⟨by decide +kernel, by decide +kernel, by decide +kernel⟩, rfl, rfl⟩
def YX3_isFree : fr_Y := (yX3_isFree, cX3_isFree, 2, some .boolean, { frames := 1, cells := 0, slots := 0, locals := 22 })
theorem msX3_isFree : fr_mV YX3_isFree 1 3 := ⟨⟨_, _, rfl⟩, fr_in (i := 588) (by decide +kernel) rfl, fr_in (i := 17) (by decide +kernel) rfl, fr_in (i := 78) (by decide +kernel) rfl, fr_in (i := 589) (by decide +kernel) rfl, ⟨by decide +kernel, by decide +kernel, by decide +kernel⟩, rfl, rfl⟩
def YX3_isHeld : fr_Y := (yX3_isHeld, cX3_isHeld, 2, some .boolean, { frames := 1, cells := 0, slots := 0, locals := 21 })
theorem msX3_isHeld : fr_mV YX3_isHeld 1 3 := ⟨⟨_, _, rfl⟩, fr_in (i := 680) (by decide +kernel) rfl, fr_in (i := 26) (by decide +kernel) rfl, fr_in (i := 78) (by decide +kernel) rfl, fr_in (i := 681) (by decide +kernel) rfl, ⟨by decide +kernel, by decide +kernel, by decide +kernel⟩, rfl, rfl⟩
def YX3_isReadingDay : fr_Y := (yX3_isReadingDay, cX3_isReadingDay, 2, some .boolean, { frames := 3, cells := 0, slots := 0, locals := 66 })
theorem msX3_isReadingDay : fr_mV YX3_isReadingDay 1 3 := ⟨⟨_, _, rfl⟩, fr_in (i := 702) (by decide +kernel) rfl, fr_in (i := 703) (by decide +kernel) rfl, fr_in (i := 78) (by decide +kernel) rfl, fr_in (i := 704) (by decide +kernel) rfl, ⟨by decide +kernel, by decide +kernel, by decide +kernel⟩, rfl, rfl⟩
def YX3_lay : fr_Y := (yX3_lay, cX3_lay, 5, none, { frames := 5, cells := 0, slots := 0, locals := 114 })
theorem msX3_lay : fr_mV YX3_lay 2 3 := ⟨⟨_, _, rfl⟩, fr_in (i := 532) (by decide +kernel) rfl, fr_in (i := 533) (by decide +kernel) rfl, fr_in (i := 78) (by decide +kernel) rfl, fr_in (i := 534) (by decide +kernel) rfl, ⟨by decide +kernel, by decide +kernel, by decide +kernel⟩, rfl, rfl⟩
def YX3_liesIn : fr_Y := (yX3_liesIn, cX3_liesIn, 4, some .boolean, { frames := 2, cells := 0, slots := 0, locals := 42 })
theorem msX3_liesIn : fr_mV YX3_liesIn 3 3 := ⟨⟨_, _, rfl⟩, fr_in (i := 676) (by decide +kernel) rfl, fr_in (i := 25) (by decide +kernel) rfl, fr_in (i := 78) (by decide +kernel) rfl, fr_in (i := 677) (by decide +kernel) rfl, ⟨by decide +kernel, by decide +kernel, by decide +kernel⟩, rfl, rfl⟩
def YX3_ownDayOf : fr_Y := (yX3_ownDayOf, cX3_ownDayOf, 2, some .int, { frames := 4, cells := 0, slots := 0, locals := 87 })
theorem msX3_ownDayOf : fr_mV YX3_ownDayOf 1 3 := ⟨⟨_, _, rfl⟩, fr_in (i := 564) (by decide +kernel) rfl, fr_in (i := 565) (by decide +kernel) rfl, fr_in (i := 78) (by decide +kernel) rfl, fr_in (i := 566) (by decide +kernel) rfl, ⟨by decide +kernel, by decide +kernel, by decide +kernel⟩, rfl, rfl⟩
def YX3_rankOf : fr_Y := (yX3_rankOf, cX3_rankOf, 3, some .int, { frames := 2, cells := 0, slots := 0, locals := 44 })
theorem msX3_rankOf : fr_mV YX3_rankOf 1 3 := ⟨⟨_, _, rfl⟩, fr_in (i := 620) (by decide +kernel) rfl, fr_in (i := 621) (by decide +kernel) rfl, fr_in (i := 78) (by decide +kernel) rfl, fr_in (i := 622) (by decide +kernel) rfl, ⟨by decide +kernel, by decide +kernel, by decide +kernel⟩, rfl, rfl⟩
def YX3_readingDays : fr_Y := (yX3_readingDays, cX3_readingDays, 4, some .int, { frames := 4, cells := 0, slots := 0, locals := 87 })
theorem msX3_readingDays : fr_mV YX3_readingDays 1 3 := ⟨⟨_, _, rfl⟩, fr_in (i := 698) (by decide +kernel) rfl, fr_in (i := 699) (by decide +kernel) rfl, fr_in (i := 78) (by decide +kernel) rfl, fr_in (i := 700) (by decide +kernel) rfl, ⟨by decide +kernel, by decide +kernel, by decide +kernel⟩, rfl, rfl⟩
def YX3_rememberedOn : fr_Y := (yX3_rememberedOn, cX3_rememberedOn, 4, some .int, { frames := 0, cells := 0, slots := 0, locals := 0 })
theorem msX3_rememberedOn : fr_mV YX3_rememberedOn 1 3 := ⟨⟨_, _, rfl⟩, fr_in (i := 685) (by decide +kernel) rfl, fr_in (i := 686) (by decide +kernel) rfl, fr_in (i := 78) (by decide +kernel) rfl, fr_in (i := 687) (by decide +kernel) rfl, ⟨by decide +kernel, by decide +kernel, by decide +kernel⟩, rfl, rfl⟩
def YX3_servicesOf : fr_Y := (yX3_servicesOf, cX3_servicesOf, 3, some .int, { frames := 3, cells := 0, slots := 0, locals := 66 })
theorem msX3_servicesOf : fr_mV YX3_servicesOf 1 3 := ⟨⟨_, _, rfl⟩, fr_in (i := 616) (by decide +kernel) rfl, fr_in (i := 617) (by decide +kernel) rfl, fr_in (i := 78) (by decide +kernel) rfl, fr_in (i := 618) (by decide +kernel) rfl, ⟨by decide +kernel, by decide +kernel, by decide +kernel⟩, rfl, rfl⟩
def YX3_servicesOfAllDays : fr_Y := (yX3_servicesOfAllDays, cX3_servicesOfAllDays, 3, some .int, { frames := 4, cells := 0, slots := 0, locals := 88 })
theorem msX3_servicesOfAllDays : fr_mV YX3_servicesOfAllDays 0 3 := ⟨⟨_, _, rfl⟩, fr_in (i := 612) (by decide +kernel) rfl, fr_in (i := 613) (by decide +kernel) rfl, fr_in (i := 78) (by decide +kernel) rfl, fr_in (i := 614) (by decide +kernel) rfl, ⟨by decide +kernel, by decide +kernel, by decide +kernel⟩, rfl, rfl⟩
def YX3_settle : fr_Y := (yX3_settle, cX3_settle, 6, none, { frames := 3, cells := 0, slots := 0, locals := 66 })
theorem msX3_settle : fr_mV YX3_settle 2 3 := ⟨⟨_, _, rfl⟩, fr_in (i := 584) (by decide +kernel) rfl, fr_in (i := 16) (by decide +kernel) rfl, fr_in (i := 78) (by decide +kernel) rfl, fr_in (i := 585) (by decide +kernel) rfl, ⟨by decide +kernel, by decide +kernel, by decide +kernel⟩, rfl, rfl⟩
def YX3_settleAll : fr_Y := (yX3_settleAll, cX3_settleAll, 4, none, { frames := 4, cells := 0, slots := 0, locals := 91 })
theorem msX3_settleAll : fr_mV YX3_settleAll 2 3 := ⟨⟨_, _, rfl⟩, fr_in (i := 580) (by decide +kernel) rfl, fr_in (i := 15) (by decide +kernel) rfl, fr_in (i := 78) (by decide +kernel) rfl, fr_in (i := 581) (by decide +kernel) rfl, ⟨by decide +kernel, by decide +kernel, by decide +kernel⟩, rfl, rfl⟩
def YX4_bareNumber : fr_Y := (yX4_bareNumber, cX4_bareNumber, 5, some .boolean, { frames := 1, cells := 0, slots := 0, locals := 22 })
theorem msX4_bareNumber : fr_mV YX4_bareNumber 2 4 := ⟨⟨_, _, rfl⟩, fr_in (i := 400) (by decide +kernel) rfl, fr_in (i := 5) (by decide +kernel) rfl, fr_in (i := 80) (by decide +kernel) rfl, fr_in (i := 401) (by decide +kernel) rfl, ⟨by decide +kernel, by decide +kernel, by decide +kernel⟩, rfl, rfl⟩
def YX4_choirs : fr_Y := (yX4_choirs, cX4_choirs, 1, some .boolean, { frames := 4, cells := 0, slots := 0, locals := 91 })
theorem msX4_choirs : fr_mV YX4_choirs 0 4 := ⟨⟨_, _, rfl⟩, fr_in (i := 442) (by decide +kernel) rfl, fr_in (i := 11) (by decide +kernel) rfl, fr_in (i := 80) (by decide +kernel) rfl, fr_in (i := 443) (by decide +kernel) rfl, ⟨by decide +kernel, by decide +kernel, by decide +kernel⟩, rfl, rfl⟩
def YX4_end : fr_Y := (yX4_end, cX4_end, 1, some .boolean, { frames := 1, cells := 0, slots := 0, locals := 21 })
theorem msX4_end : fr_mV YX4_end 0 4 := ⟨⟨_, _, rfl⟩, fr_in (i := 446) (by decide +kernel) rfl, fr_in (i := 12) (by decide +kernel) rfl, fr_in (i := 80) (by decide +kernel) rfl, fr_in (i := 447) (by decide +kernel) rfl, ⟨by decide +kernel, by decide +kernel, by decide +kernel⟩, rfl, rfl⟩
def YX4_fails : fr_Y := (yX4_fails, cX4_fails, 2, some .boolean, { frames := 0, cells := 0, slots := 0, locals := 0 })
theorem msX4_fails : fr_mV YX4_fails 1 4 := ⟨⟨_, _, rfl⟩, fr_in (i := 383) (by decide +kernel) rfl, fr_in (i := 2) (by decide +kernel) rfl, fr_in (i := 80) (by decide +kernel) rfl, fr_in (i := 384) (by decide +kernel) rfl, ⟨by decide +kernel, by decide +kernel, by decide +kernel⟩, rfl, rfl⟩
def YX4_feasts : fr_Y := (yX4_feasts, cX4_feasts, 3, some .boolean, { frames := 4, cells := 0, slots := 0, locals := 92 })
theorem msX4_feasts : fr_mV YX4_feasts 0 4 := ⟨⟨_, _, rfl⟩, fr_in (i := 404) (by decide +kernel) rfl, fr_in (i := 6) (by decide +kernel) rfl, fr_in (i := 80) (by decide +kernel) rfl, fr_in (i := 405) (by decide +kernel) rfl, ⟨by decide +kernel, by decide +kernel, by decide +kernel⟩, rfl, rfl⟩
def YX4_head : fr_Y := (yX4_head, cX4_head, 1, some .boolean, { frames := 4, cells := 0, slots := 0, locals := 91 })
theorem msX4_head : fr_mV YX4_head 0 4 := ⟨⟨_, _, rfl⟩, fr_in (i := 370) (by decide +kernel) rfl, fr_in (i := 0) (by decide +kernel) rfl, fr_in (i := 80) (by decide +kernel) rfl, fr_in (i := 371) (by decide +kernel) rfl, ⟨by decide +kernel, by decide +kernel, by decide +kernel⟩, rfl, rfl⟩
def YX4_kindOf : fr_Y := (yX4_kindOf, cX4_kindOf, 1, some .int, { frames := 0, cells := 0, slots := 0, locals := 0 })
theorem msX4_kindOf : fr_mS YX4_kindOf 1 := ⟨fr_in (i := 407) (by decide +kernel) rfl, fr_in (i := 80) (by decide +kernel) rfl, fr_in (i := 408) (by decide +kernel) rfl, ⟨by decide +kernel, by decide +kernel, by decide +kernel⟩, rfl, rfl⟩
def YX4_lawNumber : fr_Y := (yX4_lawNumber, cX4_lawNumber, 3, some .boolean, { frames := 3, cells := 0, slots := 0, locals := 69 })
theorem msX4_lawNumber : fr_mV YX4_lawNumber 2 4 := ⟨⟨_, _, rfl⟩, fr_in (i := 387) (by decide +kernel) rfl, fr_in (i := 3) (by decide +kernel) rfl, fr_in (i := 80) (by decide +kernel) rfl, fr_in (i := 388) (by decide +kernel) rfl, ⟨by decide +kernel, by decide +kernel, by decide +kernel⟩, rfl, rfl⟩
def YX4_number : fr_Y := (yX4_number, cX4_number, 4, some .boolean, { frames := 2, cells := 0, slots := 0, locals := 46 })
theorem msX4_number : fr_mV YX4_number 3 4 := ⟨⟨_, _, rfl⟩, fr_in (i := 396) (by decide +kernel) rfl, fr_in (i := 4) (by decide +kernel) rfl, fr_in (i := 80) (by decide +kernel) rfl, fr_in (i := 397) (by decide +kernel) rfl, ⟨by decide +kernel, by decide +kernel, by decide +kernel⟩, rfl, rfl⟩
def YX4_oneFeast : fr_Y := (yX4_oneFeast, cX4_oneFeast, 4, some .boolean, { frames := 3, cells := 0, slots := 0, locals := 69 })
theorem msX4_oneFeast : fr_mV YX4_oneFeast 1 4 := ⟨⟨_, _, rfl⟩, fr_in (i := 412) (by decide +kernel) rfl, fr_in (i := 7) (by decide +kernel) rfl, fr_in (i := 80) (by decide +kernel) rfl, fr_in (i := 413) (by decide +kernel) rfl, ⟨by decide +kernel, by decide +kernel, by decide +kernel⟩, rfl, rfl⟩
def YX4_oneSeason : fr_Y := (yX4_oneSeason, cX4_oneSeason, 4, some .boolean, { frames := 3, cells := 0, slots := 0, locals := 69 })
theorem msX4_oneSeason : fr_mV YX4_oneSeason 0 4 := ⟨⟨_, _, rfl⟩, fr_in (i := 430) (by decide +kernel) rfl, fr_in (i := 9) (by decide +kernel) rfl, fr_in (i := 80) (by decide +kernel) rfl, fr_in (i := 431) (by decide +kernel) rfl, ⟨by decide +kernel, by decide +kernel, by decide +kernel⟩, rfl, rfl⟩
def YX4_psalter : fr_Y := (yX4_psalter, cX4_psalter, 1, some .boolean, { frames := 4, cells := 0, slots := 0, locals := 91 })
theorem msX4_psalter : fr_mV YX4_psalter 0 4 := ⟨⟨_, _, rfl⟩, fr_in (i := 438) (by decide +kernel) rfl, fr_in (i := 10) (by decide +kernel) rfl, fr_in (i := 80) (by decide +kernel) rfl, fr_in (i := 439) (by decide +kernel) rfl, ⟨by decide +kernel, by decide +kernel, by decide +kernel⟩, rfl, rfl⟩
def YX4_readsAll : fr_Y := (yX4_readsAll, cX4_readsAll, 1, some .boolean, { frames := 5, cells := 0, slots := 0, locals := 114 })
theorem msX4_readsAll : fr_mV YX4_readsAll 0 4 := ⟨⟨_, _, rfl⟩, fr_in (i := 358) (by decide +kernel) rfl, fr_in (i := 359) (by decide +kernel) rfl, fr_in (i := 80) (by decide +kernel) rfl, fr_in (i := 360) (by decide +kernel) rfl, ⟨by decide +kernel, by decide +kernel, by decide +kernel⟩, rfl, rfl⟩
def YX4_seasons : fr_Y := (yX4_seasons, cX4_seasons, 2, some .boolean, { frames := 4, cells := 0, slots := 0, locals := 92 })
theorem msX4_seasons : fr_mV YX4_seasons 0 4 := ⟨⟨_, _, rfl⟩, fr_in (i := 426) (by decide +kernel) rfl, fr_in (i := 8) (by decide +kernel) rfl, fr_in (i := 80) (by decide +kernel) rfl, fr_in (i := 427) (by decide +kernel) rfl, ⟨by decide +kernel, by decide +kernel, by decide +kernel⟩, rfl, rfl⟩
def YX4_sign : fr_Y := (yX4_sign, cX4_sign, 2, some .boolean, { frames := 1, cells := 0, slots := 0, locals := 21 })
theorem msX4_sign : fr_mV YX4_sign 1 4 := ⟨⟨_, _, rfl⟩, fr_in (i := 374) (by decide +kernel) rfl, fr_in (i := 1) (by decide +kernel) rfl, fr_in (i := 80) (by decide +kernel) rfl, fr_in (i := 375) (by decide +kernel) rfl, ⟨by decide +kernel, by decide +kernel, by decide +kernel⟩, rfl, rfl⟩
def YX5_choose : fr_Y := (yX5_choose, cX5_choose, 7, some .int, { frames := 2, cells := 0, slots := 0, locals := 44 })
theorem msX5_choose : fr_mV YX5_choose 3 5 := ⟨⟨_, _, rfl⟩, fr_in (i := 642) (by decide +kernel) rfl, fr_in (i := 21) (by decide +kernel) rfl, fr_in (i := 82) (by decide +kernel) rfl, fr_in (i := 643) (by decide +kernel) rfl, ⟨by decide +kernel, by decide +kernel, by decide +kernel⟩, rfl, rfl⟩
def YX5_dealOut : fr_Y := (yX5_dealOut, cX5_dealOut, 6, none, { frames := 4, cells := 0, slots := 0, locals := 88 })
theorem msX5_dealOut : fr_mV YX5_dealOut 2 5 := ⟨⟨_, _, rfl⟩, fr_in (i := 636) (by decide +kernel) rfl, fr_in (i := 20) (by decide +kernel) rfl, fr_in (i := 82) (by decide +kernel) rfl, fr_in (i := 637) (by decide +kernel) rfl, ⟨by decide +kernel, by decide +kernel, by decide +kernel⟩, rfl, rfl⟩
def YX5_gap : fr_Y := (yX5_gap, cX5_gap, 4, some .int, { frames := 1, cells := 0, slots := 0, locals := 30 })
theorem msX5_gap : fr_mV YX5_gap 0 5 := ⟨⟨_, _, rfl⟩, fr_in (i := 727) (by decide +kernel) rfl, fr_in (i := 728) (by decide +kernel) rfl, fr_in (i := 82) (by decide +kernel) rfl, fr_in (i := 729) (by decide +kernel) rfl, ⟨by decide +kernel, by decide +kernel, by decide +kernel⟩, rfl, rfl⟩
def YX5_give : fr_Y := (yX5_give, cX5_give, 2, none, { frames := 0, cells := 0, slots := 0, locals := 0 })
theorem msX5_give : fr_mV YX5_give 1 5 := ⟨⟨_, _, rfl⟩, fr_in (i := 655) (by decide +kernel) rfl, fr_in (i := 23) (by decide +kernel) rfl, fr_in (i := 82) (by decide +kernel) rfl, fr_in (i := 656) (by decide +kernel) rfl, ⟨by decide +kernel, by decide +kernel, by decide +kernel⟩, rfl, rfl⟩
def YX5_go : fr_Y := (yX5_go, cX5_go, 4, none, { frames := 5, cells := 0, slots := 0, locals := 113 })
theorem msX5_go : fr_mV YX5_go 2 5 := ⟨⟨_, _, rfl⟩, fr_in (i := 630) (by decide +kernel) rfl, fr_in (i := 631) (by decide +kernel) rfl, fr_in (i := 82) (by decide +kernel) rfl, fr_in (i := 632) (by decide +kernel) rfl, ⟨by decide +kernel, by decide +kernel, by decide +kernel⟩, rfl, rfl⟩
def YX5_goesAheadOf : fr_Y := (yX5_goesAheadOf, cX5_goesAheadOf, 4, some .boolean, { frames := 0, cells := 0, slots := 0, locals := 0 })
theorem msX5_goesAheadOf : fr_mV YX5_goesAheadOf 3 5 := ⟨⟨_, _, rfl⟩, fr_in (i := 651) (by decide +kernel) rfl, fr_in (i := 22) (by decide +kernel) rfl, fr_in (i := 82) (by decide +kernel) rfl, fr_in (i := 652) (by decide +kernel) rfl, ⟨by decide +kernel, by decide +kernel, by decide +kernel⟩, rfl, rfl⟩
def YX6_at : fr_Y := (yX6_at, cX6_at, 2, some .int, { frames := 0, cells := 0, slots := 0, locals := 0 })
theorem msX6_at : fr_mV YX6_at 1 6 := ⟨⟨_, _, rfl⟩, fr_in (i := 377) (by decide +kernel) rfl, fr_in (i := 378) (by decide +kernel) rfl, fr_in (i := 76) (by decide +kernel) rfl, fr_in (i := 379) (by decide +kernel) rfl, ⟨by decide +kernel, by decide +kernel, by decide +kernel⟩, rfl, rfl⟩
def YX6_put : fr_Y := (yX6_put, cX6_put, 2, some .boolean, { frames := 0, cells := 0, slots := 0, locals := 0 })
theorem msX6_put : fr_mV YX6_put 1 6 := ⟨⟨_, _, rfl⟩, fr_in (i := 349) (by decide +kernel) rfl, fr_in (i := 350) (by decide +kernel) rfl, fr_in (i := 76) (by decide +kernel) rfl, fr_in (i := 351) (by decide +kernel) rfl, ⟨by decide +kernel, by decide +kernel, by decide +kernel⟩, rfl, rfl⟩
def YX7_add : fr_Y := (yX7_add, cX7_add, 5, some .int, { frames := 3, cells := 0, slots := 0, locals := 74 })
theorem msX7_add : fr_mV YX7_add 4 7 := ⟨⟨_, _, rfl⟩, fr_in (i := 502) (by decide +kernel) rfl, fr_in (i := 503) (by decide +kernel) rfl, fr_in (i := 75) (by decide +kernel) rfl, fr_in (i := 504) (by decide +kernel) rfl, ⟨by decide +kernel, by decide +kernel, by decide +kernel⟩, rfl, rfl⟩
def YX7_alter : fr_Y := (yX7_alter, cX7_alter, 9, some .int, { frames := 3, cells := 0, slots := 0, locals := 74 })
theorem msX7_alter : fr_mV YX7_alter 3 7 := ⟨⟨_, _, rfl⟩, fr_in (i := 474) (by decide +kernel) rfl, fr_in (i := 475) (by decide +kernel) rfl, fr_in (i := 75) (by decide +kernel) rfl, fr_in (i := 476) (by decide +kernel) rfl, ⟨by decide +kernel, by decide +kernel, by decide +kernel⟩, rfl, rfl⟩
def YX7_away : fr_Y := (yX7_away, cX7_away, 4, some .int, { frames := 3, cells := 0, slots := 0, locals := 74 })
theorem msX7_away : fr_mV YX7_away 3 7 := ⟨⟨_, _, rfl⟩, fr_in (i := 513) (by decide +kernel) rfl, fr_in (i := 514) (by decide +kernel) rfl, fr_in (i := 75) (by decide +kernel) rfl, fr_in (i := 515) (by decide +kernel) rfl, ⟨by decide +kernel, by decide +kernel, by decide +kernel⟩, rfl, rfl⟩
def YX7_bars : fr_Y := (yX7_bars, cX7_bars, 5, some .int, { frames := 6, cells := 0, slots := 0, locals := 138 })
theorem msX7_bars : fr_mV YX7_bars 2 7 := ⟨⟨_, _, rfl⟩, fr_in (i := 763) (by decide +kernel) rfl, fr_in (i := 764) (by decide +kernel) rfl, fr_in (i := 75) (by decide +kernel) rfl, fr_in (i := 765) (by decide +kernel) rfl, ⟨by decide +kernel, by decide +kernel, by decide +kernel⟩, rfl, rfl⟩
def YX7_best : fr_Y := (yX7_best, cX7_best, 5, some .int, { frames := 6, cells := 0, slots := 0, locals := 138 })
theorem msX7_best : fr_mV YX7_best 1 7 := ⟨⟨_, _, rfl⟩, fr_in (i := 759) (by decide +kernel) rfl, fr_in (i := 760) (by decide +kernel) rfl, fr_in (i := 75) (by decide +kernel) rfl, fr_in (i := 761) (by decide +kernel) rfl, ⟨by decide +kernel, by decide +kernel, by decide +kernel⟩, rfl, rfl⟩
def YX7_book : fr_Y := (yX7_book, cX7_book, 2, some .int, { frames := 6, cells := 0, slots := 0, locals := 134 })
theorem msX7_book : fr_mV YX7_book 0 7 := ⟨⟨_, _, rfl⟩, fr_in (i := 354) (by decide +kernel) rfl, fr_in (i := 355) (by decide +kernel) rfl, fr_in (i := 75) (by decide +kernel) rfl, fr_in (i := 356) (by decide +kernel) rfl, ⟨by decide +kernel, by decide +kernel, by decide +kernel⟩, rfl, rfl⟩
def YX7_count : fr_Y := (yX7_count, cX7_count, 2, some .int, { frames := 0, cells := 0, slots := 0, locals := 0 })
theorem msX7_count : fr_mV YX7_count 1 7 := ⟨⟨_, _, rfl⟩, fr_in (i := 775) (by decide +kernel) rfl, fr_in (i := 776) (by decide +kernel) rfl, fr_in (i := 75) (by decide +kernel) rfl, fr_in (i := 777) (by decide +kernel) rfl, ⟨by decide +kernel, by decide +kernel, by decide +kernel⟩, rfl, rfl⟩
def YX7_day : fr_Y := (yX7_day, cX7_day, 4, some .int, { frames := 6, cells := 0, slots := 0, locals := 138 })
theorem msX7_day : fr_mV YX7_day 3 7 := ⟨⟨_, _, rfl⟩, fr_in (i := 658) (by decide +kernel) rfl, fr_in (i := 659) (by decide +kernel) rfl, fr_in (i := 75) (by decide +kernel) rfl, fr_in (i := 660) (by decide +kernel) rfl, ⟨by decide +kernel, by decide +kernel, by decide +kernel⟩, rfl, rfl⟩
def YX7_duties : fr_Y := (yX7_duties, cX7_duties, 4, some .int, { frames := 6, cells := 0, slots := 0, locals := 138 })
theorem msX7_duties : fr_mV YX7_duties 3 7 := ⟨⟨_, _, rfl⟩, fr_in (i := 719) (by decide +kernel) rfl, fr_in (i := 720) (by decide +kernel) rfl, fr_in (i := 75) (by decide +kernel) rfl, fr_in (i := 721) (by decide +kernel) rfl, ⟨by decide +kernel, by decide +kernel, by decide +kernel⟩, rfl, rfl⟩
def YX7_enough : fr_Y := (yX7_enough, cX7_enough, 5, some .int, { frames := 6, cells := 0, slots := 0, locals := 138 })
theorem msX7_enough : fr_mV YX7_enough 2 7 := ⟨⟨_, _, rfl⟩, fr_in (i := 755) (by decide +kernel) rfl, fr_in (i := 756) (by decide +kernel) rfl, fr_in (i := 75) (by decide +kernel) rfl, fr_in (i := 757) (by decide +kernel) rfl, ⟨by decide +kernel, by decide +kernel, by decide +kernel⟩, rfl, rfl⟩
def YX7_fair : fr_Y := (yX7_fair, cX7_fair, 2, some .int, { frames := 6, cells := 0, slots := 0, locals := 138 })
theorem msX7_fair : fr_mV YX7_fair 1 7 := ⟨⟨_, _, rfl⟩, fr_in (i := 723) (by decide +kernel) rfl, fr_in (i := 724) (by decide +kernel) rfl, fr_in (i := 75) (by decide +kernel) rfl, fr_in (i := 725) (by decide +kernel) rfl, ⟨by decide +kernel, by decide +kernel, by decide +kernel⟩, rfl, rfl⟩
def YX7_fault : fr_Y := (yX7_fault, cX7_fault, 1, some .int, { frames := 0, cells := 0, slots := 0, locals := 0 })
theorem msX7_fault : fr_mV YX7_fault 0 7 := ⟨⟨_, _, rfl⟩, fr_in (i := 457) (by decide +kernel) rfl, fr_in (i := 458) (by decide +kernel) rfl, fr_in (i := 75) (by decide +kernel) rfl, fr_in (i := 459) (by decide +kernel) rfl, ⟨by decide +kernel, by decide +kernel, by decide +kernel⟩, rfl, rfl⟩
def YX7_feast : fr_Y := (yX7_feast, cX7_feast, 3, some .int, { frames := 2, cells := 0, slots := 0, locals := 44 })
theorem msX7_feast : fr_mV YX7_feast 2 7 := ⟨⟨_, _, rfl⟩, fr_in (i := 521) (by decide +kernel) rfl, fr_in (i := 522) (by decide +kernel) rfl, fr_in (i := 75) (by decide +kernel) rfl, fr_in (i := 523) (by decide +kernel) rfl, ⟨by decide +kernel, by decide +kernel, by decide +kernel⟩, rfl, rfl⟩
def YX7_feed : fr_Y := (yX7_feed, cX7_feed, 2, some .int, { frames := 1, cells := 0, slots := 0, locals := 22 })
theorem msX7_feed : fr_mV YX7_feed 1 7 := ⟨⟨_, _, rfl⟩, fr_in (i := 341) (by decide +kernel) rfl, fr_in (i := 342) (by decide +kernel) rfl, fr_in (i := 75) (by decide +kernel) rfl, fr_in (i := 343) (by decide +kernel) rfl, ⟨by decide +kernel, by decide +kernel, by decide +kernel⟩, rfl, rfl⟩
def YX7_held : fr_Y := (yX7_held, cX7_held, 4, some .int, { frames := 6, cells := 0, slots := 0, locals := 138 })
theorem msX7_held : fr_mV YX7_held 3 7 := ⟨⟨_, _, rfl⟩, fr_in (i := 689) (by decide +kernel) rfl, fr_in (i := 690) (by decide +kernel) rfl, fr_in (i := 75) (by decide +kernel) rfl, fr_in (i := 691) (by decide +kernel) rfl, ⟨by decide +kernel, by decide +kernel, by decide +kernel⟩, rfl, rfl⟩
def YX7_image : fr_Y := (yX7_image, cX7_image, 2, some .int, { frames := 2, cells := 0, slots := 0, locals := 51 })
theorem msX7_image : fr_mV YX7_image 1 7 := ⟨⟨_, _, rfl⟩, fr_in (i := 767) (by decide +kernel) rfl, fr_in (i := 768) (by decide +kernel) rfl, fr_in (i := 75) (by decide +kernel) rfl, fr_in (i := 769) (by decide +kernel) rfl, ⟨by decide +kernel, by decide +kernel, by decide +kernel⟩, rfl, rfl⟩
def YX7_isDay : fr_Y := (yX7_isDay, cX7_isDay, 3, some .boolean, { frames := 2, cells := 0, slots := 0, locals := 42 })
theorem msX7_isDay : fr_mV YX7_isDay 2 7 := ⟨⟨_, _, rfl⟩, fr_in (i := 663) (by decide +kernel) rfl, fr_in (i := 24) (by decide +kernel) rfl, fr_in (i := 75) (by decide +kernel) rfl, fr_in (i := 664) (by decide +kernel) rfl, ⟨by decide +kernel, by decide +kernel, by decide +kernel⟩, rfl, rfl⟩
def YX7_isYear : fr_Y := (yX7_isYear, cX7_isYear, 1, some .boolean, { frames := 1, cells := 0, slots := 0, locals := 22 })
theorem msX7_isYear : fr_mS YX7_isYear 1 := ⟨fr_in (i := 529) (by decide +kernel) rfl, fr_in (i := 75) (by decide +kernel) rfl, fr_in (i := 530) (by decide +kernel) rfl, ⟨by decide +kernel, by decide +kernel, by decide +kernel⟩, rfl, rfl⟩
def YX7_lastOf : fr_Y := (yX7_lastOf, cX7_lastOf, 2, some .int, { frames := 1, cells := 0, slots := 0, locals := 30 })
theorem msX7_lastOf : fr_mS YX7_lastOf 2 := ⟨fr_in (i := 736) (by decide +kernel) rfl, fr_in (i := 75) (by decide +kernel) rfl, fr_in (i := 737) (by decide +kernel) rfl, ⟨by decide +kernel, by decide +kernel, by decide +kernel⟩, rfl, rfl⟩
def YX7_law : fr_Y := (yX7_law, cX7_law, 4, some .int, { frames := 3, cells := 0, slots := 0, locals := 74 })
theorem msX7_law : fr_mV YX7_law 2 7 := ⟨⟨_, _, rfl⟩, fr_in (i := 507) (by decide +kernel) rfl, fr_in (i := 508) (by decide +kernel) rfl, fr_in (i := 75) (by decide +kernel) rfl, fr_in (i := 509) (by decide +kernel) rfl, ⟨by decide +kernel, by decide +kernel, by decide +kernel⟩, rfl, rfl⟩
def YX7_meet : fr_Y := (yX7_meet, cX7_meet, 7, some .int, { frames := 5, cells := 0, slots := 0, locals := 108 })
theorem msX7_meet : fr_mV YX7_meet 3 7 := ⟨⟨_, _, rfl⟩, fr_in (i := 732) (by decide +kernel) rfl, fr_in (i := 733) (by decide +kernel) rfl, fr_in (i := 75) (by decide +kernel) rfl, fr_in (i := 734) (by decide +kernel) rfl, ⟨by decide +kernel, by decide +kernel, by decide +kernel⟩, rfl, rfl⟩
def YX7_often : fr_Y := (yX7_often, cX7_often, 8, some .int, { frames := 6, cells := 0, slots := 0, locals := 138 })
theorem msX7_often : fr_mV YX7_often 4 7 := ⟨⟨_, _, rfl⟩, fr_in (i := 751) (by decide +kernel) rfl, fr_in (i := 752) (by decide +kernel) rfl, fr_in (i := 75) (by decide +kernel) rfl, fr_in (i := 753) (by decide +kernel) rfl, ⟨by decide +kernel, by decide +kernel, by decide +kernel⟩, rfl, rfl⟩
def YX7_psalm : fr_Y := (yX7_psalm, cX7_psalm, 7, some .int, { frames := 6, cells := 0, slots := 0, locals := 138 })
theorem msX7_psalm : fr_mV YX7_psalm 3 7 := ⟨⟨_, _, rfl⟩, fr_in (i := 693) (by decide +kernel) rfl, fr_in (i := 694) (by decide +kernel) rfl, fr_in (i := 75) (by decide +kernel) rfl, fr_in (i := 695) (by decide +kernel) rfl, ⟨by decide +kernel, by decide +kernel, by decide +kernel⟩, rfl, rfl⟩
def YX7_read : fr_Y := (yX7_read, cX7_read, 6, some .int, { frames := 6, cells := 0, slots := 0, locals := 138 })
theorem msX7_read : fr_mV YX7_read 3 7 := ⟨⟨_, _, rfl⟩, fr_in (i := 707) (by decide +kernel) rfl, fr_in (i := 708) (by decide +kernel) rfl, fr_in (i := 75) (by decide +kernel) rfl, fr_in (i := 709) (by decide +kernel) rfl, ⟨by decide +kernel, by decide +kernel, by decide +kernel⟩, rfl, rfl⟩
def YX7_restore : fr_Y := (yX7_restore, cX7_restore, 2, some .int, { frames := 2, cells := 0, slots := 0, locals := 51 })
theorem msX7_restore : fr_mV YX7_restore 1 7 := ⟨⟨_, _, rfl⟩, fr_in (i := 771) (by decide +kernel) rfl, fr_in (i := 772) (by decide +kernel) rfl, fr_in (i := 75) (by decide +kernel) rfl, fr_in (i := 773) (by decide +kernel) rfl, ⟨by decide +kernel, by decide +kernel, by decide +kernel⟩, rfl, rfl⟩
def YX7_sings : fr_Y := (yX7_sings, cX7_sings, 4, some .int, { frames := 6, cells := 0, slots := 0, locals := 138 })
theorem msX7_sings : fr_mV YX7_sings 3 7 := ⟨⟨_, _, rfl⟩, fr_in (i := 715) (by decide +kernel) rfl, fr_in (i := 716) (by decide +kernel) rfl, fr_in (i := 75) (by decide +kernel) rfl, fr_in (i := 717) (by decide +kernel) rfl, ⟨by decide +kernel, by decide +kernel, by decide +kernel⟩, rfl, rfl⟩
def YX7_springs : fr_Y := (yX7_springs, cX7_springs, 10, some .int, { frames := 3, cells := 0, slots := 0, locals := 65 })
theorem msX7_springs : fr_mV YX7_springs 3 7 := ⟨⟨_, _, rfl⟩, fr_in (i := 742) (by decide +kernel) rfl, fr_in (i := 743) (by decide +kernel) rfl, fr_in (i := 75) (by decide +kernel) rfl, fr_in (i := 744) (by decide +kernel) rfl, ⟨by decide +kernel, by decide +kernel, by decide +kernel⟩, rfl, rfl⟩
def YX7_undo : fr_Y := (yX7_undo, cX7_undo, 1, some .int, { frames := 2, cells := 0, slots := 0, locals := 52 })
theorem msX7_undo : fr_mV YX7_undo 0 7 := ⟨⟨_, _, rfl⟩, fr_in (i := 461) (by decide +kernel) rfl, fr_in (i := 462) (by decide +kernel) rfl, fr_in (i := 75) (by decide +kernel) rfl, fr_in (i := 463) (by decide +kernel) rfl, ⟨by decide +kernel, by decide +kernel, by decide +kernel⟩, rfl, rfl⟩
def YX7_within : fr_Y := (yX7_within, cX7_within, 3, some .boolean, { frames := 0, cells := 0, slots := 0, locals := 0 })
theorem msX7_within : fr_mS YX7_within 3 := ⟨fr_in (i := 345) (by decide +kernel) rfl, fr_in (i := 75) (by decide +kernel) rfl, fr_in (i := 346) (by decide +kernel) rfl, ⟨by decide +kernel, by decide +kernel, by decide +kernel⟩, rfl, rfl⟩
def YX7_year : fr_Y := (yX7_year, cX7_year, 4, some .int, { frames := 6, cells := 0, slots := 0, locals := 138 })
theorem msX7_year : fr_mV YX7_year 2 7 := ⟨⟨_, _, rfl⟩, fr_in (i := 525) (by decide +kernel) rfl, fr_in (i := 526) (by decide +kernel) rfl, fr_in (i := 75) (by decide +kernel) rfl, fr_in (i := 527) (by decide +kernel) rfl, ⟨by decide +kernel, by decide +kernel, by decide +kernel⟩, rfl, rfl⟩
def YX8_add : fr_Y := (yX8_add, cX8_add, 5, some .int, { frames := 2, cells := 0, slots := 0, locals := 46 })
theorem msX8_add : fr_mV YX8_add 4 8 := ⟨⟨_, _, rfl⟩, fr_in (i := 977) (by decide +kernel) rfl, fr_in (i := 978) (by decide +kernel) rfl, fr_in (i := 83) (by decide +kernel) rfl, fr_in (i := 979) (by decide +kernel) rfl, ⟨by decide +kernel, by decide +kernel, by decide +kernel⟩, rfl, rfl⟩
def YX8_alter : fr_Y := (yX8_alter, cX8_alter, 5, some .int, { frames := 3, cells := 0, slots := 0, locals := 69 })
theorem msX8_alter : fr_mV YX8_alter 3 8 := ⟨⟨_, _, rfl⟩, fr_in (i := 949) (by decide +kernel) rfl, fr_in (i := 950) (by decide +kernel) rfl, fr_in (i := 83) (by decide +kernel) rfl, fr_in (i := 951) (by decide +kernel) rfl, ⟨by decide +kernel, by decide +kernel, by decide +kernel⟩, rfl, rfl⟩
def YX8_away : fr_Y := (yX8_away, cX8_away, 4, some .int, { frames := 2, cells := 0, slots := 0, locals := 46 })
theorem msX8_away : fr_mV YX8_away 3 8 := ⟨⟨_, _, rfl⟩, fr_in (i := 997) (by decide +kernel) rfl, fr_in (i := 998) (by decide +kernel) rfl, fr_in (i := 83) (by decide +kernel) rfl, fr_in (i := 999) (by decide +kernel) rfl, ⟨by decide +kernel, by decide +kernel, by decide +kernel⟩, rfl, rfl⟩
def YX8_bad : fr_Y := (yX8_bad, cX8_bad, 2, none, { frames := 0, cells := 0, slots := 0, locals := 0 })
theorem msX8_bad : fr_mV YX8_bad 1 8 := ⟨⟨_, _, rfl⟩, fr_in (i := 909) (by decide +kernel) rfl, fr_in (i := 32) (by decide +kernel) rfl, fr_in (i := 83) (by decide +kernel) rfl, fr_in (i := 910) (by decide +kernel) rfl, ⟨by decide +kernel, by decide +kernel, by decide +kernel⟩, rfl, rfl⟩
def YX8_bars : fr_Y := (yX8_bars, cX8_bars, 5, some .int, { frames := 6, cells := 0, slots := 0, locals := 133 })
theorem msX8_bars : fr_mV YX8_bars 2 8 := ⟨⟨_, _, rfl⟩, fr_in (i := 1189) (by decide +kernel) rfl, fr_in (i := 1190) (by decide +kernel) rfl, fr_in (i := 83) (by decide +kernel) rfl, fr_in (i := 1191) (by decide +kernel) rfl, ⟨by decide +kernel, by decide +kernel, by decide +kernel⟩, rfl, rfl⟩
def YX8_best : fr_Y := (yX8_best, cX8_best, 6, some .int, { frames := 6, cells := 0, slots := 0, locals := 133 })
theorem msX8_best : fr_mV YX8_best 1 8 := ⟨⟨_, _, rfl⟩, fr_in (i := 1185) (by decide +kernel) rfl, fr_in (i := 1186) (by decide +kernel) rfl, fr_in (i := 83) (by decide +kernel) rfl, fr_in (i := 1187) (by decide +kernel) rfl, ⟨by decide +kernel, by decide +kernel, by decide +kernel⟩, rfl, rfl⟩
def YX8_book : fr_Y := (yX8_book, cX8_book, 2, some .int, { frames := 6, cells := 0, slots := 0, locals := 134 })
theorem msX8_book : fr_mV YX8_book 0 8 := ⟨⟨_, _, rfl⟩, fr_in (i := 878) (by decide +kernel) rfl, fr_in (i := 879) (by decide +kernel) rfl, fr_in (i := 83) (by decide +kernel) rfl, fr_in (i := 880) (by decide +kernel) rfl, ⟨by decide +kernel, by decide +kernel, by decide +kernel⟩, rfl, rfl⟩
def YX8_byteAt : fr_Y := (yX8_byteAt, cX8_byteAt, 2, some .int, { frames := 0, cells := 0, slots := 0, locals := 0 })
theorem msX8_byteAt : fr_mV YX8_byteAt 1 8 := ⟨⟨_, _, rfl⟩, fr_in (i := 889) (by decide +kernel) rfl, fr_in (i := 28) (by decide +kernel) rfl, fr_in (i := 83) (by decide +kernel) rfl, fr_in (i := 890) (by decide +kernel) rfl, ⟨by decide +kernel, by decide +kernel, by decide +kernel⟩, rfl, rfl⟩
def YX8_choose : fr_Y := (yX8_choose, cX8_choose, 8, some .int, { frames := 2, cells := 0, slots := 0, locals := 47 })
theorem msX8_choose : fr_mV YX8_choose 4 8 := ⟨⟨_, _, rfl⟩, fr_in (i := 1104) (by decide +kernel) rfl, fr_in (i := 65) (by decide +kernel) rfl, fr_in (i := 83) (by decide +kernel) rfl, fr_in (i := 1105) (by decide +kernel) rfl, ⟨by decide +kernel, by decide +kernel, by decide +kernel⟩, rfl, rfl⟩
def YX8_colourOf : fr_Y := (yX8_colourOf, cX8_colourOf, 7, some .int, { frames := 1, cells := 0, slots := 0, locals := 22 })
theorem msX8_colourOf : fr_mV YX8_colourOf 1 8 := ⟨⟨_, _, rfl⟩, fr_in (i := 1128) (by decide +kernel) rfl, fr_in (i := 70) (by decide +kernel) rfl, fr_in (i := 83) (by decide +kernel) rfl, fr_in (i := 1129) (by decide +kernel) rfl, ⟨by decide +kernel, by decide +kernel, by decide +kernel⟩, rfl, rfl⟩
def YX8_comes : fr_Y := (yX8_comes, cX8_comes, 6, none, { frames := 2, cells := 0, slots := 0, locals := 44 })
theorem msX8_comes : fr_mV YX8_comes 1 8 := ⟨⟨_, _, rfl⟩, fr_in (i := 1064) (by decide +kernel) rfl, fr_in (i := 55) (by decide +kernel) rfl, fr_in (i := 83) (by decide +kernel) rfl, fr_in (i := 1065) (by decide +kernel) rfl, ⟨by decide +kernel, by decide +kernel, by decide +kernel⟩, rfl, rfl⟩
def YX8_copies : fr_Y := (yX8_copies, cX8_copies, 5, none, { frames := 0, cells := 0, slots := 0, locals := 0 })
theorem msX8_copies : fr_mS YX8_copies 4 := ⟨fr_in (i := 937) (by decide +kernel) rfl, fr_in (i := 83) (by decide +kernel) rfl, fr_in (i := 938) (by decide +kernel) rfl, ⟨by decide +kernel, by decide +kernel, by decide +kernel⟩, rfl, rfl⟩
def YX8_count : fr_Y := (yX8_count, cX8_count, 2, some .int, { frames := 0, cells := 0, slots := 0, locals := 0 })
theorem msX8_count : fr_mV YX8_count 1 8 := ⟨⟨_, _, rfl⟩, fr_in (i := 1201) (by decide +kernel) rfl, fr_in (i := 1202) (by decide +kernel) rfl, fr_in (i := 83) (by decide +kernel) rfl, fr_in (i := 1203) (by decide +kernel) rfl, ⟨by decide +kernel, by decide +kernel, by decide +kernel⟩, rfl, rfl⟩
def YX8_day : fr_Y := (yX8_day, cX8_day, 4, some .int, { frames := 7, cells := 0, slots := 0, locals := 156 })
theorem msX8_day : fr_mV YX8_day 3 8 := ⟨⟨_, _, rfl⟩, fr_in (i := 1119) (by decide +kernel) rfl, fr_in (i := 1120) (by decide +kernel) rfl, fr_in (i := 83) (by decide +kernel) rfl, fr_in (i := 1121) (by decide +kernel) rfl, ⟨by decide +kernel, by decide +kernel, by decide +kernel⟩, rfl, rfl⟩
def YX8_dayOfDate : fr_Y := (yX8_dayOfDate, cX8_dayOfDate, 3, some .int, { frames := 1, cells := 0, slots := 0, locals := 21 })
theorem msX8_dayOfDate : fr_mV YX8_dayOfDate 2 8 := ⟨⟨_, _, rfl⟩, fr_in (i := 1036) (by decide +kernel) rfl, fr_in (i := 48) (by decide +kernel) rfl, fr_in (i := 83) (by decide +kernel) rfl, fr_in (i := 1037) (by decide +kernel) rfl, ⟨by decide +kernel, by decide +kernel, by decide +kernel⟩, rfl, rfl⟩
def YX8_duties : fr_Y := (yX8_duties, cX8_duties, 4, some .int, { frames := 7, cells := 0, slots := 0, locals := 156 })
theorem msX8_duties : fr_mV YX8_duties 3 8 := ⟨⟨_, _, rfl⟩, fr_in (i := 1155) (by decide +kernel) rfl, fr_in (i := 1156) (by decide +kernel) rfl, fr_in (i := 83) (by decide +kernel) rfl, fr_in (i := 1157) (by decide +kernel) rfl, ⟨by decide +kernel, by decide +kernel, by decide +kernel⟩, rfl, rfl⟩
def YX8_enough : fr_Y := (yX8_enough, cX8_enough, 5, some .int, { frames := 6, cells := 0, slots := 0, locals := 133 })
theorem msX8_enough : fr_mV YX8_enough 2 8 := ⟨⟨_, _, rfl⟩, fr_in (i := 1180) (by decide +kernel) rfl, fr_in (i := 1181) (by decide +kernel) rfl, fr_in (i := 83) (by decide +kernel) rfl, fr_in (i := 1182) (by decide +kernel) rfl, ⟨by decide +kernel, by decide +kernel, by decide +kernel⟩, rfl, rfl⟩
def YX8_fair : fr_Y := (yX8_fair, cX8_fair, 2, some .int, { frames := 6, cells := 0, slots := 0, locals := 133 })
theorem msX8_fair : fr_mV YX8_fair 1 8 := ⟨⟨_, _, rfl⟩, fr_in (i := 1159) (by decide +kernel) rfl, fr_in (i := 1160) (by decide +kernel) rfl, fr_in (i := 83) (by decide +kernel) rfl, fr_in (i := 1161) (by decide +kernel) rfl, ⟨by decide +kernel, by decide +kernel, by decide +kernel⟩, rfl, rfl⟩
def YX8_fault : fr_Y := (yX8_fault, cX8_fault, 1, some .int, { frames := 0, cells := 0, slots := 0, locals := 0 })
theorem msX8_fault : fr_mV YX8_fault 0 8 := ⟨⟨_, _, rfl⟩, fr_in (i := 940) (by decide +kernel) rfl, fr_in (i := 941) (by decide +kernel) rfl, fr_in (i := 83) (by decide +kernel) rfl, fr_in (i := 942) (by decide +kernel) rfl, ⟨by decide +kernel, by decide +kernel, by decide +kernel⟩, rfl, rfl⟩
def YX8_feast : fr_Y := (yX8_feast, cX8_feast, 3, some .int, { frames := 2, cells := 0, slots := 0, locals := 46 })
theorem msX8_feast : fr_mV YX8_feast 2 8 := ⟨⟨_, _, rfl⟩, fr_in (i := 1006) (by decide +kernel) rfl, fr_in (i := 1007) (by decide +kernel) rfl, fr_in (i := 83) (by decide +kernel) rfl, fr_in (i := 1008) (by decide +kernel) rfl, ⟨by decide +kernel, by decide +kernel, by decide +kernel⟩, rfl, rfl⟩
def YX8_feed : fr_Y := (yX8_feed, cX8_feed, 2, some .int, { frames := 1, cells := 0, slots := 0, locals := 25 })
theorem msX8_feed : fr_mV YX8_feed 1 8 := ⟨⟨_, _, rfl⟩, fr_in (i := 868) (by decide +kernel) rfl, fr_in (i := 869) (by decide +kernel) rfl, fr_in (i := 83) (by decide +kernel) rfl, fr_in (i := 870) (by decide +kernel) rfl, ⟨by decide +kernel, by decide +kernel, by decide +kernel⟩, rfl, rfl⟩
def YX8_freeBehind : fr_Y := (yX8_freeBehind, cX8_freeBehind, 4, some .int, { frames := 1, cells := 0, slots := 0, locals := 21 })
theorem msX8_freeBehind : fr_mV YX8_freeBehind 2 8 := ⟨⟨_, _, rfl⟩, fr_in (i := 1076) (by decide +kernel) rfl, fr_in (i := 58) (by decide +kernel) rfl, fr_in (i := 83) (by decide +kernel) rfl, fr_in (i := 1077) (by decide +kernel) rfl, ⟨by decide +kernel, by decide +kernel, by decide +kernel⟩, rfl, rfl⟩
def YX8_goesOn : fr_Y := (yX8_goesOn, cX8_goesOn, 1, none, { frames := 2, cells := 0, slots := 0, locals := 46 })
theorem msX8_goesOn : fr_mV YX8_goesOn 0 8 := ⟨⟨_, _, rfl⟩, fr_in (i := 913) (by decide +kernel) rfl, fr_in (i := 33) (by decide +kernel) rfl, fr_in (i := 83) (by decide +kernel) rfl, fr_in (i := 914) (by decide +kernel) rfl, ⟨by decide +kernel, by decide +kernel, by decide +kernel⟩, rfl, rfl⟩
def YX8_had : fr_Y := (yX8_had, cX8_had, 5, some .boolean, { frames := 0, cells := 0, slots := 0, locals := 0 })
theorem msX8_had : fr_mV YX8_had 2 8 := ⟨⟨_, _, rfl⟩, fr_in (i := 1112) (by decide +kernel) rfl, fr_in (i := 67) (by decide +kernel) rfl, fr_in (i := 83) (by decide +kernel) rfl, fr_in (i := 1113) (by decide +kernel) rfl, ⟨by decide +kernel, by decide +kernel, by decide +kernel⟩, rfl, rfl⟩
def YX8_hasDay : fr_Y := (yX8_hasDay, cX8_hasDay, 4, some .boolean, { frames := 6, cells := 0, slots := 0, locals := 133 })
theorem msX8_hasDay : fr_mV YX8_hasDay 3 8 := ⟨⟨_, _, rfl⟩, fr_in (i := 1124) (by decide +kernel) rfl, fr_in (i := 69) (by decide +kernel) rfl, fr_in (i := 83) (by decide +kernel) rfl, fr_in (i := 1125) (by decide +kernel) rfl, ⟨by decide +kernel, by decide +kernel, by decide +kernel⟩, rfl, rfl⟩
def YX8_held : fr_Y := (yX8_held, cX8_held, 4, some .int, { frames := 6, cells := 0, slots := 0, locals := 133 })
theorem msX8_held : fr_mV YX8_held 3 8 := ⟨⟨_, _, rfl⟩, fr_in (i := 1135) (by decide +kernel) rfl, fr_in (i := 1136) (by decide +kernel) rfl, fr_in (i := 83) (by decide +kernel) rfl, fr_in (i := 1137) (by decide +kernel) rfl, ⟨by decide +kernel, by decide +kernel, by decide +kernel⟩, rfl, rfl⟩
def YX8_holds : fr_Y := (yX8_holds, cX8_holds, 4, none, { frames := 0, cells := 0, slots := 0, locals := 0 })
theorem msX8_holds : fr_mV YX8_holds 3 8 := ⟨⟨_, _, rfl⟩, fr_in (i := 1072) (by decide +kernel) rfl, fr_in (i := 57) (by decide +kernel) rfl, fr_in (i := 83) (by decide +kernel) rfl, fr_in (i := 1073) (by decide +kernel) rfl, ⟨by decide +kernel, by decide +kernel, by decide +kernel⟩, rfl, rfl⟩
def YX8_image : fr_Y := (yX8_image, cX8_image, 2, some .int, { frames := 1, cells := 0, slots := 0, locals := 25 })
theorem msX8_image : fr_mV YX8_image 1 8 := ⟨⟨_, _, rfl⟩, fr_in (i := 1193) (by decide +kernel) rfl, fr_in (i := 1194) (by decide +kernel) rfl, fr_in (i := 83) (by decide +kernel) rfl, fr_in (i := 1195) (by decide +kernel) rfl, ⟨by decide +kernel, by decide +kernel, by decide +kernel⟩, rfl, rfl⟩
def YX8_in : fr_Y := (yX8_in, cX8_in, 6, some .boolean, { frames := 0, cells := 0, slots := 0, locals := 0 })
theorem msX8_in : fr_mS YX8_in 3 := ⟨fr_in (i := 873) (by decide +kernel) rfl, fr_in (i := 83) (by decide +kernel) rfl, fr_in (i := 874) (by decide +kernel) rfl, ⟨by decide +kernel, by decide +kernel, by decide +kernel⟩, rfl, rfl⟩
def YX8_isAhead : fr_Y := (yX8_isAhead, cX8_isAhead, 3, some .boolean, { frames := 1, cells := 0, slots := 0, locals := 22 })
theorem msX8_isAhead : fr_mV YX8_isAhead 2 8 := ⟨⟨_, _, rfl⟩, fr_in (i := 1060) (by decide +kernel) rfl, fr_in (i := 54) (by decide +kernel) rfl, fr_in (i := 83) (by decide +kernel) rfl, fr_in (i := 1061) (by decide +kernel) rfl, ⟨by decide +kernel, by decide +kernel, by decide +kernel⟩, rfl, rfl⟩
def YX8_isAway : fr_Y := (yX8_isAway, cX8_isAway, 3, some .boolean, { frames := 1, cells := 0, slots := 0, locals := 25 })
theorem msX8_isAway : fr_mV YX8_isAway 2 8 := ⟨⟨_, _, rfl⟩, fr_in (i := 1108) (by decide +kernel) rfl, fr_in (i := 66) (by decide +kernel) rfl, fr_in (i := 83) (by decide +kernel) rfl, fr_in (i := 1109) (by decide +kernel) rfl, ⟨by decide +kernel, by decide +kernel, by decide +kernel⟩, rfl, rfl⟩
def YX8_isBetter : fr_Y := (yX8_isBetter, cX8_isBetter, 4, some .boolean, { frames := 0, cells := 0, slots := 0, locals := 0 })
theorem msX8_isBetter : fr_mV YX8_isBetter 3 8 := ⟨⟨_, _, rfl⟩, fr_in (i := 1116) (by decide +kernel) rfl, fr_in (i := 68) (by decide +kernel) rfl, fr_in (i := 83) (by decide +kernel) rfl, fr_in (i := 1117) (by decide +kernel) rfl, ⟨by decide +kernel, by decide +kernel, by decide +kernel⟩, rfl, rfl⟩
def YX8_isBook : fr_Y := (yX8_isBook, cX8_isBook, 1, some .boolean, { frames := 0, cells := 0, slots := 0, locals := 0 })
theorem msX8_isBook : fr_mV YX8_isBook 0 8 := ⟨⟨_, _, rfl⟩, fr_in (i := 982) (by decide +kernel) rfl, fr_in (i := 42) (by decide +kernel) rfl, fr_in (i := 83) (by decide +kernel) rfl, fr_in (i := 983) (by decide +kernel) rfl, ⟨by decide +kernel, by decide +kernel, by decide +kernel⟩, rfl, rfl⟩
def YX8_isChoir : fr_Y := (yX8_isChoir, cX8_isChoir, 2, some .boolean, { frames := 1, cells := 0, slots := 0, locals := 25 })
theorem msX8_isChoir : fr_mV YX8_isChoir 1 8 := ⟨⟨_, _, rfl⟩, fr_in (i := 1002) (by decide +kernel) rfl, fr_in (i := 43) (by decide +kernel) rfl, fr_in (i := 83) (by decide +kernel) rfl, fr_in (i := 1003) (by decide +kernel) rfl, ⟨by decide +kernel, by decide +kernel, by decide +kernel⟩, rfl, rfl⟩
def YX8_isFeast : fr_Y := (yX8_isFeast, cX8_isFeast, 2, some .boolean, { frames := 1, cells := 0, slots := 0, locals := 25 })
theorem msX8_isFeast : fr_mV YX8_isFeast 1 8 := ⟨⟨_, _, rfl⟩, fr_in (i := 954) (by decide +kernel) rfl, fr_in (i := 38) (by decide +kernel) rfl, fr_in (i := 83) (by decide +kernel) rfl, fr_in (i := 955) (by decide +kernel) rfl, ⟨by decide +kernel, by decide +kernel, by decide +kernel⟩, rfl, rfl⟩
def YX8_isFree : fr_Y := (yX8_isFree, cX8_isFree, 2, some .boolean, { frames := 0, cells := 0, slots := 0, locals := 0 })
theorem msX8_isFree : fr_mV YX8_isFree 1 8 := ⟨⟨_, _, rfl⟩, fr_in (i := 1068) (by decide +kernel) rfl, fr_in (i := 56) (by decide +kernel) rfl, fr_in (i := 83) (by decide +kernel) rfl, fr_in (i := 1069) (by decide +kernel) rfl, ⟨by decide +kernel, by decide +kernel, by decide +kernel⟩, rfl, rfl⟩
def YX8_isHeld : fr_Y := (yX8_isHeld, cX8_isHeld, 2, some .boolean, { frames := 0, cells := 0, slots := 0, locals := 0 })
theorem msX8_isHeld : fr_mV YX8_isHeld 1 8 := ⟨⟨_, _, rfl⟩, fr_in (i := 1088) (by decide +kernel) rfl, fr_in (i := 61) (by decide +kernel) rfl, fr_in (i := 83) (by decide +kernel) rfl, fr_in (i := 1089) (by decide +kernel) rfl, ⟨by decide +kernel, by decide +kernel, by decide +kernel⟩, rfl, rfl⟩
def YX8_isLaw : fr_Y := (yX8_isLaw, cX8_isLaw, 2, some .boolean, { frames := 1, cells := 0, slots := 0, locals := 25 })
theorem msX8_isLaw : fr_mS YX8_isLaw 2 := ⟨fr_in (i := 989) (by decide +kernel) rfl, fr_in (i := 83) (by decide +kernel) rfl, fr_in (i := 990) (by decide +kernel) rfl, ⟨by decide +kernel, by decide +kernel, by decide +kernel⟩, rfl, rfl⟩
def YX8_isLeap : fr_Y := (yX8_isLeap, cX8_isLeap, 2, some .boolean, { frames := 0, cells := 0, slots := 0, locals := 0 })
theorem msX8_isLeap : fr_mV YX8_isLeap 1 8 := ⟨⟨_, _, rfl⟩, fr_in (i := 1028) (by decide +kernel) rfl, fr_in (i := 46) (by decide +kernel) rfl, fr_in (i := 83) (by decide +kernel) rfl, fr_in (i := 1029) (by decide +kernel) rfl, ⟨by decide +kernel, by decide +kernel, by decide +kernel⟩, rfl, rfl⟩
def YX8_isLetter : fr_Y := (yX8_isLetter, cX8_isLetter, 2, some .boolean, { frames := 0, cells := 0, slots := 0, locals := 0 })
theorem msX8_isLetter : fr_mV YX8_isLetter 1 8 := ⟨⟨_, _, rfl⟩, fr_in (i := 905) (by decide +kernel) rfl, fr_in (i := 31) (by decide +kernel) rfl, fr_in (i := 83) (by decide +kernel) rfl, fr_in (i := 906) (by decide +kernel) rfl, ⟨by decide +kernel, by decide +kernel, by decide +kernel⟩, rfl, rfl⟩
def YX8_isN : fr_Y := (yX8_isN, cX8_isN, 2, some .boolean, { frames := 1, cells := 0, slots := 0, locals := 25 })
theorem msX8_isN : fr_mS YX8_isN 2 := ⟨fr_in (i := 966) (by decide +kernel) rfl, fr_in (i := 83) (by decide +kernel) rfl, fr_in (i := 967) (by decide +kernel) rfl, ⟨by decide +kernel, by decide +kernel, by decide +kernel⟩, rfl, rfl⟩
def YX8_isYear : fr_Y := (yX8_isYear, cX8_isYear, 1, some .boolean, { frames := 1, cells := 0, slots := 0, locals := 25 })
theorem msX8_isYear : fr_mS YX8_isYear 1 := ⟨fr_in (i := 1014) (by decide +kernel) rfl, fr_in (i := 83) (by decide +kernel) rfl, fr_in (i := 1015) (by decide +kernel) rfl, ⟨by decide +kernel, by decide +kernel, by decide +kernel⟩, rfl, rfl⟩
def YX8_law : fr_Y := (yX8_law, cX8_law, 4, some .int, { frames := 2, cells := 0, slots := 0, locals := 46 })
theorem msX8_law : fr_mV YX8_law 2 8 := ⟨⟨_, _, rfl⟩, fr_in (i := 985) (by decide +kernel) rfl, fr_in (i := 986) (by decide +kernel) rfl, fr_in (i := 83) (by decide +kernel) rfl, fr_in (i := 987) (by decide +kernel) rfl, ⟨by decide +kernel, by decide +kernel, by decide +kernel⟩, rfl, rfl⟩
def YX8_lays : fr_Y := (yX8_lays, cX8_lays, 4, none, { frames := 5, cells := 0, slots := 0, locals := 110 })
theorem msX8_lays : fr_mV YX8_lays 2 8 := ⟨⟨_, _, rfl⟩, fr_in (i := 1020) (by decide +kernel) rfl, fr_in (i := 44) (by decide +kernel) rfl, fr_in (i := 83) (by decide +kernel) rfl, fr_in (i := 1021) (by decide +kernel) rfl, ⟨by decide +kernel, by decide +kernel, by decide +kernel⟩, rfl, rfl⟩
def YX8_laysRota : fr_Y := (yX8_laysRota, cX8_laysRota, 6, none, { frames := 3, cells := 0, slots := 0, locals := 74 })
theorem msX8_laysRota : fr_mV YX8_laysRota 2 8 := ⟨⟨_, _, rfl⟩, fr_in (i := 1092) (by decide +kernel) rfl, fr_in (i := 62) (by decide +kernel) rfl, fr_in (i := 83) (by decide +kernel) rfl, fr_in (i := 1093) (by decide +kernel) rfl, ⟨by decide +kernel, by decide +kernel, by decide +kernel⟩, rfl, rfl⟩
def YX8_letter : fr_Y := (yX8_letter, cX8_letter, 2, none, { frames := 3, cells := 0, slots := 0, locals := 66 })
theorem msX8_letter : fr_mV YX8_letter 1 8 := ⟨⟨_, _, rfl⟩, fr_in (i := 901) (by decide +kernel) rfl, fr_in (i := 30) (by decide +kernel) rfl, fr_in (i := 83) (by decide +kernel) rfl, fr_in (i := 902) (by decide +kernel) rfl, ⟨by decide +kernel, by decide +kernel, by decide +kernel⟩, rfl, rfl⟩
def YX8_manyHeld : fr_Y := (yX8_manyHeld, cX8_manyHeld, 4, some .int, { frames := 1, cells := 0, slots := 0, locals := 21 })
theorem msX8_manyHeld : fr_mV YX8_manyHeld 1 8 := ⟨⟨_, _, rfl⟩, fr_in (i := 1084) (by decide +kernel) rfl, fr_in (i := 60) (by decide +kernel) rfl, fr_in (i := 83) (by decide +kernel) rfl, fr_in (i := 1085) (by decide +kernel) rfl, ⟨by decide +kernel, by decide +kernel, by decide +kernel⟩, rfl, rfl⟩
def YX8_mayBe : fr_Y := (yX8_mayBe, cX8_mayBe, 4, some .boolean, { frames := 2, cells := 0, slots := 0, locals := 46 })
theorem msX8_mayBe : fr_mV YX8_mayBe 3 8 := ⟨⟨_, _, rfl⟩, fr_in (i := 958) (by decide +kernel) rfl, fr_in (i := 39) (by decide +kernel) rfl, fr_in (i := 83) (by decide +kernel) rfl, fr_in (i := 959) (by decide +kernel) rfl, ⟨by decide +kernel, by decide +kernel, by decide +kernel⟩, rfl, rfl⟩
def YX8_meet : fr_Y := (yX8_meet, cX8_meet, 6, some .int, { frames := 5, cells := 0, slots := 0, locals := 110 })
theorem msX8_meet : fr_mV YX8_meet 3 8 := ⟨⟨_, _, rfl⟩, fr_in (i := 1167) (by decide +kernel) rfl, fr_in (i := 1168) (by decide +kernel) rfl, fr_in (i := 83) (by decide +kernel) rfl, fr_in (i := 1169) (by decide +kernel) rfl, ⟨by decide +kernel, by decide +kernel, by decide +kernel⟩, rfl, rfl⟩
def YX8_moon : fr_Y := (yX8_moon, cX8_moon, 2, some .int, { frames := 2, cells := 0, slots := 0, locals := 43 })
theorem msX8_moon : fr_mV YX8_moon 1 8 := ⟨⟨_, _, rfl⟩, fr_in (i := 1052) (by decide +kernel) rfl, fr_in (i := 52) (by decide +kernel) rfl, fr_in (i := 83) (by decide +kernel) rfl, fr_in (i := 1053) (by decide +kernel) rfl, ⟨by decide +kernel, by decide +kernel, by decide +kernel⟩, rfl, rfl⟩
def YX8_nextFeast : fr_Y := (yX8_nextFeast, cX8_nextFeast, 3, some .int, { frames := 2, cells := 0, slots := 0, locals := 44 })
theorem msX8_nextFeast : fr_mV YX8_nextFeast 0 8 := ⟨⟨_, _, rfl⟩, fr_in (i := 1056) (by decide +kernel) rfl, fr_in (i := 53) (by decide +kernel) rfl, fr_in (i := 83) (by decide +kernel) rfl, fr_in (i := 1057) (by decide +kernel) rfl, ⟨by decide +kernel, by decide +kernel, by decide +kernel⟩, rfl, rfl⟩
def YX8_notes : fr_Y := (yX8_notes, cX8_notes, 2, none, { frames := 1, cells := 0, slots := 0, locals := 24 })
theorem msX8_notes : fr_mV YX8_notes 0 8 := ⟨⟨_, _, rfl⟩, fr_in (i := 974) (by decide +kernel) rfl, fr_in (i := 41) (by decide +kernel) rfl, fr_in (i := 83) (by decide +kernel) rfl, fr_in (i := 975) (by decide +kernel) rfl, ⟨by decide +kernel, by decide +kernel, by decide +kernel⟩, rfl, rfl⟩
def YX8_number : fr_Y := (yX8_number, cX8_number, 5, some .int, { frames := 3, cells := 0, slots := 0, locals := 66 })
theorem msX8_number : fr_mV YX8_number 3 8 := ⟨⟨_, _, rfl⟩, fr_in (i := 917) (by decide +kernel) rfl, fr_in (i := 34) (by decide +kernel) rfl, fr_in (i := 83) (by decide +kernel) rfl, fr_in (i := 918) (by decide +kernel) rfl, ⟨by decide +kernel, by decide +kernel, by decide +kernel⟩, rfl, rfl⟩
def YX8_of : fr_Y := (yX8_of, cX8_of, 3, some .int, { frames := 0, cells := 0, slots := 0, locals := 0 })
theorem msX8_of : fr_mV YX8_of 2 8 := ⟨⟨_, _, rfl⟩, fr_in (i := 963) (by decide +kernel) rfl, fr_in (i := 40) (by decide +kernel) rfl, fr_in (i := 83) (by decide +kernel) rfl, fr_in (i := 964) (by decide +kernel) rfl, ⟨by decide +kernel, by decide +kernel, by decide +kernel⟩, rfl, rfl⟩
def YX8_often : fr_Y := (yX8_often, cX8_often, 7, some .int, { frames := 6, cells := 0, slots := 0, locals := 133 })
theorem msX8_often : fr_mV YX8_often 4 8 := ⟨⟨_, _, rfl⟩, fr_in (i := 1175) (by decide +kernel) rfl, fr_in (i := 1176) (by decide +kernel) rfl, fr_in (i := 83) (by decide +kernel) rfl, fr_in (i := 1177) (by decide +kernel) rfl, ⟨by decide +kernel, by decide +kernel, by decide +kernel⟩, rfl, rfl⟩
def YX8_opens : fr_Y := (yX8_opens, cX8_opens, 4, none, { frames := 1, cells := 0, slots := 0, locals := 21 })
theorem msX8_opens : fr_mV YX8_opens 1 8 := ⟨⟨_, _, rfl⟩, fr_in (i := 1024) (by decide +kernel) rfl, fr_in (i := 45) (by decide +kernel) rfl, fr_in (i := 83) (by decide +kernel) rfl, fr_in (i := 1025) (by decide +kernel) rfl, ⟨by decide +kernel, by decide +kernel, by decide +kernel⟩, rfl, rfl⟩
def YX8_ownDay : fr_Y := (yX8_ownDay, cX8_ownDay, 6, some .int, { frames := 4, cells := 0, slots := 0, locals := 85 })
theorem msX8_ownDay : fr_mV YX8_ownDay 2 8 := ⟨⟨_, _, rfl⟩, fr_in (i := 1032) (by decide +kernel) rfl, fr_in (i := 47) (by decide +kernel) rfl, fr_in (i := 83) (by decide +kernel) rfl, fr_in (i := 1033) (by decide +kernel) rfl, ⟨by decide +kernel, by decide +kernel, by decide +kernel⟩, rfl, rfl⟩
def YX8_psalm : fr_Y := (yX8_psalm, cX8_psalm, 5, some .int, { frames := 7, cells := 0, slots := 0, locals := 156 })
theorem msX8_psalm : fr_mV YX8_psalm 3 8 := ⟨⟨_, _, rfl⟩, fr_in (i := 1139) (by decide +kernel) rfl, fr_in (i := 1140) (by decide +kernel) rfl, fr_in (i := 83) (by decide +kernel) rfl, fr_in (i := 1141) (by decide +kernel) rfl, ⟨by decide +kernel, by decide +kernel, by decide +kernel⟩, rfl, rfl⟩
def YX8_puts : fr_Y := (yX8_puts, cX8_puts, 6, none, { frames := 0, cells := 0, slots := 0, locals := 0 })
theorem msX8_puts : fr_mS YX8_puts 5 := ⟨fr_in (i := 929) (by decide +kernel) rfl, fr_in (i := 83) (by decide +kernel) rfl, fr_in (i := 930) (by decide +kernel) rfl, ⟨by decide +kernel, by decide +kernel, by decide +kernel⟩, rfl, rfl⟩
def YX8_rankOf : fr_Y := (yX8_rankOf, cX8_rankOf, 2, some .int, { frames := 1, cells := 0, slots := 0, locals := 22 })
theorem msX8_rankOf : fr_mV YX8_rankOf 1 8 := ⟨⟨_, _, rfl⟩, fr_in (i := 1100) (by decide +kernel) rfl, fr_in (i := 64) (by decide +kernel) rfl, fr_in (i := 83) (by decide +kernel) rfl, fr_in (i := 1101) (by decide +kernel) rfl, ⟨by decide +kernel, by decide +kernel, by decide +kernel⟩, rfl, rfl⟩
def YX8_read : fr_Y := (yX8_read, cX8_read, 7, some .int, { frames := 6, cells := 0, slots := 0, locals := 133 })
theorem msX8_read : fr_mV YX8_read 3 8 := ⟨⟨_, _, rfl⟩, fr_in (i := 1147) (by decide +kernel) rfl, fr_in (i := 1148) (by decide +kernel) rfl, fr_in (i := 83) (by decide +kernel) rfl, fr_in (i := 1149) (by decide +kernel) rfl, ⟨by decide +kernel, by decide +kernel, by decide +kernel⟩, rfl, rfl⟩
def YX8_readings : fr_Y := (yX8_readings, cX8_readings, 4, some .int, { frames := 2, cells := 0, slots := 0, locals := 43 })
theorem msX8_readings : fr_mV YX8_readings 1 8 := ⟨⟨_, _, rfl⟩, fr_in (i := 1144) (by decide +kernel) rfl, fr_in (i := 72) (by decide +kernel) rfl, fr_in (i := 83) (by decide +kernel) rfl, fr_in (i := 1145) (by decide +kernel) rfl, ⟨by decide +kernel, by decide +kernel, by decide +kernel⟩, rfl, rfl⟩
def YX8_reads : fr_Y := (yX8_reads, cX8_reads, 2, none, { frames := 1, cells := 0, slots := 0, locals := 25 })
theorem msX8_reads : fr_mV YX8_reads 0 8 := ⟨⟨_, _, rfl⟩, fr_in (i := 885) (by decide +kernel) rfl, fr_in (i := 27) (by decide +kernel) rfl, fr_in (i := 83) (by decide +kernel) rfl, fr_in (i := 886) (by decide +kernel) rfl, ⟨by decide +kernel, by decide +kernel, by decide +kernel⟩, rfl, rfl⟩
def YX8_readsAll : fr_Y := (yX8_readsAll, cX8_readsAll, 1, none, { frames := 5, cells := 0, slots := 0, locals := 114 })
theorem msX8_readsAll : fr_mV YX8_readsAll 0 8 := ⟨⟨_, _, rfl⟩, fr_in (i := 897) (by decide +kernel) rfl, fr_in (i := 29) (by decide +kernel) rfl, fr_in (i := 83) (by decide +kernel) rfl, fr_in (i := 898) (by decide +kernel) rfl, ⟨by decide +kernel, by decide +kernel, by decide +kernel⟩, rfl, rfl⟩
def YX8_readsFeast : fr_Y := (yX8_readsFeast, cX8_readsFeast, 5, none, { frames := 4, cells := 0, slots := 0, locals := 90 })
theorem msX8_readsFeast : fr_mV YX8_readsFeast 0 8 := ⟨⟨_, _, rfl⟩, fr_in (i := 926) (by decide +kernel) rfl, fr_in (i := 36) (by decide +kernel) rfl, fr_in (i := 83) (by decide +kernel) rfl, fr_in (i := 927) (by decide +kernel) rfl, ⟨by decide +kernel, by decide +kernel, by decide +kernel⟩, rfl, rfl⟩
def YX8_readsSeason : fr_Y := (yX8_readsSeason, cX8_readsSeason, 5, none, { frames := 4, cells := 0, slots := 0, locals := 90 })
theorem msX8_readsSeason : fr_mV YX8_readsSeason 0 8 := ⟨⟨_, _, rfl⟩, fr_in (i := 933) (by decide +kernel) rfl, fr_in (i := 37) (by decide +kernel) rfl, fr_in (i := 83) (by decide +kernel) rfl, fr_in (i := 934) (by decide +kernel) rfl, ⟨by decide +kernel, by decide +kernel, by decide +kernel⟩, rfl, rfl⟩
def YX8_rememberedOn : fr_Y := (yX8_rememberedOn, cX8_rememberedOn, 4, some .int, { frames := 0, cells := 0, slots := 0, locals := 0 })
theorem msX8_rememberedOn : fr_mV YX8_rememberedOn 1 8 := ⟨⟨_, _, rfl⟩, fr_in (i := 1132) (by decide +kernel) rfl, fr_in (i := 71) (by decide +kernel) rfl, fr_in (i := 83) (by decide +kernel) rfl, fr_in (i := 1133) (by decide +kernel) rfl, ⟨by decide +kernel, by decide +kernel, by decide +kernel⟩, rfl, rfl⟩
def YX8_restore : fr_Y := (yX8_restore, cX8_restore, 2, some .int, { frames := 1, cells := 0, slots := 0, locals := 25 })
theorem msX8_restore : fr_mV YX8_restore 1 8 := ⟨⟨_, _, rfl⟩, fr_in (i := 1197) (by decide +kernel) rfl, fr_in (i := 1198) (by decide +kernel) rfl, fr_in (i := 83) (by decide +kernel) rfl, fr_in (i := 1199) (by decide +kernel) rfl, ⟨by decide +kernel, by decide +kernel, by decide +kernel⟩, rfl, rfl⟩
def YX8_servicesOf : fr_Y := (yX8_servicesOf, cX8_servicesOf, 3, some .int, { frames := 2, cells := 0, slots := 0, locals := 43 })
theorem msX8_servicesOf : fr_mV YX8_servicesOf 1 8 := ⟨⟨_, _, rfl⟩, fr_in (i := 1096) (by decide +kernel) rfl, fr_in (i := 63) (by decide +kernel) rfl, fr_in (i := 83) (by decide +kernel) rfl, fr_in (i := 1097) (by decide +kernel) rfl, ⟨by decide +kernel, by decide +kernel, by decide +kernel⟩, rfl, rfl⟩
def YX8_sings : fr_Y := (yX8_sings, cX8_sings, 4, some .int, { frames := 7, cells := 0, slots := 0, locals := 156 })
theorem msX8_sings : fr_mV YX8_sings 3 8 := ⟨⟨_, _, rfl⟩, fr_in (i := 1151) (by decide +kernel) rfl, fr_in (i := 1152) (by decide +kernel) rfl, fr_in (i := 83) (by decide +kernel) rfl, fr_in (i := 1153) (by decide +kernel) rfl, ⟨by decide +kernel, by decide +kernel, by decide +kernel⟩, rfl, rfl⟩
def YX8_sort : fr_Y := (yX8_sort, cX8_sort, 1, some .int, { frames := 1, cells := 0, slots := 0, locals := 21 })
theorem msX8_sort : fr_mV YX8_sort 0 8 := ⟨⟨_, _, rfl⟩, fr_in (i := 921) (by decide +kernel) rfl, fr_in (i := 35) (by decide +kernel) rfl, fr_in (i := 83) (by decide +kernel) rfl, fr_in (i := 922) (by decide +kernel) rfl, ⟨by decide +kernel, by decide +kernel, by decide +kernel⟩, rfl, rfl⟩
def YX8_spring : fr_Y := (yX8_spring, cX8_spring, 2, some .int, { frames := 3, cells := 0, slots := 0, locals := 64 })
theorem msX8_spring : fr_mV YX8_spring 1 8 := ⟨⟨_, _, rfl⟩, fr_in (i := 1048) (by decide +kernel) rfl, fr_in (i := 51) (by decide +kernel) rfl, fr_in (i := 83) (by decide +kernel) rfl, fr_in (i := 1049) (by decide +kernel) rfl, ⟨by decide +kernel, by decide +kernel, by decide +kernel⟩, rfl, rfl⟩
def YX8_springs : fr_Y := (yX8_springs, cX8_springs, 9, some .int, { frames := 4, cells := 0, slots := 0, locals := 85 })
theorem msX8_springs : fr_mV YX8_springs 3 8 := ⟨⟨_, _, rfl⟩, fr_in (i := 1171) (by decide +kernel) rfl, fr_in (i := 1172) (by decide +kernel) rfl, fr_in (i := 83) (by decide +kernel) rfl, fr_in (i := 1173) (by decide +kernel) rfl, ⟨by decide +kernel, by decide +kernel, by decide +kernel⟩, rfl, rfl⟩
def YX8_sunday : fr_Y := (yX8_sunday, cX8_sunday, 2, some .int, { frames := 1, cells := 0, slots := 0, locals := 21 })
theorem msX8_sunday : fr_mV YX8_sunday 1 8 := ⟨⟨_, _, rfl⟩, fr_in (i := 1040) (by decide +kernel) rfl, fr_in (i := 49) (by decide +kernel) rfl, fr_in (i := 83) (by decide +kernel) rfl, fr_in (i := 1041) (by decide +kernel) rfl, ⟨by decide +kernel, by decide +kernel, by decide +kernel⟩, rfl, rfl⟩
def YX8_sundays : fr_Y := (yX8_sundays, cX8_sundays, 3, some .int, { frames := 1, cells := 0, slots := 0, locals := 21 })
theorem msX8_sundays : fr_mV YX8_sundays 0 8 := ⟨⟨_, _, rfl⟩, fr_in (i := 1080) (by decide +kernel) rfl, fr_in (i := 59) (by decide +kernel) rfl, fr_in (i := 83) (by decide +kernel) rfl, fr_in (i := 1081) (by decide +kernel) rfl, ⟨by decide +kernel, by decide +kernel, by decide +kernel⟩, rfl, rfl⟩
def YX8_undo : fr_Y := (yX8_undo, cX8_undo, 1, some .int, { frames := 1, cells := 0, slots := 0, locals := 24 })
theorem msX8_undo : fr_mV YX8_undo 0 8 := ⟨⟨_, _, rfl⟩, fr_in (i := 944) (by decide +kernel) rfl, fr_in (i := 945) (by decide +kernel) rfl, fr_in (i := 83) (by decide +kernel) rfl, fr_in (i := 946) (by decide +kernel) rfl, ⟨by decide +kernel, by decide +kernel, by decide +kernel⟩, rfl, rfl⟩
def YX8_unfair : fr_Y := (yX8_unfair, cX8_unfair, 5, some .int, { frames := 4, cells := 0, slots := 0, locals := 99 })
theorem msX8_unfair : fr_mV YX8_unfair 1 8 := ⟨⟨_, _, rfl⟩, fr_in (i := 1164) (by decide +kernel) rfl, fr_in (i := 73) (by decide +kernel) rfl, fr_in (i := 83) (by decide +kernel) rfl, fr_in (i := 1165) (by decide +kernel) rfl, ⟨by decide +kernel, by decide +kernel, by decide +kernel⟩, rfl, rfl⟩
def YX8_weekdayOf : fr_Y := (yX8_weekdayOf, cX8_weekdayOf, 2, some .int, { frames := 0, cells := 0, slots := 0, locals := 0 })
theorem msX8_weekdayOf : fr_mV YX8_weekdayOf 1 8 := ⟨⟨_, _, rfl⟩, fr_in (i := 1044) (by decide +kernel) rfl, fr_in (i := 50) (by decide +kernel) rfl, fr_in (i := 83) (by decide +kernel) rfl, fr_in (i := 1045) (by decide +kernel) rfl, ⟨by decide +kernel, by decide +kernel, by decide +kernel⟩, rfl, rfl⟩
def YX8_year : fr_Y := (yX8_year, cX8_year, 3, some .int, { frames := 6, cells := 0, slots := 0, locals := 133 })
theorem msX8_year : fr_mV YX8_year 2 8 := ⟨⟨_, _, rfl⟩, fr_in (i := 1010) (by decide +kernel) rfl, fr_in (i := 1011) (by decide +kernel) rfl, fr_in (i := 83) (by decide +kernel) rfl, fr_in (i := 1012) (by decide +kernel) rfl, ⟨by decide +kernel, by decide +kernel, by decide +kernel⟩, rfl, rfl⟩
