/-! FeastRotaModel.readsAll (52,) -/
def fX8_readsAll_66 : Nat → fr_N → Option fr_N
  | 0, _ => none
  | k + 1, n0 => fr_bd (fX8_isLetter (122 : Int32) n0) fun r1 => (if r1 = true then fr_bd (fX8_readsSeason n0) fun n36 => ((fX8_readsAll_66 k) n36) else fr_bd (fX8_letter (112 : Int32) n0) fun n6 => (fr_bd2 (fX8_number (10 : Int32) (150 : Int32) (44 : Int32) n6) fun r7 n9 => (fr_lt (fr_up n9 2 3 r7) fun n10 => (fr_bd2 (fX8_number (1 : Int32) (9 : Int32) (59 : Int32) n10) fun r12 n14 => (fr_lt (fr_up n14 2 4 r12) fun n15 => (fr_bd (fX8_letter (99 : Int32) n15) fun n19 => (fr_bd2 (fX8_number (2 : Int32) (5 : Int32) (44 : Int32) n19) fun r20 n22 => (fr_lt (fr_up n22 2 8 r20) fun n23 => (fr_bd2 (fX8_number (0 : Int32) (2 : Int32) (59 : Int32) n23) fun r25 n27 => (fr_lt (fr_up n27 2 5 r25) fun n28 => (if (n28 0 10) = 0 then some n28 else fr_bd (fX8_bad (1 : Int32) n28) fun n33 => (some n33))))))))))))
def fX8_readsAll_50 : Nat → fr_N → Option fr_N
  | 0, _ => none
  | k + 1, n0 => fr_bd (fX8_sort n0) fun r37 => (if r37 = (-1000000 : Int32) then fX8_readsAll_66 2000 n0 else fr_bd (fX8_readsFeast n0) fun n42 => ((fX8_readsAll_50 k) n42))
def fX8_readsAll (n0 : fr_N) : Option fr_N := fr_bd (fX8_letter (107 : Int32) n0) fun n45 => (fr_bd2 (fX8_number (0 : Int32) (2 : Int32) (44 : Int32) n45) fun r46 n48 => (fr_lt (fr_up n48 2 0 r46) fun n49 => (fr_bd2 (fX8_number (0 : Int32) (29 : Int32) (44 : Int32) n49) fun r51 n53 => (fr_lt (fr_up n53 2 1 r51) fun n54 => (fr_bd2 (fX8_number (0 : Int32) (6 : Int32) (59 : Int32) n54) fun r56 n58 => (fr_lt (fr_up n58 2 2 r56) fun n59 => (fX8_readsAll_50 2000 n59)))))))
theorem tX8_readsAll_66 {K : fr_K} {u0 : fr_N} {nz : fr_N} (F : fr_F YX8_readsAll K) (E : fr_R YX8_readsAll K none (u0, nz)) : ∀ (k : Nat) (n0 : fr_N), fX8_readsAll_66 k n0 = some nz → fr_V YX8_readsAll K 66 [some (.ref 52)] [] (u0, n0) := by
  intro k
  induction k with
  | zero =>
    intro n0 h
    rw [fX8_readsAll_66] at h
    cases h
  | succ k ih =>
    intro n0 h
    rw [fX8_readsAll_66] at h
    refine fr_aload_n (q := 67) F dX8_readsAll_66 rfl rfl ?_
    refine fr_bipush (q := 69) (v := 122) F dX8_readsAll_67 rfl (by decide) ?_
    obtain ⟨r1, hr2, h⟩ := fr_bd_some h
    refine fr_callV (q := 72) (M' := (u0, n0)) (rest := []) (st' := [.int (fr_b r1)]) F dX8_readsAll_69 rfl (tX8_isLetter hr2) mlRX8_193 msX8_isLetter ⟨Nat.le_of_ble_eq_true rfl, Nat.le_of_ble_eq_true rfl⟩ (by decide) rfl rfl rfl (Nat.le_of_ble_eq_true rfl) rfl ?_
    refine fr_if_eqb (q := 75) (tgt := 82) F dX8_readsAll_72 (by decide) rfl (fun hc3 => ?_) (fun hc3 => ?_)
    · rw [if_neg hc3] at h
      refine fr_aload_n (q := 83) F dX8_readsAll_82 rfl rfl ?_
      refine fr_bipush (q := 85) (v := 112) F dX8_readsAll_83 rfl (by decide) ?_
      obtain ⟨n6, hr5, h⟩ := fr_bd_some h
      refine fr_callV (q := 88) (M' := (u0, n6)) (rest := []) (st' := []) F dX8_readsAll_85 rfl (tX8_letter hr5) mlRX8_211 msX8_letter ⟨Nat.le_of_ble_eq_true rfl, Nat.le_of_ble_eq_true rfl⟩ (by decide) rfl rfl rfl (Nat.le_of_ble_eq_true rfl) rfl ?_
      refine fr_aload_n (q := 89) F dX8_readsAll_88 rfl rfl ?_
      refine fr_gfR (q := 92) (j := 54) F dX8_readsAll_89 rfl faRX8_13 (by decide) rfl rfl ?_
      refine fr_iconst (q := 93) (v := 3) F dX8_readsAll_92 rfl (by decide) ?_
      refine fr_aload_n (q := 94) F dX8_readsAll_93 rfl rfl ?_
      refine fr_bipush (q := 96) (v := 10) F dX8_readsAll_94 rfl (by decide) ?_
      refine fr_sipush (q := 99) (v := 150) F dX8_readsAll_96 rfl (by decide) ?_
      refine fr_bipush (q := 101) (v := 44) F dX8_readsAll_99 rfl (by decide) ?_
      obtain ⟨r7, n9, hr8, h⟩ := fr_bd2_some h
      refine fr_callV (q := 104) (M' := (u0, n9)) (rest := [.int (3 : Int32), .ref 54]) (st' := [.int r7, .int (3 : Int32), .ref 54]) F dX8_readsAll_101 rfl (tX8_number hr8) mlRX8_199 msX8_number ⟨Nat.le_of_ble_eq_true rfl, Nat.le_of_ble_eq_true rfl⟩ (by decide) rfl rfl rfl (Nat.le_of_ble_eq_true rfl) rfl ?_
      obtain ⟨n10, hn11, h⟩ := fr_lt_some h
      refine fr_ias (q := 105) (M' := (u0, n10)) F dX8_readsAll_104 rfl (fr_vin rfl) (by decide) rfl (congrArg (fun z => (u0, z)) hn11) ?_
      refine fr_aload_n (q := 106) F dX8_readsAll_105 rfl rfl ?_
      refine fr_gfR (q := 109) (j := 54) F dX8_readsAll_106 rfl faRX8_13 (by decide) rfl rfl ?_
      refine fr_iconst (q := 110) (v := 4) F dX8_readsAll_109 rfl (by decide) ?_
      refine fr_aload_n (q := 111) F dX8_readsAll_110 rfl rfl ?_
      refine fr_iconst (q := 112) (v := 1) F dX8_readsAll_111 rfl (by decide) ?_
      refine fr_bipush (q := 114) (v := 9) F dX8_readsAll_112 rfl (by decide) ?_
      refine fr_bipush (q := 116) (v := 59) F dX8_readsAll_114 rfl (by decide) ?_
      obtain ⟨r12, n14, hr13, h⟩ := fr_bd2_some h
      refine fr_callV (q := 119) (M' := (u0, n14)) (rest := [.int (4 : Int32), .ref 54]) (st' := [.int r12, .int (4 : Int32), .ref 54]) F dX8_readsAll_116 rfl (tX8_number hr13) mlRX8_199 msX8_number ⟨Nat.le_of_ble_eq_true rfl, Nat.le_of_ble_eq_true rfl⟩ (by decide) rfl rfl rfl (Nat.le_of_ble_eq_true rfl) rfl ?_
      obtain ⟨n15, hn16, h⟩ := fr_lt_some h
      refine fr_ias (q := 120) (M' := (u0, n15)) F dX8_readsAll_119 rfl (fr_vin rfl) (by decide) rfl (congrArg (fun z => (u0, z)) hn16) ?_
      refine fr_aload_n (q := 121) F dX8_readsAll_120 rfl rfl ?_
      refine fr_bipush (q := 123) (v := 99) F dX8_readsAll_121 rfl (by decide) ?_
      obtain ⟨n19, hr18, h⟩ := fr_bd_some h
      refine fr_callV (q := 126) (M' := (u0, n19)) (rest := []) (st' := []) F dX8_readsAll_123 rfl (tX8_letter hr18) mlRX8_211 msX8_letter ⟨Nat.le_of_ble_eq_true rfl, Nat.le_of_ble_eq_true rfl⟩ (by decide) rfl rfl rfl (Nat.le_of_ble_eq_true rfl) rfl ?_
      refine fr_aload_n (q := 127) F dX8_readsAll_126 rfl rfl ?_
      refine fr_gfR (q := 130) (j := 54) F dX8_readsAll_127 rfl faRX8_13 (by decide) rfl rfl ?_
      refine fr_bipush (q := 132) (v := 8) F dX8_readsAll_130 rfl (by decide) ?_
      refine fr_aload_n (q := 133) F dX8_readsAll_132 rfl rfl ?_
      refine fr_iconst (q := 134) (v := 2) F dX8_readsAll_133 rfl (by decide) ?_
      refine fr_iconst (q := 135) (v := 5) F dX8_readsAll_134 rfl (by decide) ?_
      refine fr_bipush (q := 137) (v := 44) F dX8_readsAll_135 rfl (by decide) ?_
      obtain ⟨r20, n22, hr21, h⟩ := fr_bd2_some h
      refine fr_callV (q := 140) (M' := (u0, n22)) (rest := [.int (8 : Int32), .ref 54]) (st' := [.int r20, .int (8 : Int32), .ref 54]) F dX8_readsAll_137 rfl (tX8_number hr21) mlRX8_199 msX8_number ⟨Nat.le_of_ble_eq_true rfl, Nat.le_of_ble_eq_true rfl⟩ (by decide) rfl rfl rfl (Nat.le_of_ble_eq_true rfl) rfl ?_
      obtain ⟨n23, hn24, h⟩ := fr_lt_some h
      refine fr_ias (q := 141) (M' := (u0, n23)) F dX8_readsAll_140 rfl (fr_vin rfl) (by decide) rfl (congrArg (fun z => (u0, z)) hn24) ?_
      refine fr_aload_n (q := 142) F dX8_readsAll_141 rfl rfl ?_
      refine fr_gfR (q := 145) (j := 54) F dX8_readsAll_142 rfl faRX8_13 (by decide) rfl rfl ?_
      refine fr_iconst (q := 146) (v := 5) F dX8_readsAll_145 rfl (by decide) ?_
      refine fr_aload_n (q := 147) F dX8_readsAll_146 rfl rfl ?_
      refine fr_iconst (q := 148) (v := 0) F dX8_readsAll_147 rfl (by decide) ?_
      refine fr_iconst (q := 149) (v := 2) F dX8_readsAll_148 rfl (by decide) ?_
      refine fr_bipush (q := 151) (v := 59) F dX8_readsAll_149 rfl (by decide) ?_
      obtain ⟨r25, n27, hr26, h⟩ := fr_bd2_some h
      refine fr_callV (q := 154) (M' := (u0, n27)) (rest := [.int (5 : Int32), .ref 54]) (st' := [.int r25, .int (5 : Int32), .ref 54]) F dX8_readsAll_151 rfl (tX8_number hr26) mlRX8_199 msX8_number ⟨Nat.le_of_ble_eq_true rfl, Nat.le_of_ble_eq_true rfl⟩ (by decide) rfl rfl rfl (Nat.le_of_ble_eq_true rfl) rfl ?_
      obtain ⟨n28, hn29, h⟩ := fr_lt_some h
      refine fr_ias (q := 155) (M' := (u0, n28)) F dX8_readsAll_154 rfl (fr_vin rfl) (by decide) rfl (congrArg (fun z => (u0, z)) hn29) ?_
      refine fr_aload_n (q := 156) F dX8_readsAll_155 rfl rfl ?_
      refine fr_gfI (q := 159) (x := (n28 0 10)) F dX8_readsAll_156 rfl faRX8_175 (by decide) rfl rfl rfl ?_
      refine fr_if_eq (q := 162) (tgt := 167) F dX8_readsAll_159 (by decide) rfl (fun hc30 => ?_) (fun hc30 => ?_)
      · rw [if_pos hc30] at h
        obtain rfl := Option.some.inj h
        exact fr_vret F E rfl dX8_readsAll_167
      · rw [if_neg hc30] at h
        refine fr_aload_n (q := 163) F dX8_readsAll_162 rfl rfl ?_
        refine fr_iconst (q := 164) (v := 1) F dX8_readsAll_163 rfl (by decide) ?_
        obtain ⟨n33, hr32, h⟩ := fr_bd_some h
        refine fr_callV (q := 167) (M' := (u0, n33)) (rest := []) (st' := []) F dX8_readsAll_164 rfl (tX8_bad hr32) mlRX8_187 msX8_bad ⟨Nat.le_of_ble_eq_true rfl, Nat.le_of_ble_eq_true rfl⟩ (by decide) rfl rfl rfl (Nat.le_of_ble_eq_true rfl) rfl ?_
        obtain rfl := Option.some.inj h
        exact fr_vret F E rfl dX8_readsAll_167
    · rw [if_pos hc3] at h
      refine fr_aload_n (q := 76) F dX8_readsAll_75 rfl rfl ?_
      obtain ⟨n36, hr35, h⟩ := fr_bd_some h
      refine fr_callV (q := 79) (M' := (u0, n36)) (rest := []) (st' := []) F dX8_readsAll_76 rfl (tX8_readsSeason hr35) mlRX8_217 msX8_readsSeason ⟨Nat.le_of_ble_eq_true rfl, Nat.le_of_ble_eq_true rfl⟩ (by decide) rfl rfl rfl (Nat.le_of_ble_eq_true rfl) rfl ?_
      refine fr_goto (tgt := 66) F dX8_readsAll_79 (by decide) ?_
      exact fr_wj (ih _ h) ⟨rfl, trivial⟩
theorem tX8_readsAll_50 {K : fr_K} {u0 : fr_N} {nz : fr_N} (F : fr_F YX8_readsAll K) (E : fr_R YX8_readsAll K none (u0, nz)) : ∀ (k : Nat) (n0 : fr_N), fX8_readsAll_50 k n0 = some nz → fr_V YX8_readsAll K 50 [some (.ref 52)] [] (u0, n0) := by
  intro k
  induction k with
  | zero =>
    intro n0 h
    rw [fX8_readsAll_50] at h
    cases h
  | succ k ih =>
    intro n0 h
    rw [fX8_readsAll_50] at h
    refine fr_aload_n (q := 51) F dX8_readsAll_50 rfl rfl ?_
    obtain ⟨r37, hr38, h⟩ := fr_bd_some h
    refine fr_callV (q := 54) (M' := (u0, n0)) (rest := []) (st' := [.int r37]) F dX8_readsAll_51 rfl (tX8_sort hr38) mlRX8_196 msX8_sort ⟨Nat.le_of_ble_eq_true rfl, Nat.le_of_ble_eq_true rfl⟩ (by decide) rfl rfl rfl (Nat.le_of_ble_eq_true rfl) rfl ?_
    refine fr_ldc (q := 56) F dX8_readsAll_54 rfl kcRX8_90 ?_
    refine fr_icmp_eq (q := 59) (tgt := 66) F dX8_readsAll_56 (by decide) rfl (fun hc39 => ?_) (fun hc39 => ?_)
    · rw [if_pos hc39] at h
      exact fr_wj (tX8_readsAll_66 F E _ _ h) ⟨rfl, trivial⟩
    · rw [if_neg hc39] at h
      refine fr_aload_n (q := 60) F dX8_readsAll_59 rfl rfl ?_
      obtain ⟨n42, hr41, h⟩ := fr_bd_some h
      refine fr_callV (q := 63) (M' := (u0, n42)) (rest := []) (st' := []) F dX8_readsAll_60 rfl (tX8_readsFeast hr41) mlRX8_214 msX8_readsFeast ⟨Nat.le_of_ble_eq_true rfl, Nat.le_of_ble_eq_true rfl⟩ (by decide) rfl rfl rfl (Nat.le_of_ble_eq_true rfl) rfl ?_
      refine fr_goto (tgt := 50) F dX8_readsAll_63 (by decide) ?_
      exact fr_wj (ih _ h) ⟨rfl, trivial⟩
theorem tX8_readsAll {l : Launch} {G : fr_G} {u0 : fr_N} {n0 : fr_N} {nz : fr_N} (h : fX8_readsAll n0 = some nz) : fr_Met l G YX8_readsAll [.ref 52] (u0, n0) none (u0, nz) := by
  refine fr_met (pad := List.replicate 0 none) (by decide) (Nat.le_of_ble_eq_true rfl) (fun _ h => List.eq_of_mem_replicate h) ⟨rfl, rfl⟩ (fun K F hG hL E => ?_)
  subst hG; subst hL
  rw [fX8_readsAll] at h
  show fr_V YX8_readsAll K 0 [some (.ref 52)] [] (u0, n0)
  refine fr_aload_n (q := 1) F dX8_readsAll_0 rfl rfl ?_
  refine fr_bipush (q := 3) (v := 107) F dX8_readsAll_1 rfl (by decide) ?_
  obtain ⟨n45, hr44, h⟩ := fr_bd_some h
  refine fr_callV (q := 6) (M' := (u0, n45)) (rest := []) (st' := []) F dX8_readsAll_3 rfl (tX8_letter hr44) mlRX8_211 msX8_letter ⟨Nat.le_of_ble_eq_true rfl, Nat.le_of_ble_eq_true rfl⟩ (by decide) rfl rfl rfl (Nat.le_of_ble_eq_true rfl) rfl ?_
  refine fr_aload_n (q := 7) F dX8_readsAll_6 rfl rfl ?_
  refine fr_gfR (q := 10) (j := 54) F dX8_readsAll_7 rfl faRX8_13 (by decide) rfl rfl ?_
  refine fr_iconst (q := 11) (v := 0) F dX8_readsAll_10 rfl (by decide) ?_
  refine fr_aload_n (q := 12) F dX8_readsAll_11 rfl rfl ?_
  refine fr_iconst (q := 13) (v := 0) F dX8_readsAll_12 rfl (by decide) ?_
  refine fr_iconst (q := 14) (v := 2) F dX8_readsAll_13 rfl (by decide) ?_
  refine fr_bipush (q := 16) (v := 44) F dX8_readsAll_14 rfl (by decide) ?_
  obtain ⟨r46, n48, hr47, h⟩ := fr_bd2_some h
  refine fr_callV (q := 19) (M' := (u0, n48)) (rest := [.int (0 : Int32), .ref 54]) (st' := [.int r46, .int (0 : Int32), .ref 54]) F dX8_readsAll_16 rfl (tX8_number hr47) mlRX8_199 msX8_number ⟨Nat.le_of_ble_eq_true rfl, Nat.le_of_ble_eq_true rfl⟩ (by decide) rfl rfl rfl (Nat.le_of_ble_eq_true rfl) rfl ?_
  obtain ⟨n49, hn50, h⟩ := fr_lt_some h
  refine fr_ias (q := 20) (M' := (u0, n49)) F dX8_readsAll_19 rfl (fr_vin rfl) (by decide) rfl (congrArg (fun z => (u0, z)) hn50) ?_
  refine fr_aload_n (q := 21) F dX8_readsAll_20 rfl rfl ?_
  refine fr_gfR (q := 24) (j := 54) F dX8_readsAll_21 rfl faRX8_13 (by decide) rfl rfl ?_
  refine fr_iconst (q := 25) (v := 1) F dX8_readsAll_24 rfl (by decide) ?_
  refine fr_aload_n (q := 26) F dX8_readsAll_25 rfl rfl ?_
  refine fr_iconst (q := 27) (v := 0) F dX8_readsAll_26 rfl (by decide) ?_
  refine fr_bipush (q := 29) (v := 29) F dX8_readsAll_27 rfl (by decide) ?_
  refine fr_bipush (q := 31) (v := 44) F dX8_readsAll_29 rfl (by decide) ?_
  obtain ⟨r51, n53, hr52, h⟩ := fr_bd2_some h
  refine fr_callV (q := 34) (M' := (u0, n53)) (rest := [.int (1 : Int32), .ref 54]) (st' := [.int r51, .int (1 : Int32), .ref 54]) F dX8_readsAll_31 rfl (tX8_number hr52) mlRX8_199 msX8_number ⟨Nat.le_of_ble_eq_true rfl, Nat.le_of_ble_eq_true rfl⟩ (by decide) rfl rfl rfl (Nat.le_of_ble_eq_true rfl) rfl ?_
  obtain ⟨n54, hn55, h⟩ := fr_lt_some h
  refine fr_ias (q := 35) (M' := (u0, n54)) F dX8_readsAll_34 rfl (fr_vin rfl) (by decide) rfl (congrArg (fun z => (u0, z)) hn55) ?_
  refine fr_aload_n (q := 36) F dX8_readsAll_35 rfl rfl ?_
  refine fr_gfR (q := 39) (j := 54) F dX8_readsAll_36 rfl faRX8_13 (by decide) rfl rfl ?_
  refine fr_iconst (q := 40) (v := 2) F dX8_readsAll_39 rfl (by decide) ?_
  refine fr_aload_n (q := 41) F dX8_readsAll_40 rfl rfl ?_
  refine fr_iconst (q := 42) (v := 0) F dX8_readsAll_41 rfl (by decide) ?_
  refine fr_bipush (q := 44) (v := 6) F dX8_readsAll_42 rfl (by decide) ?_
  refine fr_bipush (q := 46) (v := 59) F dX8_readsAll_44 rfl (by decide) ?_
  obtain ⟨r56, n58, hr57, h⟩ := fr_bd2_some h
  refine fr_callV (q := 49) (M' := (u0, n58)) (rest := [.int (2 : Int32), .ref 54]) (st' := [.int r56, .int (2 : Int32), .ref 54]) F dX8_readsAll_46 rfl (tX8_number hr57) mlRX8_199 msX8_number ⟨Nat.le_of_ble_eq_true rfl, Nat.le_of_ble_eq_true rfl⟩ (by decide) rfl rfl rfl (Nat.le_of_ble_eq_true rfl) rfl ?_
  obtain ⟨n59, hn60, h⟩ := fr_lt_some h
  refine fr_ias (q := 50) (M' := (u0, n59)) F dX8_readsAll_49 rfl (fr_vin rfl) (by decide) rfl (congrArg (fun z => (u0, z)) hn60) ?_
  exact fr_wj (tX8_readsAll_50 F E _ _ h) ⟨rfl, trivial⟩
/-! FeastRotaModel.copies (54, None, 53, None) -/
def fX8_copies_54_53_3 : Nat → Int32 → Int32 → Int32 → fr_N → Option fr_N
  | 0, _, _, _, _ => none
  | k + 1, x1, x3, x4, n0 => if (79 : Int32) ≤ x4 then some n0 else fr_ck (x1 + x4) 79 (fr_ck (x3 + x4) 79 (fr_lt (fr_up n0 1 (Int32.toNatClampNeg (x3 + x4)) (n0 2 (Int32.toNatClampNeg (x1 + x4)))) fun n4 => ((fX8_copies_54_53_3 k) x1 x3 (x4 + (1 : Int32)) n4)))
def fX8_copies_54_53 (a1 : Int32) (a3 : Int32) (n0 : fr_N) : Option fr_N := fX8_copies_54_53_3 2000 a1 a3 (0 : Int32) n0
theorem tX8_copies_54_53_3 {K : fr_K} {u0 : fr_N} {nz : fr_N} (F : fr_F YX8_copies K) (E : fr_R YX8_copies K none (u0, nz)) : ∀ (k : Nat) (x1 : Int32) (x3 : Int32) (x4 : Int32) (n0 : fr_N), fX8_copies_54_53_3 k x1 x3 x4 n0 = some nz → fr_V YX8_copies K 3 [some (.ref 54), some (.int x1), some (.ref 53), some (.int x3), some (.int x4)] [] (u0, n0) := by
  intro k
  induction k with
  | zero =>
    intro x1 x3 x4 n0 h
    rw [fX8_copies_54_53_3] at h
    cases h
  | succ k ih =>
    intro x1 x3 x4 n0 h
    rw [fX8_copies_54_53_3] at h
    refine fr_iload (q := 5) F dX8_copies_3 rfl rfl ?_
    refine fr_bipush (q := 7) (v := 79) F dX8_copies_5 rfl (by decide) ?_
    refine fr_icmp_ge (q := 10) (tgt := 28) F dX8_copies_7 (by decide) rfl (fun hc1 => ?_) (fun hc1 => ?_)
    · rw [if_pos hc1] at h
      obtain rfl := Option.some.inj h
      exact fr_vret F E rfl dX8_copies_28
    · rw [if_neg hc1] at h
      refine fr_aload_n (q := 11) F dX8_copies_10 rfl rfl ?_
      refine fr_iload_n (q := 12) F dX8_copies_11 rfl rfl ?_
      refine fr_iload (q := 14) F dX8_copies_12 rfl rfl ?_
      refine fr_iadd (q := 15) F dX8_copies_14 rfl ?_
      refine fr_aload_n (q := 16) F dX8_copies_15 rfl rfl ?_
      refine fr_iload_n (q := 17) F dX8_copies_16 rfl rfl ?_
      refine fr_iload (q := 19) F dX8_copies_17 rfl rfl ?_
      refine fr_iadd (q := 20) F dX8_copies_19 rfl ?_
      obtain ⟨hi2, h⟩ := fr_ck_some h
      refine fr_ial (q := 21) (x := (n0 2 (Int32.toNatClampNeg (x1 + x4)))) F dX8_copies_20 rfl hi2 (by decide) rfl rfl ?_
      obtain ⟨hi3, h⟩ := fr_ck_some h
      obtain ⟨n4, hn5, h⟩ := fr_lt_some h
      refine fr_ias (q := 22) (M' := (u0, n4)) F dX8_copies_21 rfl hi3 (by decide) rfl (congrArg (fun z => (u0, z)) hn5) ?_
      refine fr_iinc (q := 25) (v := (x4 + (1 : Int32))) F dX8_copies_22 rfl rfl rfl (by decide) rfl ?_
      refine fr_goto (tgt := 3) F dX8_copies_25 (by decide) ?_
      exact fr_wj (ih _ _ _ _ h) ⟨rfl, ⟨rfl, ⟨rfl, ⟨rfl, ⟨rfl, trivial⟩⟩⟩⟩⟩
theorem tX8_copies_54_53 {l : Launch} {G : fr_G} {u0 : fr_N} {a1 : Int32} {a3 : Int32} {n0 : fr_N} {nz : fr_N} (h : fX8_copies_54_53 a1 a3 n0 = some nz) : fr_Met l G YX8_copies [.ref 54, .int a1, .ref 53, .int a3] (u0, n0) none (u0, nz) := by
  refine fr_met (pad := List.replicate 1 none) (by decide) (Nat.le_of_ble_eq_true rfl) (fun _ h => List.eq_of_mem_replicate h) ⟨rfl, rfl⟩ (fun K F hG hL E => ?_)
  subst hG; subst hL
  rw [fX8_copies_54_53] at h
  show fr_V YX8_copies K 0 [some (.ref 54), some (.int a1), some (.ref 53), some (.int a3), none] [] (u0, n0)
  refine fr_iconst (q := 1) (v := 0) F dX8_copies_0 rfl (by decide) ?_
  refine fr_istore (q := 3) F dX8_copies_1 rfl (by decide) rfl ?_
  exact fr_wj (tX8_copies_54_53_3 F E _ _ _ _ _ h) ⟨rfl, ⟨rfl, ⟨rfl, ⟨rfl, ⟨rfl, trivial⟩⟩⟩⟩⟩
/-! FeastRotaModel.book (52,) -/
def fX8_book_41 (k2 : Int32 → fr_N → Option (Int32 × fr_N)) (x1 : Int32) (s0 : Bool) (s1 : Int32) (n0 : fr_N) : Option (Int32 × fr_N) := fr_ck s1 79 (fr_lt (fr_up n0 2 (Int32.toNatClampNeg s1) (fr_b s0)) fun n2 => (k2 (x1 + (1 : Int32)) n2))
def fX8_book_2 : Nat → Int32 → fr_N → Option (Int32 × fr_N)
  | 0, _, _ => none
  | k + 1, x1, n0 => if (79 : Int32) ≤ x1 then fr_lt (fr_up n0 0 8 (0 : Int32)) fun n5 => (fr_lt (fr_up n5 0 12 (0 : Int32)) fun n7 => (fr_bd (fX8_reads n7) fun n11 => (fr_bd (fX8_readsAll n11) fun n14 => (fr_lt (fr_up n14 0 7 (0 : Int32)) fun n15 => (if (n15 0 12) ≤ 0 then fr_bd (fX8_copies_54_53 (0 : Int32) (0 : Int32) n15) fun n20 => (fr_lt (fr_up n20 0 3 (0 : Int32)) fun n21 => (some ((n21 1 6), n21))) else fr_lt (fr_up n15 0 14 (n15 0 12)) fun n23 => (some (((-1000100 : Int32) - (n23 0 13)), n23))))))) else fr_bd (fX8_in (Int32.toInt64 x1) (69 : Int64) (78 : Int64)) fun r25 => (if r25 = true then if (fr_rem (x1 - (69 : Int32)) (2 : Int32)) = 0 then fX8_book_41 (fX8_book_2 k) x1 true x1 n0 else fX8_book_41 (fX8_book_2 k) x1 false x1 n0 else fX8_book_41 (fX8_book_2 k) x1 false x1 n0)
def fX8_book (n0 : fr_N) : Option (Int32 × fr_N) := fX8_book_2 2000 (0 : Int32) n0
theorem tX8_book_41 {K : fr_K} {k2 : Int32 → fr_N → Option (Int32 × fr_N)} {u0 : fr_N} {rz : Int32} {nz : fr_N} (F : fr_F YX8_book K) (E : fr_R YX8_book K (some (.int rz)) (u0, nz)) (H2 : ∀ (y1 : Int32) (n : fr_N), k2 y1 n = some (rz, nz) → fr_V YX8_book K 2 [some (.ref 52), some (.int y1)] [] (u0, n)) {x1 : Int32} {s0 : Bool} {s1 : Int32} {n0 : fr_N} (h : fX8_book_41 k2 x1 s0 s1 n0 = some (rz, nz)) : fr_V YX8_book K 41 [some (.ref 52), some (.int x1)] [.int (fr_b s0), .int s1, .ref 54] (u0, n0) := by
  rw [fX8_book_41] at h
  obtain ⟨hi1, h⟩ := fr_ck_some h
  obtain ⟨n2, hn3, h⟩ := fr_lt_some h
  refine fr_ias (q := 42) (M' := (u0, n2)) F dX8_book_41 rfl hi1 (by decide) rfl (congrArg (fun z => (u0, z)) hn3) ?_
  refine fr_iinc (q := 45) (v := (x1 + (1 : Int32))) F dX8_book_42 rfl rfl rfl (by decide) rfl ?_
  refine fr_goto (tgt := 2) F dX8_book_45 (by decide) ?_
  exact fr_wj (H2 _ _ h) ⟨rfl, ⟨rfl, trivial⟩⟩
theorem tX8_book_2 {K : fr_K} {u0 : fr_N} {rz : Int32} {nz : fr_N} (F : fr_F YX8_book K) (E : fr_R YX8_book K (some (.int rz)) (u0, nz)) : ∀ (k : Nat) (x1 : Int32) (n0 : fr_N), fX8_book_2 k x1 n0 = some (rz, nz) → fr_V YX8_book K 2 [some (.ref 52), some (.int x1)] [] (u0, n0) := by
  intro k
  induction k with
  | zero =>
    intro x1 n0 h
    rw [fX8_book_2] at h
    cases h
  | succ k ih =>
    intro x1 n0 h
    rw [fX8_book_2] at h
    refine fr_iload_n (q := 3) F dX8_book_2 rfl rfl ?_
    refine fr_bipush (q := 5) (v := 79) F dX8_book_3 rfl (by decide) ?_
    refine fr_icmp_ge (q := 8) (tgt := 48) F dX8_book_5 (by decide) rfl (fun hc4 => ?_) (fun hc4 => ?_)
    · rw [if_pos hc4] at h
      refine fr_aload_n (q := 49) F dX8_book_48 rfl rfl ?_
      refine fr_iconst (q := 50) (v := 0) F dX8_book_49 rfl (by decide) ?_
      obtain ⟨n5, hn6, h⟩ := fr_lt_some h
      refine fr_pfI (q := 53) (M' := (u0, n5)) F dX8_book_50 rfl fpRX8_155 (by decide) rfl rfl (congrArg (fun z => (u0, z)) hn6) ?_
      refine fr_aload_n (q := 54) F dX8_book_53 rfl rfl ?_
      refine fr_iconst (q := 55) (v := 0) F dX8_book_54 rfl (by decide) ?_
      obtain ⟨n7, hn8, h⟩ := fr_lt_some h
      refine fr_pfI (q := 58) (M' := (u0, n7)) F dX8_book_55 rfl fpRX8_178 (by decide) rfl rfl (congrArg (fun z => (u0, z)) hn8) ?_
      refine fr_aload_n (q := 59) F dX8_book_58 rfl rfl ?_
      obtain ⟨n11, hr10, h⟩ := fr_bd_some h
      refine fr_callV (q := 62) (M' := (u0, n11)) (rest := []) (st' := []) F dX8_book_59 rfl (tX8_reads hr10) mlRX8_184 msX8_reads ⟨Nat.le_of_ble_eq_true rfl, Nat.le_of_ble_eq_true rfl⟩ (by decide) rfl rfl rfl (Nat.le_of_ble_eq_true rfl) rfl ?_
      refine fr_aload_n (q := 63) F dX8_book_62 rfl rfl ?_
      obtain ⟨n14, hr13, h⟩ := fr_bd_some h
      refine fr_callV (q := 66) (M' := (u0, n14)) (rest := []) (st' := []) F dX8_book_63 rfl (tX8_readsAll hr13) mlRX8_224 msX8_readsAll ⟨Nat.le_of_ble_eq_true rfl, Nat.le_of_ble_eq_true rfl⟩ (by decide) rfl rfl rfl (Nat.le_of_ble_eq_true rfl) rfl ?_
      refine fr_aload_n (q := 67) F dX8_book_66 rfl rfl ?_
      refine fr_iconst (q := 68) (v := 0) F dX8_book_67 rfl (by decide) ?_
      obtain ⟨n15, hn16, h⟩ := fr_lt_some h
      refine fr_pfI (q := 71) (M' := (u0, n15)) F dX8_book_68 rfl fpRX8_152 (by decide) rfl rfl (congrArg (fun z => (u0, z)) hn16) ?_
      refine fr_aload_n (q := 72) F dX8_book_71 rfl rfl ?_
      refine fr_gfI (q := 75) (x := (n15 0 12)) F dX8_book_72 rfl faRX8_178 (by decide) rfl rfl rfl ?_
      refine fr_if_le (q := 78) (tgt := 94) F dX8_book_75 (by decide) rfl (fun hc17 => ?_) (fun hc17 => ?_)
      · rw [if_pos hc17] at h
        refine fr_aload_n (q := 95) F dX8_book_94 rfl rfl ?_
        refine fr_gfR (q := 98) (j := 54) F dX8_book_95 rfl faRX8_13 (by decide) rfl rfl ?_
        refine fr_iconst (q := 99) (v := 0) F dX8_book_98 rfl (by decide) ?_
        refine fr_aload_n (q := 100) F dX8_book_99 rfl rfl ?_
        refine fr_gfR (q := 103) (j := 53) F dX8_book_100 rfl faRX8_7 (by decide) rfl rfl ?_
        refine fr_iconst (q := 104) (v := 0) F dX8_book_103 rfl (by decide) ?_
        obtain ⟨n20, hr19, h⟩ := fr_bd_some h
        refine fr_callS (q := 107) (M' := (u0, n20)) (rest := []) (st' := []) F dX8_book_104 rfl (tX8_copies_54_53 hr19) mlRX8_231 msX8_copies ⟨Nat.le_of_ble_eq_true rfl, Nat.le_of_ble_eq_true rfl⟩ rfl rfl (Nat.le_of_ble_eq_true rfl) rfl ?_
        refine fr_aload_n (q := 108) F dX8_book_107 rfl rfl ?_
        refine fr_iconst (q := 109) (v := 0) F dX8_book_108 rfl (by decide) ?_
        obtain ⟨n21, hn22, h⟩ := fr_lt_some h
        refine fr_pfI (q := 112) (M' := (u0, n21)) F dX8_book_109 rfl fpRX8_235 (by decide) rfl rfl (congrArg (fun z => (u0, z)) hn22) ?_
        refine fr_aload_n (q := 113) F dX8_book_112 rfl rfl ?_
        refine fr_gfR (q := 116) (j := 53) F dX8_book_113 rfl faRX8_7 (by decide) rfl rfl ?_
        refine fr_bipush (q := 118) (v := 6) F dX8_book_116 rfl (by decide) ?_
        refine fr_ial (q := 119) (x := (n21 1 6)) F dX8_book_118 rfl (fr_vin rfl) (by decide) rfl rfl ?_
        obtain ⟨rfl, rfl⟩ := Prod.mk.inj (Option.some.inj h)
        exact fr_iret F E rfl dX8_book_119
      · rw [if_neg hc17] at h
        refine fr_aload_n (q := 79) F dX8_book_78 rfl rfl ?_
        refine fr_aload_n (q := 80) F dX8_book_79 rfl rfl ?_
        refine fr_gfI (q := 83) (x := (n15 0 12)) F dX8_book_80 rfl faRX8_178 (by decide) rfl rfl rfl ?_
        obtain ⟨n23, hn24, h⟩ := fr_lt_some h
        refine fr_pfI (q := 86) (M' := (u0, n23)) F dX8_book_83 rfl fpRX8_227 (by decide) rfl rfl (congrArg (fun z => (u0, z)) hn24) ?_
        refine fr_ldc (q := 88) F dX8_book_86 rfl kcRX8_230 ?_
        refine fr_aload_n (q := 89) F dX8_book_88 rfl rfl ?_
        refine fr_gfI (q := 92) (x := (n23 0 13)) F dX8_book_89 rfl faRX8_181 (by decide) rfl rfl rfl ?_
        refine fr_isub (q := 93) F dX8_book_92 rfl ?_
        obtain ⟨rfl, rfl⟩ := Prod.mk.inj (Option.some.inj h)
        exact fr_iret F E rfl dX8_book_93
    · rw [if_neg hc4] at h
      refine fr_aload_n (q := 9) F dX8_book_8 rfl rfl ?_
      refine fr_gfR (q := 12) (j := 54) F dX8_book_9 rfl faRX8_13 (by decide) rfl rfl ?_
      refine fr_iload_n (q := 13) F dX8_book_12 rfl rfl ?_
      refine fr_iload_n (q := 14) F dX8_book_13 rfl rfl ?_
      refine fr_i2l (q := 15) F dX8_book_14 rfl ?_
      refine fr_ldc2 (q := 18) F dX8_book_15 rfl klRX8_220 ?_
      refine fr_ldc2 (q := 21) F dX8_book_18 rfl klRX8_222 ?_
      obtain ⟨r25, hr26, h⟩ := fr_bd_some h
      refine fr_callS (q := 24) (M' := (u0, n0)) (rest := [.int x1, .ref 54]) (st' := [.int (fr_b r25), .int x1, .ref 54]) F dX8_book_21 rfl (tX8_in hr26) mlRX8_55 msX8_in ⟨Nat.le_of_ble_eq_true rfl, Nat.le_of_ble_eq_true rfl⟩ rfl rfl (Nat.le_of_ble_eq_true rfl) rfl ?_
      refine fr_if_eqb (q := 27) (tgt := 40) F dX8_book_24 (by decide) rfl (fun hc27 => ?_) (fun hc27 => ?_)
      · rw [if_neg hc27] at h
        refine fr_iconst (q := 41) (v := 0) F dX8_book_40 rfl (by decide) ?_
        exact fr_wj (tX8_book_41 F E ih h) ⟨rfl, ⟨rfl, trivial⟩⟩
      · rw [if_pos hc27] at h
        refine fr_iload_n (q := 28) F dX8_book_27 rfl rfl ?_
        refine fr_bipush (q := 30) (v := 69) F dX8_book_28 rfl (by decide) ?_
        refine fr_isub (q := 31) F dX8_book_30 rfl ?_
        refine fr_iconst (q := 32) (v := 2) F dX8_book_31 rfl (by decide) ?_
        refine fr_irem (q := 33) F dX8_book_32 rfl (by decide) ?_
        refine fr_if_ne (q := 36) (tgt := 40) F dX8_book_33 (by decide) rfl (fun hc28 => ?_) (fun hc28 => ?_)
        · rw [if_neg hc28] at h
          refine fr_iconst (q := 41) (v := 0) F dX8_book_40 rfl (by decide) ?_
          exact fr_wj (tX8_book_41 F E ih h) ⟨rfl, ⟨rfl, trivial⟩⟩
        · rw [if_pos hc28] at h
          refine fr_iconst (q := 37) (v := 1) F dX8_book_36 rfl (by decide) ?_
          refine fr_goto (tgt := 41) F dX8_book_37 (by decide) ?_
          exact fr_wj (tX8_book_41 F E ih h) ⟨rfl, ⟨rfl, trivial⟩⟩
theorem tX8_book {l : Launch} {G : fr_G} {u0 : fr_N} {n0 : fr_N} {rz : Int32} {nz : fr_N} (h : fX8_book n0 = some (rz, nz)) : fr_Met l G YX8_book [.ref 52] (u0, n0) (some (.int rz)) (u0, nz) := by
  refine fr_met (pad := List.replicate 1 none) (by decide) (Nat.le_of_ble_eq_true rfl) (fun _ h => List.eq_of_mem_replicate h) ⟨rfl, rfl⟩ (fun K F hG hL E => ?_)
  subst hG; subst hL
  rw [fX8_book] at h
  show fr_V YX8_book K 0 [some (.ref 52), none] [] (u0, n0)
  refine fr_iconst (q := 1) (v := 0) F dX8_book_0 rfl (by decide) ?_
  refine fr_istore_n (q := 2) F dX8_book_1 rfl (by decide) rfl ?_
  exact fr_wj (tX8_book_2 F E _ _ _ h) ⟨rfl, ⟨rfl, trivial⟩⟩
/-! FeastRota.fault (0,) -/
def fX7_fault (n0 : fr_N) : Option Int32 := some (n0 0 7)
theorem tX7_fault {l : Launch} {G : fr_G} {u0 : fr_N} {n0 : fr_N} {rz : Int32} (h : fX7_fault n0 = some rz) : fr_Met l G YX7_fault [.ref 0] (n0, u0) (some (.int rz)) (n0, u0) := by
  refine fr_met (pad := List.replicate 0 none) (by decide) (Nat.le_of_ble_eq_true rfl) (fun _ h => List.eq_of_mem_replicate h) ⟨rfl, rfl⟩ (fun K F hG hL E => ?_)
  subst hG; subst hL
  rw [fX7_fault] at h
  show fr_V YX7_fault K 0 [some (.ref 0)] [] (n0, u0)
  refine fr_aload_n (q := 1) F dX7_fault_0 rfl rfl ?_
  refine fr_gfI (q := 4) (x := (n0 0 7)) F dX7_fault_1 rfl faRX7_64 (by decide) rfl rfl rfl ?_
  obtain rfl := Option.some.inj h
  exact fr_iret F E rfl dX7_fault_4
/-! FeastRotaModel.fault (52,) -/
def fX8_fault (n0 : fr_N) : Option Int32 := some (n0 0 14)
theorem tX8_fault {l : Launch} {G : fr_G} {u0 : fr_N} {n0 : fr_N} {rz : Int32} (h : fX8_fault n0 = some rz) : fr_Met l G YX8_fault [.ref 52] (u0, n0) (some (.int rz)) (u0, n0) := by
  refine fr_met (pad := List.replicate 0 none) (by decide) (Nat.le_of_ble_eq_true rfl) (fun _ h => List.eq_of_mem_replicate h) ⟨rfl, rfl⟩ (fun K F hG hL E => ?_)
  subst hG; subst hL
  rw [fX8_fault] at h
  show fr_V YX8_fault K 0 [some (.ref 52)] [] (u0, n0)
  refine fr_aload_n (q := 1) F dX8_fault_0 rfl rfl ?_
  refine fr_gfI (q := 4) (x := (n0 0 14)) F dX8_fault_1 rfl faRX8_227 (by decide) rfl rfl rfl ?_
  obtain rfl := Option.some.inj h
  exact fr_iret F E rfl dX8_fault_4
/-! FeastRota$Acts.takeBackLatest (43, 3) -/
def fX0_takeBackLatest_138 (x2 : Int32) (n0 : fr_N) : Option fr_N := fr_ck (n0 43 4) 16 (if (n0 44 (Int32.toNatClampNeg (n0 43 4))) = (3 : Int32) then fr_bd (fX7_within x2 (0 : Int32) (4 : Int32)) fun r3 => (if r3 = true then fr_ck (n0 43 4) 16 (fr_ck x2 5 (fr_lt (fr_up n0 9 (Int32.toNatClampNeg x2) (n0 46 (Int32.toNatClampNeg (n0 43 4)))) fun n8 => (fr_ck (n8 43 4) 16 (fr_ck x2 5 (fr_lt (fr_up n8 10 (Int32.toNatClampNeg x2) (n8 47 (Int32.toNatClampNeg (n8 43 4)))) fun n12 => (some n12)))))) else some n0) else some n0)
def fX0_takeBackLatest_98 (x2 : Int32) (n0 : fr_N) : Option fr_N := fr_ck (n0 43 4) 16 (if (n0 44 (Int32.toNatClampNeg (n0 43 4))) = (2 : Int32) then fr_bd (fX7_within x2 (0 : Int32) (5 : Int32)) fun r16 => (if r16 = true then fr_ck (n0 43 4) 16 (fr_ck x2 6 (fr_lt (fr_up n0 4 (Int32.toNatClampNeg x2) (n0 46 (Int32.toNatClampNeg (n0 43 4)))) fun n21 => (some n21))) else fX0_takeBackLatest_138 x2 n0) else fX0_takeBackLatest_138 x2 n0)
def fX0_takeBackLatest (n0 : fr_N) : Option fr_N := if 0 < (n0 43 4) then fr_lt (fr_up n0 43 4 ((n0 43 4) - (1 : Int32))) fun n24 => (fr_ck (n24 43 4) 16 (fr_ck (n24 43 4) 16 (if (n24 44 (Int32.toNatClampNeg (n24 43 4))) = (1 : Int32) then fr_lt (fr_up n24 3 1 (if (0 : Int32) < ((n24 3 1) - (1 : Int32)) then ((n24 3 1) - (1 : Int32)) else (0 : Int32))) fun n38 => (some n38) else fr_ck (n24 43 4) 16 (if (n24 44 (Int32.toNatClampNeg (n24 43 4))) = 0 then fr_bd (fX7_within (n24 45 (Int32.toNatClampNeg (n24 43 4))) (0 : Int32) (47 : Int32)) fun r31 => (if r31 = true then fr_ck (n24 43 4) 16 (fr_ck (n24 45 (Int32.toNatClampNeg (n24 43 4))) 48 (fr_lt (fr_up n24 5 (Int32.toNatClampNeg (n24 45 (Int32.toNatClampNeg (n24 43 4)))) (n24 46 (Int32.toNatClampNeg (n24 43 4)))) fun n36 => (some n36))) else fX0_takeBackLatest_98 (n24 45 (Int32.toNatClampNeg (n24 43 4))) n24) else fX0_takeBackLatest_98 (n24 45 (Int32.toNatClampNeg (n24 43 4))) n24)))) else some n0
theorem tX0_takeBackLatest_138 {K : fr_K} {u0 : fr_N} {nz : fr_N} (F : fr_F YX0_takeBackLatest K) (E : fr_R YX0_takeBackLatest K none (nz, u0)) {x2 : Int32} {n0 : fr_N} (h : fX0_takeBackLatest_138 x2 n0 = some nz) : fr_V YX0_takeBackLatest K 138 [some (.ref 43), some (.ref 3), some (.int x2)] [] (n0, u0) := by
  rw [fX0_takeBackLatest_138] at h
  refine fr_aload_n (q := 139) F dX0_takeBackLatest_138 rfl rfl ?_
  refine fr_gfR (q := 142) (j := 44) F dX0_takeBackLatest_139 rfl faRX0_11 (by decide) rfl rfl ?_
  refine fr_aload_n (q := 143) F dX0_takeBackLatest_142 rfl rfl ?_
  refine fr_gfI (q := 146) (x := (n0 43 4)) F dX0_takeBackLatest_143 rfl faRX0_24 (by decide) rfl rfl rfl ?_
  obtain ⟨hi1, h⟩ := fr_ck_some h
  refine fr_ial (q := 147) (x := (n0 44 (Int32.toNatClampNeg (n0 43 4)))) F dX0_takeBackLatest_146 rfl hi1 (by decide) rfl rfl ?_
  refine fr_iconst (q := 148) (v := 3) F dX0_takeBackLatest_147 rfl (by decide) ?_
  refine fr_icmp_ne (q := 151) (tgt := 190) F dX0_takeBackLatest_148 (by decide) rfl (fun hc2 => ?_) (fun hc2 => ?_)
  · rw [if_neg hc2] at h
    obtain rfl := Option.some.inj h
    exact fr_vret F E rfl dX0_takeBackLatest_190
  · rw [if_pos hc2] at h
    refine fr_iload_n (q := 152) F dX0_takeBackLatest_151 rfl rfl ?_
    refine fr_iconst (q := 153) (v := 0) F dX0_takeBackLatest_152 rfl (by decide) ?_
    refine fr_iconst (q := 154) (v := 4) F dX0_takeBackLatest_153 rfl (by decide) ?_
    obtain ⟨r3, hr4, h⟩ := fr_bd_some h
    refine fr_callN (q := 157) (M' := (n0, u0)) (rest := []) (st' := [.int (fr_b r3)]) F dX0_takeBackLatest_154 rfl (tX7_within hr4) rfl (by decide) msX7_within ⟨Nat.le_of_ble_eq_true rfl, Nat.le_of_ble_eq_true rfl⟩ rfl rfl (Nat.le_of_ble_eq_true rfl) rfl ?_
    refine fr_if_eqb (q := 160) (tgt := 190) F dX0_takeBackLatest_157 (by decide) rfl (fun hc5 => ?_) (fun hc5 => ?_)
    · rw [if_neg hc5] at h
      obtain rfl := Option.some.inj h
      exact fr_vret F E rfl dX0_takeBackLatest_190
    · rw [if_pos hc5] at h
      refine fr_aload_n (q := 161) F dX0_takeBackLatest_160 rfl rfl ?_
      refine fr_gfR (q := 164) (j := 9) F dX0_takeBackLatest_161 rfl faRX0_58 (by decide) rfl rfl ?_
      refine fr_iload_n (q := 165) F dX0_takeBackLatest_164 rfl rfl ?_
      refine fr_aload_n (q := 166) F dX0_takeBackLatest_165 rfl rfl ?_
      refine fr_gfR (q := 169) (j := 46) F dX0_takeBackLatest_166 rfl faRX0_18 (by decide) rfl rfl ?_
      refine fr_aload_n (q := 170) F dX0_takeBackLatest_169 rfl rfl ?_
      refine fr_gfI (q := 173) (x := (n0 43 4)) F dX0_takeBackLatest_170 rfl faRX0_24 (by decide) rfl rfl rfl ?_
      obtain ⟨hi6, h⟩ := fr_ck_some h
      refine fr_ial (q := 174) (x := (n0 46 (Int32.toNatClampNeg (n0 43 4)))) F dX0_takeBackLatest_173 rfl hi6 (by decide) rfl rfl ?_
      obtain ⟨hi7, h⟩ := fr_ck_some h
      obtain ⟨n8, hn9, h⟩ := fr_lt_some h
      refine fr_ias (q := 175) (M' := (n8, u0)) F dX0_takeBackLatest_174 rfl hi7 (by decide) rfl (congrArg (fun z => (z, u0)) hn9) ?_
      refine fr_aload_n (q := 176) F dX0_takeBackLatest_175 rfl rfl ?_
      refine fr_gfR (q := 179) (j := 10) F dX0_takeBackLatest_176 rfl faRX0_61 (by decide) rfl rfl ?_
      refine fr_iload_n (q := 180) F dX0_takeBackLatest_179 rfl rfl ?_
      refine fr_aload_n (q := 181) F dX0_takeBackLatest_180 rfl rfl ?_
      refine fr_gfR (q := 184) (j := 47) F dX0_takeBackLatest_181 rfl faRX0_21 (by decide) rfl rfl ?_
      refine fr_aload_n (q := 185) F dX0_takeBackLatest_184 rfl rfl ?_
      refine fr_gfI (q := 188) (x := (n8 43 4)) F dX0_takeBackLatest_185 rfl faRX0_24 (by decide) rfl rfl rfl ?_
      obtain ⟨hi10, h⟩ := fr_ck_some h
      refine fr_ial (q := 189) (x := (n8 47 (Int32.toNatClampNeg (n8 43 4)))) F dX0_takeBackLatest_188 rfl hi10 (by decide) rfl rfl ?_
      obtain ⟨hi11, h⟩ := fr_ck_some h
      obtain ⟨n12, hn13, h⟩ := fr_lt_some h
      refine fr_ias (q := 190) (M' := (n12, u0)) F dX0_takeBackLatest_189 rfl hi11 (by decide) rfl (congrArg (fun z => (z, u0)) hn13) ?_
      obtain rfl := Option.some.inj h
      exact fr_vret F E rfl dX0_takeBackLatest_190
theorem tX0_takeBackLatest_98 {K : fr_K} {u0 : fr_N} {nz : fr_N} (F : fr_F YX0_takeBackLatest K) (E : fr_R YX0_takeBackLatest K none (nz, u0)) {x2 : Int32} {n0 : fr_N} (h : fX0_takeBackLatest_98 x2 n0 = some nz) : fr_V YX0_takeBackLatest K 98 [some (.ref 43), some (.ref 3), some (.int x2)] [] (n0, u0) := by
  rw [fX0_takeBackLatest_98] at h
  refine fr_aload_n (q := 99) F dX0_takeBackLatest_98 rfl rfl ?_
  refine fr_gfR (q := 102) (j := 44) F dX0_takeBackLatest_99 rfl faRX0_11 (by decide) rfl rfl ?_
  refine fr_aload_n (q := 103) F dX0_takeBackLatest_102 rfl rfl ?_
  refine fr_gfI (q := 106) (x := (n0 43 4)) F dX0_takeBackLatest_103 rfl faRX0_24 (by decide) rfl rfl rfl ?_
  obtain ⟨hi14, h⟩ := fr_ck_some h
  refine fr_ial (q := 107) (x := (n0 44 (Int32.toNatClampNeg (n0 43 4)))) F dX0_takeBackLatest_106 rfl hi14 (by decide) rfl rfl ?_
  refine fr_iconst (q := 108) (v := 2) F dX0_takeBackLatest_107 rfl (by decide) ?_
  refine fr_icmp_ne (q := 111) (tgt := 138) F dX0_takeBackLatest_108 (by decide) rfl (fun hc15 => ?_) (fun hc15 => ?_)
  · rw [if_neg hc15] at h
    exact fr_wj (tX0_takeBackLatest_138 F E h) ⟨rfl, ⟨rfl, ⟨rfl, trivial⟩⟩⟩
  · rw [if_pos hc15] at h
    refine fr_iload_n (q := 112) F dX0_takeBackLatest_111 rfl rfl ?_
    refine fr_iconst (q := 113) (v := 0) F dX0_takeBackLatest_112 rfl (by decide) ?_
    refine fr_iconst (q := 114) (v := 5) F dX0_takeBackLatest_113 rfl (by decide) ?_
    obtain ⟨r16, hr17, h⟩ := fr_bd_some h
    refine fr_callN (q := 117) (M' := (n0, u0)) (rest := []) (st' := [.int (fr_b r16)]) F dX0_takeBackLatest_114 rfl (tX7_within hr17) rfl (by decide) msX7_within ⟨Nat.le_of_ble_eq_true rfl, Nat.le_of_ble_eq_true rfl⟩ rfl rfl (Nat.le_of_ble_eq_true rfl) rfl ?_
    refine fr_if_eqb (q := 120) (tgt := 138) F dX0_takeBackLatest_117 (by decide) rfl (fun hc18 => ?_) (fun hc18 => ?_)
    · rw [if_neg hc18] at h
      exact fr_wj (tX0_takeBackLatest_138 F E h) ⟨rfl, ⟨rfl, ⟨rfl, trivial⟩⟩⟩
    · rw [if_pos hc18] at h
      refine fr_aload_n (q := 121) F dX0_takeBackLatest_120 rfl rfl ?_
      refine fr_gfR (q := 124) (j := 4) F dX0_takeBackLatest_121 rfl faRX0_55 (by decide) rfl rfl ?_
      refine fr_iload_n (q := 125) F dX0_takeBackLatest_124 rfl rfl ?_
      refine fr_aload_n (q := 126) F dX0_takeBackLatest_125 rfl rfl ?_
      refine fr_gfR (q := 129) (j := 46) F dX0_takeBackLatest_126 rfl faRX0_18 (by decide) rfl rfl ?_
      refine fr_aload_n (q := 130) F dX0_takeBackLatest_129 rfl rfl ?_
      refine fr_gfI (q := 133) (x := (n0 43 4)) F dX0_takeBackLatest_130 rfl faRX0_24 (by decide) rfl rfl rfl ?_
      obtain ⟨hi19, h⟩ := fr_ck_some h
      refine fr_ial (q := 134) (x := (n0 46 (Int32.toNatClampNeg (n0 43 4)))) F dX0_takeBackLatest_133 rfl hi19 (by decide) rfl rfl ?_
      obtain ⟨hi20, h⟩ := fr_ck_some h
      obtain ⟨n21, hn22, h⟩ := fr_lt_some h
      refine fr_ias (q := 135) (M' := (n21, u0)) F dX0_takeBackLatest_134 rfl hi20 (by decide) rfl (congrArg (fun z => (z, u0)) hn22) ?_
      refine fr_goto (tgt := 190) F dX0_takeBackLatest_135 (by decide) ?_
      obtain rfl := Option.some.inj h
      exact fr_vret F E rfl dX0_takeBackLatest_190
theorem tX0_takeBackLatest {l : Launch} {G : fr_G} {u0 : fr_N} {n0 : fr_N} {nz : fr_N} (h : fX0_takeBackLatest n0 = some nz) : fr_Met l G YX0_takeBackLatest [.ref 43, .ref 3] (n0, u0) none (nz, u0) := by
  refine fr_met (pad := List.replicate 1 none) (by decide) (Nat.le_of_ble_eq_true rfl) (fun _ h => List.eq_of_mem_replicate h) ⟨rfl, rfl⟩ (fun K F hG hL E => ?_)
  subst hG; subst hL
  rw [fX0_takeBackLatest] at h
  show fr_V YX0_takeBackLatest K 0 [some (.ref 43), some (.ref 3), none] [] (n0, u0)
  refine fr_aload_n (q := 1) F dX0_takeBackLatest_0 rfl rfl ?_
  refine fr_gfI (q := 4) (x := (n0 43 4)) F dX0_takeBackLatest_1 rfl faRX0_24 (by decide) rfl rfl rfl ?_
  refine fr_if_gt (q := 7) (tgt := 8) F dX0_takeBackLatest_4 (by decide) rfl (fun hc23 => ?_) (fun hc23 => ?_)
  · rw [if_pos hc23] at h
    refine fr_aload_n (q := 9) F dX0_takeBackLatest_8 rfl rfl ?_
    refine fr_dup (q := 10) F dX0_takeBackLatest_9 rfl rfl ?_
    refine fr_gfI (q := 13) (x := (n0 43 4)) F dX0_takeBackLatest_10 rfl faRX0_24 (by decide) rfl rfl rfl ?_
    refine fr_iconst (q := 14) (v := 1) F dX0_takeBackLatest_13 rfl (by decide) ?_
    refine fr_isub (q := 15) F dX0_takeBackLatest_14 rfl ?_
    obtain ⟨n24, hn25, h⟩ := fr_lt_some h
    refine fr_pfI (q := 18) (M' := (n24, u0)) F dX0_takeBackLatest_15 rfl fpRX0_24 (by decide) rfl rfl (congrArg (fun z => (z, u0)) hn25) ?_
    refine fr_aload_n (q := 19) F dX0_takeBackLatest_18 rfl rfl ?_
    refine fr_gfR (q := 22) (j := 45) F dX0_takeBackLatest_19 rfl faRX0_15 (by decide) rfl rfl ?_
    refine fr_aload_n (q := 23) F dX0_takeBackLatest_22 rfl rfl ?_
    refine fr_gfI (q := 26) (x := (n24 43 4)) F dX0_takeBackLatest_23 rfl faRX0_24 (by decide) rfl rfl rfl ?_
    obtain ⟨hi26, h⟩ := fr_ck_some h
    refine fr_ial (q := 27) (x := (n24 45 (Int32.toNatClampNeg (n24 43 4)))) F dX0_takeBackLatest_26 rfl hi26 (by decide) rfl rfl ?_
    refine fr_istore_n (q := 28) F dX0_takeBackLatest_27 rfl (by decide) rfl ?_
    refine fr_aload_n (q := 29) F dX0_takeBackLatest_28 rfl rfl ?_
    refine fr_gfR (q := 32) (j := 44) F dX0_takeBackLatest_29 rfl faRX0_11 (by decide) rfl rfl ?_
    refine fr_aload_n (q := 33) F dX0_takeBackLatest_32 rfl rfl ?_
    refine fr_gfI (q := 36) (x := (n24 43 4)) F dX0_takeBackLatest_33 rfl faRX0_24 (by decide) rfl rfl rfl ?_
    obtain ⟨hi27, h⟩ := fr_ck_some h
    refine fr_ial (q := 37) (x := (n24 44 (Int32.toNatClampNeg (n24 43 4)))) F dX0_takeBackLatest_36 rfl hi27 (by decide) rfl rfl ?_
    refine fr_iconst (q := 38) (v := 1) F dX0_takeBackLatest_37 rfl (by decide) ?_
    refine fr_icmp_ne (q := 41) (tgt := 58) F dX0_takeBackLatest_38 (by decide) rfl (fun hc28 => ?_) (fun hc28 => ?_)
    · rw [if_neg hc28] at h
      refine fr_aload_n (q := 59) F dX0_takeBackLatest_58 rfl rfl ?_
      refine fr_gfR (q := 62) (j := 44) F dX0_takeBackLatest_59 rfl faRX0_11 (by decide) rfl rfl ?_
      refine fr_aload_n (q := 63) F dX0_takeBackLatest_62 rfl rfl ?_
      refine fr_gfI (q := 66) (x := (n24 43 4)) F dX0_takeBackLatest_63 rfl faRX0_24 (by decide) rfl rfl rfl ?_
      obtain ⟨hi29, h⟩ := fr_ck_some h
      refine fr_ial (q := 67) (x := (n24 44 (Int32.toNatClampNeg (n24 43 4)))) F dX0_takeBackLatest_66 rfl hi29 (by decide) rfl rfl ?_
      refine fr_if_ne (q := 70) (tgt := 98) F dX0_takeBackLatest_67 (by decide) rfl (fun hc30 => ?_) (fun hc30 => ?_)
      · rw [if_neg hc30] at h
        exact fr_wj (tX0_takeBackLatest_98 F E h) ⟨rfl, ⟨rfl, ⟨rfl, trivial⟩⟩⟩
      · rw [if_pos hc30] at h
        refine fr_iload_n (q := 71) F dX0_takeBackLatest_70 rfl rfl ?_
        refine fr_iconst (q := 72) (v := 0) F dX0_takeBackLatest_71 rfl (by decide) ?_
        refine fr_bipush (q := 74) (v := 47) F dX0_takeBackLatest_72 rfl (by decide) ?_
        obtain ⟨r31, hr32, h⟩ := fr_bd_some h
        refine fr_callN (q := 77) (M' := (n24, u0)) (rest := []) (st' := [.int (fr_b r31)]) F dX0_takeBackLatest_74 rfl (tX7_within hr32) rfl (by decide) msX7_within ⟨Nat.le_of_ble_eq_true rfl, Nat.le_of_ble_eq_true rfl⟩ rfl rfl (Nat.le_of_ble_eq_true rfl) rfl ?_
        refine fr_if_eqb (q := 80) (tgt := 98) F dX0_takeBackLatest_77 (by decide) rfl (fun hc33 => ?_) (fun hc33 => ?_)
        · rw [if_neg hc33] at h
          exact fr_wj (tX0_takeBackLatest_98 F E h) ⟨rfl, ⟨rfl, ⟨rfl, trivial⟩⟩⟩
        · rw [if_pos hc33] at h
          refine fr_aload_n (q := 81) F dX0_takeBackLatest_80 rfl rfl ?_
          refine fr_gfR (q := 84) (j := 5) F dX0_takeBackLatest_81 rfl faRX0_52 (by decide) rfl rfl ?_
          refine fr_iload_n (q := 85) F dX0_takeBackLatest_84 rfl rfl ?_
          refine fr_aload_n (q := 86) F dX0_takeBackLatest_85 rfl rfl ?_
          refine fr_gfR (q := 89) (j := 46) F dX0_takeBackLatest_86 rfl faRX0_18 (by decide) rfl rfl ?_
          refine fr_aload_n (q := 90) F dX0_takeBackLatest_89 rfl rfl ?_
          refine fr_gfI (q := 93) (x := (n24 43 4)) F dX0_takeBackLatest_90 rfl faRX0_24 (by decide) rfl rfl rfl ?_
          obtain ⟨hi34, h⟩ := fr_ck_some h
          refine fr_ial (q := 94) (x := (n24 46 (Int32.toNatClampNeg (n24 43 4)))) F dX0_takeBackLatest_93 rfl hi34 (by decide) rfl rfl ?_
          obtain ⟨hi35, h⟩ := fr_ck_some h
          obtain ⟨n36, hn37, h⟩ := fr_lt_some h
          refine fr_ias (q := 95) (M' := (n36, u0)) F dX0_takeBackLatest_94 rfl hi35 (by decide) rfl (congrArg (fun z => (z, u0)) hn37) ?_
          refine fr_goto (tgt := 190) F dX0_takeBackLatest_95 (by decide) ?_
          obtain rfl := Option.some.inj h
          exact fr_vret F E rfl dX0_takeBackLatest_190
    · rw [if_pos hc28] at h
      refine fr_aload_n (q := 42) F dX0_takeBackLatest_41 rfl rfl ?_
      refine fr_iconst (q := 43) (v := 0) F dX0_takeBackLatest_42 rfl (by decide) ?_
      refine fr_aload_n (q := 44) F dX0_takeBackLatest_43 rfl rfl ?_
      refine fr_gfI (q := 47) (x := (n24 3 1)) F dX0_takeBackLatest_44 rfl faRX0_37 (by decide) rfl rfl rfl ?_
      refine fr_iconst (q := 48) (v := 1) F dX0_takeBackLatest_47 rfl (by decide) ?_
      refine fr_isub (q := 49) F dX0_takeBackLatest_48 rfl ?_
      refine fr_max (q := 52) F dX0_takeBackLatest_49 rfl mlRX0_42 mm_max ⟨Nat.le_of_ble_eq_true rfl, Nat.le_of_ble_eq_true rfl⟩ ?_
      obtain ⟨n38, hn39, h⟩ := fr_lt_some h
      refine fr_pfI (q := 55) (M' := (n38, u0)) F dX0_takeBackLatest_52 rfl fpRX0_37 (by decide) rfl rfl (congrArg (fun z => (z, u0)) hn39) ?_
      refine fr_goto (tgt := 190) F dX0_takeBackLatest_55 (by decide) ?_
      obtain rfl := Option.some.inj h
      exact fr_vret F E rfl dX0_takeBackLatest_190
  · rw [if_neg hc23] at h
    obtain rfl := Option.some.inj h
    exact fr_vret F E rfl dX0_takeBackLatest_7
/-! FeastRota.undo (0,) -/
def fX7_undo (n0 : fr_N) : Option (Int32 × fr_N) := if 0 < (n0 43 4) then fr_bd (fX0_takeBackLatest n0) fun n4 => (some ((n4 43 4), n4)) else some ((-1000002 : Int32), n0)
theorem tX7_undo {l : Launch} {G : fr_G} {u0 : fr_N} {n0 : fr_N} {rz : Int32} {nz : fr_N} (h : fX7_undo n0 = some (rz, nz)) : fr_Met l G YX7_undo [.ref 0] (n0, u0) (some (.int rz)) (nz, u0) := by
  refine fr_met (pad := List.replicate 0 none) (by decide) (Nat.le_of_ble_eq_true rfl) (fun _ h => List.eq_of_mem_replicate h) ⟨rfl, rfl⟩ (fun K F hG hL E => ?_)
  subst hG; subst hL
  rw [fX7_undo] at h
  show fr_V YX7_undo K 0 [some (.ref 0)] [] (n0, u0)
  refine fr_aload_n (q := 1) F dX7_undo_0 rfl rfl ?_
  refine fr_gfR (q := 4) (j := 43) F dX7_undo_1 rfl faRX7_47 (by decide) rfl rfl ?_
  refine fr_gfI (q := 7) (x := (n0 43 4)) F dX7_undo_4 rfl faRX7_99 (by decide) rfl rfl rfl ?_
  refine fr_if_gt (q := 10) (tgt := 13) F dX7_undo_7 (by decide) rfl (fun hc1 => ?_) (fun hc1 => ?_)
  · rw [if_pos hc1] at h
    refine fr_aload_n (q := 14) F dX7_undo_13 rfl rfl ?_
    refine fr_gfR (q := 17) (j := 43) F dX7_undo_14 rfl faRX7_47 (by decide) rfl rfl ?_
    refine fr_aload_n (q := 18) F dX7_undo_17 rfl rfl ?_
    refine fr_gfR (q := 21) (j := 3) F dX7_undo_18 rfl faRX7_36 (by decide) rfl rfl ?_
    obtain ⟨n4, hr3, h⟩ := fr_bd_some h
    refine fr_callV (q := 24) (M' := (n4, u0)) (rest := []) (st' := []) F dX7_undo_21 rfl (tX0_takeBackLatest hr3) mlRX7_106 msX0_takeBackLatest ⟨Nat.le_of_ble_eq_true rfl, Nat.le_of_ble_eq_true rfl⟩ (by decide) rfl rfl rfl (Nat.le_of_ble_eq_true rfl) rfl ?_
    refine fr_aload_n (q := 25) F dX7_undo_24 rfl rfl ?_
    refine fr_gfR (q := 28) (j := 43) F dX7_undo_25 rfl faRX7_47 (by decide) rfl rfl ?_
    refine fr_gfI (q := 31) (x := (n4 43 4)) F dX7_undo_28 rfl faRX7_99 (by decide) rfl rfl rfl ?_
    obtain ⟨rfl, rfl⟩ := Prod.mk.inj (Option.some.inj h)
    exact fr_iret F E rfl dX7_undo_31
  · rw [if_neg hc1] at h
    refine fr_ldc (q := 12) F dX7_undo_10 rfl kcRX7_105 ?_
    obtain ⟨rfl, rfl⟩ := Prod.mk.inj (Option.some.inj h)
    exact fr_iret F E rfl dX7_undo_12
/-! FeastRotaModel.copies (55, None, 53, None) -/
def fX8_copies_55_53_3 : Nat → Int32 → Int32 → Int32 → fr_N → Option fr_N
  | 0, _, _, _, _ => none
  | k + 1, x1, x3, x4, n0 => if (79 : Int32) ≤ x4 then some n0 else fr_ck (x1 + x4) 1264 (fr_ck (x3 + x4) 79 (fr_lt (fr_up n0 1 (Int32.toNatClampNeg (x3 + x4)) (n0 3 (Int32.toNatClampNeg (x1 + x4)))) fun n4 => ((fX8_copies_55_53_3 k) x1 x3 (x4 + (1 : Int32)) n4)))
def fX8_copies_55_53 (a1 : Int32) (a3 : Int32) (n0 : fr_N) : Option fr_N := fX8_copies_55_53_3 2000 a1 a3 (0 : Int32) n0
theorem tX8_copies_55_53_3 {K : fr_K} {u0 : fr_N} {nz : fr_N} (F : fr_F YX8_copies K) (E : fr_R YX8_copies K none (u0, nz)) : ∀ (k : Nat) (x1 : Int32) (x3 : Int32) (x4 : Int32) (n0 : fr_N), fX8_copies_55_53_3 k x1 x3 x4 n0 = some nz → fr_V YX8_copies K 3 [some (.ref 55), some (.int x1), some (.ref 53), some (.int x3), some (.int x4)] [] (u0, n0) := by
  intro k
  induction k with
  | zero =>
    intro x1 x3 x4 n0 h
    rw [fX8_copies_55_53_3] at h
    cases h
  | succ k ih =>
    intro x1 x3 x4 n0 h
    rw [fX8_copies_55_53_3] at h
    refine fr_iload (q := 5) F dX8_copies_3 rfl rfl ?_
    refine fr_bipush (q := 7) (v := 79) F dX8_copies_5 rfl (by decide) ?_
    refine fr_icmp_ge (q := 10) (tgt := 28) F dX8_copies_7 (by decide) rfl (fun hc1 => ?_) (fun hc1 => ?_)
    · rw [if_pos hc1] at h
      obtain rfl := Option.some.inj h
      exact fr_vret F E rfl dX8_copies_28
    · rw [if_neg hc1] at h
      refine fr_aload_n (q := 11) F dX8_copies_10 rfl rfl ?_
      refine fr_iload_n (q := 12) F dX8_copies_11 rfl rfl ?_
      refine fr_iload (q := 14) F dX8_copies_12 rfl rfl ?_
      refine fr_iadd (q := 15) F dX8_copies_14 rfl ?_
      refine fr_aload_n (q := 16) F dX8_copies_15 rfl rfl ?_
      refine fr_iload_n (q := 17) F dX8_copies_16 rfl rfl ?_
      refine fr_iload (q := 19) F dX8_copies_17 rfl rfl ?_
      refine fr_iadd (q := 20) F dX8_copies_19 rfl ?_
      obtain ⟨hi2, h⟩ := fr_ck_some h
      refine fr_ial (q := 21) (x := (n0 3 (Int32.toNatClampNeg (x1 + x4)))) F dX8_copies_20 rfl hi2 (by decide) rfl rfl ?_
      obtain ⟨hi3, h⟩ := fr_ck_some h
      obtain ⟨n4, hn5, h⟩ := fr_lt_some h
      refine fr_ias (q := 22) (M' := (u0, n4)) F dX8_copies_21 rfl hi3 (by decide) rfl (congrArg (fun z => (u0, z)) hn5) ?_
      refine fr_iinc (q := 25) (v := (x4 + (1 : Int32))) F dX8_copies_22 rfl rfl rfl (by decide) rfl ?_
      refine fr_goto (tgt := 3) F dX8_copies_25 (by decide) ?_
      exact fr_wj (ih _ _ _ _ h) ⟨rfl, ⟨rfl, ⟨rfl, ⟨rfl, ⟨rfl, trivial⟩⟩⟩⟩⟩
theorem tX8_copies_55_53 {l : Launch} {G : fr_G} {u0 : fr_N} {a1 : Int32} {a3 : Int32} {n0 : fr_N} {nz : fr_N} (h : fX8_copies_55_53 a1 a3 n0 = some nz) : fr_Met l G YX8_copies [.ref 55, .int a1, .ref 53, .int a3] (u0, n0) none (u0, nz) := by
  refine fr_met (pad := List.replicate 1 none) (by decide) (Nat.le_of_ble_eq_true rfl) (fun _ h => List.eq_of_mem_replicate h) ⟨rfl, rfl⟩ (fun K F hG hL E => ?_)
  subst hG; subst hL
  rw [fX8_copies_55_53] at h
  show fr_V YX8_copies K 0 [some (.ref 55), some (.int a1), some (.ref 53), some (.int a3), none] [] (u0, n0)
  refine fr_iconst (q := 1) (v := 0) F dX8_copies_0 rfl (by decide) ?_
  refine fr_istore (q := 3) F dX8_copies_1 rfl (by decide) rfl ?_
  exact fr_wj (tX8_copies_55_53_3 F E _ _ _ _ _ h) ⟨rfl, ⟨rfl, ⟨rfl, ⟨rfl, ⟨rfl, trivial⟩⟩⟩⟩⟩
/-! FeastRotaModel.undo (52,) -/
def fX8_undo (n0 : fr_N) : Option (Int32 × fr_N) := if (n0 0 3) = 0 then some ((-1000002 : Int32), n0) else fr_lt (fr_up n0 0 3 ((n0 0 3) - (1 : Int32))) fun n2 => (fr_bd (fX8_copies_55_53 ((79 : Int32) * (n2 0 3)) (0 : Int32) n2) fun n6 => (some ((n6 0 3), n6)))
theorem tX8_undo {l : Launch} {G : fr_G} {u0 : fr_N} {n0 : fr_N} {rz : Int32} {nz : fr_N} (h : fX8_undo n0 = some (rz, nz)) : fr_Met l G YX8_undo [.ref 52] (u0, n0) (some (.int rz)) (u0, nz) := by
  refine fr_met (pad := List.replicate 0 none) (by decide) (Nat.le_of_ble_eq_true rfl) (fun _ h => List.eq_of_mem_replicate h) ⟨rfl, rfl⟩ (fun K F hG hL E => ?_)
  subst hG; subst hL
  rw [fX8_undo] at h
  show fr_V YX8_undo K 0 [some (.ref 52)] [] (u0, n0)
  refine fr_aload_n (q := 1) F dX8_undo_0 rfl rfl ?_
  refine fr_gfI (q := 4) (x := (n0 0 3)) F dX8_undo_1 rfl faRX8_235 (by decide) rfl rfl rfl ?_
  refine fr_if_ne (q := 7) (tgt := 10) F dX8_undo_4 (by decide) rfl (fun hc1 => ?_) (fun hc1 => ?_)
  · rw [if_neg hc1] at h
    refine fr_aload_n (q := 11) F dX8_undo_10 rfl rfl ?_
    refine fr_dup (q := 12) F dX8_undo_11 rfl rfl ?_
    refine fr_gfI (q := 15) (x := (n0 0 3)) F dX8_undo_12 rfl faRX8_235 (by decide) rfl rfl rfl ?_
    refine fr_iconst (q := 16) (v := 1) F dX8_undo_15 rfl (by decide) ?_
    refine fr_isub (q := 17) F dX8_undo_16 rfl ?_
    obtain ⟨n2, hn3, h⟩ := fr_lt_some h
    refine fr_pfI (q := 20) (M' := (u0, n2)) F dX8_undo_17 rfl fpRX8_235 (by decide) rfl rfl (congrArg (fun z => (u0, z)) hn3) ?_
    refine fr_aload_n (q := 21) F dX8_undo_20 rfl rfl ?_
    refine fr_gfR (q := 24) (j := 55) F dX8_undo_21 rfl faRX8_16 (by decide) rfl rfl ?_
    refine fr_bipush (q := 26) (v := 79) F dX8_undo_24 rfl (by decide) ?_
    refine fr_aload_n (q := 27) F dX8_undo_26 rfl rfl ?_
    refine fr_gfI (q := 30) (x := (n2 0 3)) F dX8_undo_27 rfl faRX8_235 (by decide) rfl rfl rfl ?_
    refine fr_imul (q := 31) F dX8_undo_30 rfl ?_
    refine fr_aload_n (q := 32) F dX8_undo_31 rfl rfl ?_
    refine fr_gfR (q := 35) (j := 53) F dX8_undo_32 rfl faRX8_7 (by decide) rfl rfl ?_
    refine fr_iconst (q := 36) (v := 0) F dX8_undo_35 rfl (by decide) ?_
    obtain ⟨n6, hr5, h⟩ := fr_bd_some h
    refine fr_callS (q := 39) (M' := (u0, n6)) (rest := []) (st' := []) F dX8_undo_36 rfl (tX8_copies_55_53 hr5) mlRX8_231 msX8_copies ⟨Nat.le_of_ble_eq_true rfl, Nat.le_of_ble_eq_true rfl⟩ rfl rfl (Nat.le_of_ble_eq_true rfl) rfl ?_
    refine fr_aload_n (q := 40) F dX8_undo_39 rfl rfl ?_
    refine fr_gfI (q := 43) (x := (n6 0 3)) F dX8_undo_40 rfl faRX8_235 (by decide) rfl rfl rfl ?_
    obtain ⟨rfl, rfl⟩ := Prod.mk.inj (Option.some.inj h)
    exact fr_iret F E rfl dX8_undo_43
  · rw [if_pos hc1] at h
    refine fr_ldc (q := 9) F dX8_undo_7 rfl kcRX8_238 ?_
    obtain ⟨rfl, rfl⟩ := Prod.mk.inj (Option.some.inj h)
    exact fr_iret F E rfl dX8_undo_9
/-! FeastRota$Book.hasFeast (3, None) -/
def fX1_hasFeast_3 (a1 : Int32) (n0 : fr_N) : Option Bool := if a1 < (0 : Int32) then some false else if (n0 3 1) ≤ a1 then some false else some true
theorem tX1_hasFeast_3 {l : Launch} {G : fr_G} {u0 : fr_N} {a1 : Int32} {n0 : fr_N} {rz : Bool} (h : fX1_hasFeast_3 a1 n0 = some rz) : fr_Met l G YX1_hasFeast [.ref 3, .int a1] (n0, u0) (some (.int (fr_b rz))) (n0, u0) := by
  refine fr_met (pad := List.replicate 0 none) (by decide) (Nat.le_of_ble_eq_true rfl) (fun _ h => List.eq_of_mem_replicate h) ⟨rfl, rfl⟩ (fun K F hG hL E => ?_)
  subst hG; subst hL
  rw [fX1_hasFeast_3] at h
  show fr_V YX1_hasFeast K 0 [some (.ref 3), some (.int a1)] [] (n0, u0)
  refine fr_iconst (q := 1) (v := 0) F dX1_hasFeast_0 rfl (by decide) ?_
  refine fr_iload_n (q := 2) F dX1_hasFeast_1 rfl rfl ?_
  refine fr_icmp_gt (q := 5) (tgt := 17) F dX1_hasFeast_2 (by decide) rfl (fun hc1 => ?_) (fun hc1 => ?_)
  · rw [if_pos hc1] at h
    refine fr_iconst (q := 18) (v := 0) F dX1_hasFeast_17 rfl (by decide) ?_
    obtain rfl := Option.some.inj h
    exact fr_zret F E rfl dX1_hasFeast_18
  · rw [if_neg hc1] at h
    refine fr_iload_n (q := 6) F dX1_hasFeast_5 rfl rfl ?_
    refine fr_aload_n (q := 7) F dX1_hasFeast_6 rfl rfl ?_
    refine fr_gfI (q := 10) (x := (n0 3 1)) F dX1_hasFeast_7 rfl faRX1_48 (by decide) rfl rfl rfl ?_
    refine fr_icmp_ge (q := 13) (tgt := 17) F dX1_hasFeast_10 (by decide) rfl (fun hc2 => ?_) (fun hc2 => ?_)
    · rw [if_pos hc2] at h
      refine fr_iconst (q := 18) (v := 0) F dX1_hasFeast_17 rfl (by decide) ?_
      obtain rfl := Option.some.inj h
      exact fr_zret F E rfl dX1_hasFeast_18
    · rw [if_neg hc2] at h
      refine fr_iconst (q := 14) (v := 1) F dX1_hasFeast_13 rfl (by decide) ?_
      refine fr_goto (tgt := 18) F dX1_hasFeast_14 (by decide) ?_
      obtain rfl := Option.some.inj h
      exact fr_zret F E rfl dX1_hasFeast_18
/-! FeastRota$Book.mark (3, None, None) -/
def fX1_mark_3 (a1 : Int32) (a2 : Int32) (n0 : fr_N) : Option Int32 := fr_bd (fX1_hasFeast_3 a1 n0) fun r1 => (if r1 = true then fr_bd (fX7_within a2 (0 : Int32) (3 : Int32)) fun r4 => (if r4 = true then fr_ck ((a1 * (4 : Int32)) + a2) 48 (some (n0 5 (Int32.toNatClampNeg ((a1 * (4 : Int32)) + a2)))) else some (0 : Int32)) else some (0 : Int32))
theorem tX1_mark_3 {l : Launch} {G : fr_G} {u0 : fr_N} {a1 : Int32} {a2 : Int32} {n0 : fr_N} {rz : Int32} (h : fX1_mark_3 a1 a2 n0 = some rz) : fr_Met l G YX1_mark [.ref 3, .int a1, .int a2] (n0, u0) (some (.int rz)) (n0, u0) := by
  refine fr_met (pad := List.replicate 0 none) (by decide) (Nat.le_of_ble_eq_true rfl) (fun _ h => List.eq_of_mem_replicate h) ⟨rfl, rfl⟩ (fun K F hG hL E => ?_)
  subst hG; subst hL
  rw [fX1_mark_3] at h
  show fr_V YX1_mark K 0 [some (.ref 3), some (.int a1), some (.int a2)] [] (n0, u0)
  refine fr_aload_n (q := 1) F dX1_mark_0 rfl rfl ?_
  refine fr_iload_n (q := 2) F dX1_mark_1 rfl rfl ?_
  obtain ⟨r1, hr2, h⟩ := fr_bd_some h
  refine fr_callV (q := 5) (M' := (n0, u0)) (rest := []) (st' := [.int (fr_b r1)]) F dX1_mark_2 rfl (tX1_hasFeast_3 hr2) mlRX1_70 msX1_hasFeast ⟨Nat.le_of_ble_eq_true rfl, Nat.le_of_ble_eq_true rfl⟩ (by decide) rfl rfl rfl (Nat.le_of_ble_eq_true rfl) rfl ?_
  refine fr_if_eqb (q := 8) (tgt := 30) F dX1_mark_5 (by decide) rfl (fun hc3 => ?_) (fun hc3 => ?_)
  · rw [if_neg hc3] at h
    refine fr_iconst (q := 31) (v := 0) F dX1_mark_30 rfl (by decide) ?_
    obtain rfl := Option.some.inj h
    exact fr_iret F E rfl dX1_mark_31
  · rw [if_pos hc3] at h
    refine fr_iload_n (q := 9) F dX1_mark_8 rfl rfl ?_
    refine fr_iconst (q := 10) (v := 0) F dX1_mark_9 rfl (by decide) ?_
    refine fr_iconst (q := 11) (v := 3) F dX1_mark_10 rfl (by decide) ?_
    obtain ⟨r4, hr5, h⟩ := fr_bd_some h
    refine fr_callN (q := 14) (M' := (n0, u0)) (rest := []) (st' := [.int (fr_b r4)]) F dX1_mark_11 rfl (tX7_within hr5) rfl (by decide) msX7_within ⟨Nat.le_of_ble_eq_true rfl, Nat.le_of_ble_eq_true rfl⟩ rfl rfl (Nat.le_of_ble_eq_true rfl) rfl ?_
    refine fr_if_eqb (q := 17) (tgt := 30) F dX1_mark_14 (by decide) rfl (fun hc6 => ?_) (fun hc6 => ?_)
    · rw [if_neg hc6] at h
      refine fr_iconst (q := 31) (v := 0) F dX1_mark_30 rfl (by decide) ?_
      obtain rfl := Option.some.inj h
      exact fr_iret F E rfl dX1_mark_31
    · rw [if_pos hc6] at h
      refine fr_aload_n (q := 18) F dX1_mark_17 rfl rfl ?_
      refine fr_gfR (q := 21) (j := 5) F dX1_mark_18 rfl faRX1_15 (by decide) rfl rfl ?_
      refine fr_iload_n (q := 22) F dX1_mark_21 rfl rfl ?_
      refine fr_iconst (q := 23) (v := 4) F dX1_mark_22 rfl (by decide) ?_
      refine fr_imul (q := 24) F dX1_mark_23 rfl ?_
      refine fr_iload_n (q := 25) F dX1_mark_24 rfl rfl ?_
      refine fr_iadd (q := 26) F dX1_mark_25 rfl ?_
      obtain ⟨hi7, h⟩ := fr_ck_some h
      refine fr_ial (q := 27) (x := (n0 5 (Int32.toNatClampNeg ((a1 * (4 : Int32)) + a2)))) F dX1_mark_26 rfl hi7 (by decide) rfl rfl ?_
      refine fr_goto (tgt := 31) F dX1_mark_27 (by decide) ?_
      obtain rfl := Option.some.inj h
      exact fr_iret F E rfl dX1_mark_31
/-! FeastRota$Book.canBe (None, None, None, None) -/
def fX1_canBe (a0 : Int32) (a1 : Int32) (a2 : Int32) (a3 : Int32) : Option Bool := fr_bd (fX7_within a0 (0 : Int32) (3 : Int32)) fun r1 => (if r1 = true then fr_bd (fX1_leastN a0) fun r4 => (fr_bd (fX1_greatestN a0) fun r6 => (fr_bd (fX7_within a1 r4 r6) fun r8 => (if r8 = true then fr_bd (fX7_within a2 (1 : Int32) (5 : Int32)) fun r11 => (if r11 = true then fr_bd (fX7_within a3 (1 : Int32) (6 : Int32)) fun r14 => (if r14 = true then some true else some false) else some false) else some false))) else some false)
theorem tX1_canBe {l : Launch} {G : fr_G} {M0 : fr_M} {a0 : Int32} {a1 : Int32} {a2 : Int32} {a3 : Int32} {rz : Bool} (h : fX1_canBe a0 a1 a2 a3 = some rz) : fr_Met l G YX1_canBe [.int a0, .int a1, .int a2, .int a3] M0 (some (.int (fr_b rz))) M0 := by
  refine fr_met (pad := List.replicate 0 none) (by decide) (Nat.le_of_ble_eq_true rfl) (fun _ h => List.eq_of_mem_replicate h) ⟨rfl, rfl⟩ (fun K F hG hL E => ?_)
  subst hG; subst hL
  rw [fX1_canBe] at h
  show fr_V YX1_canBe K 0 [some (.int a0), some (.int a1), some (.int a2), some (.int a3)] [] M0
  refine fr_iload_n (q := 1) F dX1_canBe_0 rfl rfl ?_
  refine fr_iconst (q := 2) (v := 0) F dX1_canBe_1 rfl (by decide) ?_
  refine fr_iconst (q := 3) (v := 3) F dX1_canBe_2 rfl (by decide) ?_
  obtain ⟨r1, hr2, h⟩ := fr_bd_some h
  refine fr_callN (q := 6) (M' := M0) (rest := []) (st' := [.int (fr_b r1)]) F dX1_canBe_3 rfl (tX7_within hr2) rfl (by decide) msX7_within ⟨Nat.le_of_ble_eq_true rfl, Nat.le_of_ble_eq_true rfl⟩ rfl rfl (Nat.le_of_ble_eq_true rfl) rfl ?_
  refine fr_if_eqb (q := 9) (tgt := 47) F dX1_canBe_6 (by decide) rfl (fun hc3 => ?_) (fun hc3 => ?_)
  · rw [if_neg hc3] at h
    refine fr_iconst (q := 48) (v := 0) F dX1_canBe_47 rfl (by decide) ?_
    obtain rfl := Option.some.inj h
    exact fr_zret F E rfl dX1_canBe_48
  · rw [if_pos hc3] at h
    refine fr_iload_n (q := 10) F dX1_canBe_9 rfl rfl ?_
    refine fr_iload_n (q := 11) F dX1_canBe_10 rfl rfl ?_
    obtain ⟨r4, hr5, h⟩ := fr_bd_some h
    refine fr_callS (q := 14) (M' := M0) (rest := [.int a1]) (st' := [.int r4, .int a1]) F dX1_canBe_11 rfl (tX1_leastN hr5) mlRX1_37 msX1_leastN ⟨Nat.le_of_ble_eq_true rfl, Nat.le_of_ble_eq_true rfl⟩ rfl rfl (Nat.le_of_ble_eq_true rfl) rfl ?_
    refine fr_iload_n (q := 15) F dX1_canBe_14 rfl rfl ?_
    obtain ⟨r6, hr7, h⟩ := fr_bd_some h
    refine fr_callS (q := 18) (M' := M0) (rest := [.int r4, .int a1]) (st' := [.int r6, .int r4, .int a1]) F dX1_canBe_15 rfl (tX1_greatestN hr7) mlRX1_41 msX1_greatestN ⟨Nat.le_of_ble_eq_true rfl, Nat.le_of_ble_eq_true rfl⟩ rfl rfl (Nat.le_of_ble_eq_true rfl) rfl ?_
    obtain ⟨r8, hr9, h⟩ := fr_bd_some h
    refine fr_callN (q := 21) (M' := M0) (rest := []) (st' := [.int (fr_b r8)]) F dX1_canBe_18 rfl (tX7_within hr9) rfl (by decide) msX7_within ⟨Nat.le_of_ble_eq_true rfl, Nat.le_of_ble_eq_true rfl⟩ rfl rfl (Nat.le_of_ble_eq_true rfl) rfl ?_
    refine fr_if_eqb (q := 24) (tgt := 47) F dX1_canBe_21 (by decide) rfl (fun hc10 => ?_) (fun hc10 => ?_)
    · rw [if_neg hc10] at h
      refine fr_iconst (q := 48) (v := 0) F dX1_canBe_47 rfl (by decide) ?_
      obtain rfl := Option.some.inj h
      exact fr_zret F E rfl dX1_canBe_48
    · rw [if_pos hc10] at h
      refine fr_iload_n (q := 25) F dX1_canBe_24 rfl rfl ?_
      refine fr_iconst (q := 26) (v := 1) F dX1_canBe_25 rfl (by decide) ?_
      refine fr_iconst (q := 27) (v := 5) F dX1_canBe_26 rfl (by decide) ?_
      obtain ⟨r11, hr12, h⟩ := fr_bd_some h
      refine fr_callN (q := 30) (M' := M0) (rest := []) (st' := [.int (fr_b r11)]) F dX1_canBe_27 rfl (tX7_within hr12) rfl (by decide) msX7_within ⟨Nat.le_of_ble_eq_true rfl, Nat.le_of_ble_eq_true rfl⟩ rfl rfl (Nat.le_of_ble_eq_true rfl) rfl ?_
      refine fr_if_eqb (q := 33) (tgt := 47) F dX1_canBe_30 (by decide) rfl (fun hc13 => ?_) (fun hc13 => ?_)
      · rw [if_neg hc13] at h
        refine fr_iconst (q := 48) (v := 0) F dX1_canBe_47 rfl (by decide) ?_
        obtain rfl := Option.some.inj h
        exact fr_zret F E rfl dX1_canBe_48
      · rw [if_pos hc13] at h
        refine fr_iload_n (q := 34) F dX1_canBe_33 rfl rfl ?_
        refine fr_iconst (q := 35) (v := 1) F dX1_canBe_34 rfl (by decide) ?_
        refine fr_bipush (q := 37) (v := 6) F dX1_canBe_35 rfl (by decide) ?_
        obtain ⟨r14, hr15, h⟩ := fr_bd_some h
        refine fr_callN (q := 40) (M' := M0) (rest := []) (st' := [.int (fr_b r14)]) F dX1_canBe_37 rfl (tX7_within hr15) rfl (by decide) msX7_within ⟨Nat.le_of_ble_eq_true rfl, Nat.le_of_ble_eq_true rfl⟩ rfl rfl (Nat.le_of_ble_eq_true rfl) rfl ?_
        refine fr_if_eqb (q := 43) (tgt := 47) F dX1_canBe_40 (by decide) rfl (fun hc16 => ?_) (fun hc16 => ?_)
        · rw [if_neg hc16] at h
          refine fr_iconst (q := 48) (v := 0) F dX1_canBe_47 rfl (by decide) ?_
          obtain rfl := Option.some.inj h
          exact fr_zret F E rfl dX1_canBe_48
        · rw [if_pos hc16] at h
          refine fr_iconst (q := 44) (v := 1) F dX1_canBe_43 rfl (by decide) ?_
          refine fr_goto (tgt := 48) F dX1_canBe_44 (by decide) ?_
          obtain rfl := Option.some.inj h
          exact fr_zret F E rfl dX1_canBe_48
/-! FeastRota$Acts.forgetOldest (43,) -/
def fX0_forgetOldest (n0 : fr_N) : Option fr_N := fr_lt (fr_cp n0 44 44 1 0 15) fun n1 => (fr_lt (fr_cp n1 45 45 1 0 15) fun n3 => (fr_lt (fr_cp n3 46 46 1 0 15) fun n5 => (fr_lt (fr_cp n5 47 47 1 0 15) fun n7 => (fr_lt (fr_up n7 43 4 (15 : Int32)) fun n9 => (some n9)))))
theorem tX0_forgetOldest {l : Launch} {G : fr_G} {u0 : fr_N} {n0 : fr_N} {nz : fr_N} (h : fX0_forgetOldest n0 = some nz) : fr_Met l G YX0_forgetOldest [.ref 43] (n0, u0) none (nz, u0) := by
  refine fr_met (pad := List.replicate 0 none) (by decide) (Nat.le_of_ble_eq_true rfl) (fun _ h => List.eq_of_mem_replicate h) ⟨rfl, rfl⟩ (fun K F hG hL E => ?_)
  subst hG; subst hL
  rw [fX0_forgetOldest] at h
  show fr_V YX0_forgetOldest K 0 [some (.ref 43)] [] (n0, u0)
  refine fr_aload_n (q := 1) F dX0_forgetOldest_0 rfl rfl ?_
  refine fr_gfR (q := 4) (j := 44) F dX0_forgetOldest_1 rfl faRX0_11 (by decide) rfl rfl ?_
  refine fr_iconst (q := 5) (v := 1) F dX0_forgetOldest_4 rfl (by decide) ?_
  refine fr_aload_n (q := 6) F dX0_forgetOldest_5 rfl rfl ?_
  refine fr_gfR (q := 9) (j := 44) F dX0_forgetOldest_6 rfl faRX0_11 (by decide) rfl rfl ?_
  refine fr_iconst (q := 10) (v := 0) F dX0_forgetOldest_9 rfl (by decide) ?_
  refine fr_bipush (q := 12) (v := 15) F dX0_forgetOldest_10 rfl (by decide) ?_
  obtain ⟨n1, hn2, h⟩ := fr_lt_some h
  refine fr_acp (q := 15) (M' := (n1, u0)) F dX0_forgetOldest_12 rfl mlRX0_31 mm_acp (by decide) rfl (by decide) rfl (by decide) (by decide) (by decide) (by decide) (by decide) ⟨Nat.le_of_ble_eq_true rfl, Nat.le_of_ble_eq_true rfl⟩ (congrArg (fun z => (z, u0)) hn2) ?_
  refine fr_aload_n (q := 16) F dX0_forgetOldest_15 rfl rfl ?_
  refine fr_gfR (q := 19) (j := 45) F dX0_forgetOldest_16 rfl faRX0_15 (by decide) rfl rfl ?_
  refine fr_iconst (q := 20) (v := 1) F dX0_forgetOldest_19 rfl (by decide) ?_
  refine fr_aload_n (q := 21) F dX0_forgetOldest_20 rfl rfl ?_
  refine fr_gfR (q := 24) (j := 45) F dX0_forgetOldest_21 rfl faRX0_15 (by decide) rfl rfl ?_
  refine fr_iconst (q := 25) (v := 0) F dX0_forgetOldest_24 rfl (by decide) ?_
  refine fr_bipush (q := 27) (v := 15) F dX0_forgetOldest_25 rfl (by decide) ?_
  obtain ⟨n3, hn4, h⟩ := fr_lt_some h
  refine fr_acp (q := 30) (M' := (n3, u0)) F dX0_forgetOldest_27 rfl mlRX0_31 mm_acp (by decide) rfl (by decide) rfl (by decide) (by decide) (by decide) (by decide) (by decide) ⟨Nat.le_of_ble_eq_true rfl, Nat.le_of_ble_eq_true rfl⟩ (congrArg (fun z => (z, u0)) hn4) ?_
  refine fr_aload_n (q := 31) F dX0_forgetOldest_30 rfl rfl ?_
  refine fr_gfR (q := 34) (j := 46) F dX0_forgetOldest_31 rfl faRX0_18 (by decide) rfl rfl ?_
  refine fr_iconst (q := 35) (v := 1) F dX0_forgetOldest_34 rfl (by decide) ?_
  refine fr_aload_n (q := 36) F dX0_forgetOldest_35 rfl rfl ?_
  refine fr_gfR (q := 39) (j := 46) F dX0_forgetOldest_36 rfl faRX0_18 (by decide) rfl rfl ?_
  refine fr_iconst (q := 40) (v := 0) F dX0_forgetOldest_39 rfl (by decide) ?_
  refine fr_bipush (q := 42) (v := 15) F dX0_forgetOldest_40 rfl (by decide) ?_
  obtain ⟨n5, hn6, h⟩ := fr_lt_some h
  refine fr_acp (q := 45) (M' := (n5, u0)) F dX0_forgetOldest_42 rfl mlRX0_31 mm_acp (by decide) rfl (by decide) rfl (by decide) (by decide) (by decide) (by decide) (by decide) ⟨Nat.le_of_ble_eq_true rfl, Nat.le_of_ble_eq_true rfl⟩ (congrArg (fun z => (z, u0)) hn6) ?_
  refine fr_aload_n (q := 46) F dX0_forgetOldest_45 rfl rfl ?_
  refine fr_gfR (q := 49) (j := 47) F dX0_forgetOldest_46 rfl faRX0_21 (by decide) rfl rfl ?_
  refine fr_iconst (q := 50) (v := 1) F dX0_forgetOldest_49 rfl (by decide) ?_
  refine fr_aload_n (q := 51) F dX0_forgetOldest_50 rfl rfl ?_
  refine fr_gfR (q := 54) (j := 47) F dX0_forgetOldest_51 rfl faRX0_21 (by decide) rfl rfl ?_
  refine fr_iconst (q := 55) (v := 0) F dX0_forgetOldest_54 rfl (by decide) ?_
  refine fr_bipush (q := 57) (v := 15) F dX0_forgetOldest_55 rfl (by decide) ?_
  obtain ⟨n7, hn8, h⟩ := fr_lt_some h
  refine fr_acp (q := 60) (M' := (n7, u0)) F dX0_forgetOldest_57 rfl mlRX0_31 mm_acp (by decide) rfl (by decide) rfl (by decide) (by decide) (by decide) (by decide) (by decide) ⟨Nat.le_of_ble_eq_true rfl, Nat.le_of_ble_eq_true rfl⟩ (congrArg (fun z => (z, u0)) hn8) ?_
  refine fr_aload_n (q := 61) F dX0_forgetOldest_60 rfl rfl ?_
  refine fr_bipush (q := 63) (v := 15) F dX0_forgetOldest_61 rfl (by decide) ?_
  obtain ⟨n9, hn10, h⟩ := fr_lt_some h
  refine fr_pfI (q := 66) (M' := (n9, u0)) F dX0_forgetOldest_63 rfl fpRX0_24 (by decide) rfl rfl (congrArg (fun z => (z, u0)) hn10) ?_
  obtain rfl := Option.some.inj h
  exact fr_vret F E rfl dX0_forgetOldest_66
/-! FeastRota$Acts.keep (43, None, None, None, None) -/
def fX0_keep_13 (x1 : Int32) (x2 : Int32) (x3 : Int32) (x4 : Int32) (n0 : fr_N) : Option fr_N := fr_ck (n0 43 4) 16 (fr_lt (fr_up n0 44 (Int32.toNatClampNeg (n0 43 4)) x1) fun n2 => (fr_ck (n2 43 4) 16 (fr_lt (fr_up n2 45 (Int32.toNatClampNeg (n2 43 4)) x2) fun n5 => (fr_ck (n5 43 4) 16 (fr_lt (fr_up n5 46 (Int32.toNatClampNeg (n5 43 4)) x3) fun n8 => (fr_ck (n8 43 4) 16 (fr_lt (fr_up n8 47 (Int32.toNatClampNeg (n8 43 4)) x4) fun n11 => (fr_lt (fr_up n11 43 4 ((n11 43 4) + (1 : Int32))) fun n13 => (some n13)))))))))
def fX0_keep (a1 : Int32) (a2 : Int32) (a3 : Int32) (a4 : Int32) (n0 : fr_N) : Option fr_N := if (n0 43 4) < (16 : Int32) then fX0_keep_13 a1 a2 a3 a4 n0 else fr_bd (fX0_forgetOldest n0) fun n18 => (fX0_keep_13 a1 a2 a3 a4 n18)
theorem tX0_keep_13 {K : fr_K} {u0 : fr_N} {nz : fr_N} (F : fr_F YX0_keep K) (E : fr_R YX0_keep K none (nz, u0)) {x1 : Int32} {x2 : Int32} {x3 : Int32} {x4 : Int32} {n0 : fr_N} (h : fX0_keep_13 x1 x2 x3 x4 n0 = some nz) : fr_V YX0_keep K 13 [some (.ref 43), some (.int x1), some (.int x2), some (.int x3), some (.int x4)] [] (n0, u0) := by
  rw [fX0_keep_13] at h
  refine fr_aload_n (q := 14) F dX0_keep_13 rfl rfl ?_
  refine fr_gfR (q := 17) (j := 44) F dX0_keep_14 rfl faRX0_11 (by decide) rfl rfl ?_
  refine fr_aload_n (q := 18) F dX0_keep_17 rfl rfl ?_
  refine fr_gfI (q := 21) (x := (n0 43 4)) F dX0_keep_18 rfl faRX0_24 (by decide) rfl rfl rfl ?_
  refine fr_iload_n (q := 22) F dX0_keep_21 rfl rfl ?_
  obtain ⟨hi1, h⟩ := fr_ck_some h
  obtain ⟨n2, hn3, h⟩ := fr_lt_some h
  refine fr_ias (q := 23) (M' := (n2, u0)) F dX0_keep_22 rfl hi1 (by decide) rfl (congrArg (fun z => (z, u0)) hn3) ?_
  refine fr_aload_n (q := 24) F dX0_keep_23 rfl rfl ?_
  refine fr_gfR (q := 27) (j := 45) F dX0_keep_24 rfl faRX0_15 (by decide) rfl rfl ?_
  refine fr_aload_n (q := 28) F dX0_keep_27 rfl rfl ?_
  refine fr_gfI (q := 31) (x := (n2 43 4)) F dX0_keep_28 rfl faRX0_24 (by decide) rfl rfl rfl ?_
  refine fr_iload_n (q := 32) F dX0_keep_31 rfl rfl ?_
  obtain ⟨hi4, h⟩ := fr_ck_some h
  obtain ⟨n5, hn6, h⟩ := fr_lt_some h
  refine fr_ias (q := 33) (M' := (n5, u0)) F dX0_keep_32 rfl hi4 (by decide) rfl (congrArg (fun z => (z, u0)) hn6) ?_
  refine fr_aload_n (q := 34) F dX0_keep_33 rfl rfl ?_
  refine fr_gfR (q := 37) (j := 46) F dX0_keep_34 rfl faRX0_18 (by decide) rfl rfl ?_
  refine fr_aload_n (q := 38) F dX0_keep_37 rfl rfl ?_
  refine fr_gfI (q := 41) (x := (n5 43 4)) F dX0_keep_38 rfl faRX0_24 (by decide) rfl rfl rfl ?_
  refine fr_iload_n (q := 42) F dX0_keep_41 rfl rfl ?_
  obtain ⟨hi7, h⟩ := fr_ck_some h
  obtain ⟨n8, hn9, h⟩ := fr_lt_some h
  refine fr_ias (q := 43) (M' := (n8, u0)) F dX0_keep_42 rfl hi7 (by decide) rfl (congrArg (fun z => (z, u0)) hn9) ?_
  refine fr_aload_n (q := 44) F dX0_keep_43 rfl rfl ?_
  refine fr_gfR (q := 47) (j := 47) F dX0_keep_44 rfl faRX0_21 (by decide) rfl rfl ?_
  refine fr_aload_n (q := 48) F dX0_keep_47 rfl rfl ?_
  refine fr_gfI (q := 51) (x := (n8 43 4)) F dX0_keep_48 rfl faRX0_24 (by decide) rfl rfl rfl ?_
  refine fr_iload (q := 53) F dX0_keep_51 rfl rfl ?_
  obtain ⟨hi10, h⟩ := fr_ck_some h
  obtain ⟨n11, hn12, h⟩ := fr_lt_some h
  refine fr_ias (q := 54) (M' := (n11, u0)) F dX0_keep_53 rfl hi10 (by decide) rfl (congrArg (fun z => (z, u0)) hn12) ?_
  refine fr_aload_n (q := 55) F dX0_keep_54 rfl rfl ?_
  refine fr_dup (q := 56) F dX0_keep_55 rfl rfl ?_
  refine fr_gfI (q := 59) (x := (n11 43 4)) F dX0_keep_56 rfl faRX0_24 (by decide) rfl rfl rfl ?_
  refine fr_iconst (q := 60) (v := 1) F dX0_keep_59 rfl (by decide) ?_
  refine fr_iadd (q := 61) F dX0_keep_60 rfl ?_
  obtain ⟨n13, hn14, h⟩ := fr_lt_some h
  refine fr_pfI (q := 64) (M' := (n13, u0)) F dX0_keep_61 rfl fpRX0_24 (by decide) rfl rfl (congrArg (fun z => (z, u0)) hn14) ?_
  obtain rfl := Option.some.inj h
  exact fr_vret F E rfl dX0_keep_64
theorem tX0_keep {l : Launch} {G : fr_G} {u0 : fr_N} {a1 : Int32} {a2 : Int32} {a3 : Int32} {a4 : Int32} {n0 : fr_N} {nz : fr_N} (h : fX0_keep a1 a2 a3 a4 n0 = some nz) : fr_Met l G YX0_keep [.ref 43, .int a1, .int a2, .int a3, .int a4] (n0, u0) none (nz, u0) := by
  refine fr_met (pad := List.replicate 0 none) (by decide) (Nat.le_of_ble_eq_true rfl) (fun _ h => List.eq_of_mem_replicate h) ⟨rfl, rfl⟩ (fun K F hG hL E => ?_)
  subst hG; subst hL
  rw [fX0_keep] at h
  show fr_V YX0_keep K 0 [some (.ref 43), some (.int a1), some (.int a2), some (.int a3), some (.int a4)] [] (n0, u0)
  refine fr_aload_n (q := 1) F dX0_keep_0 rfl rfl ?_
  refine fr_gfI (q := 4) (x := (n0 43 4)) F dX0_keep_1 rfl faRX0_24 (by decide) rfl rfl rfl ?_
  refine fr_bipush (q := 6) (v := 16) F dX0_keep_4 rfl (by decide) ?_
  refine fr_icmp_lt (q := 9) (tgt := 13) F dX0_keep_6 (by decide) rfl (fun hc15 => ?_) (fun hc15 => ?_)
  · rw [if_pos hc15] at h
    exact fr_wj (tX0_keep_13 F E h) ⟨rfl, ⟨rfl, ⟨rfl, ⟨rfl, ⟨rfl, trivial⟩⟩⟩⟩⟩
  · rw [if_neg hc15] at h
    refine fr_aload_n (q := 10) F dX0_keep_9 rfl rfl ?_
    obtain ⟨n18, hr17, h⟩ := fr_bd_some h
    refine fr_callV (q := 13) (M' := (n18, u0)) (rest := []) (st' := []) F dX0_keep_10 rfl (tX0_forgetOldest hr17) mlRX0_28 msX0_forgetOldest ⟨Nat.le_of_ble_eq_true rfl, Nat.le_of_ble_eq_true rfl⟩ (by decide) rfl rfl rfl (Nat.le_of_ble_eq_true rfl) rfl ?_
    exact fr_wj (tX0_keep_13 F E h) ⟨rfl, ⟨rfl, ⟨rfl, ⟨rfl, ⟨rfl, trivial⟩⟩⟩⟩⟩
/-! FeastRota.alter (0, None, None, None) -/
def fX7_alter_100 (x1 : Int32) (x2 : Int32) (x3 : Int32) (x4 : Int32) (x5 : Int32) (x6 : Int32) (s0 : Int32) (n0 : fr_N) : Option (Int32 × fr_N) := fr_bd (fX1_canBe x4 x5 x6 s0) fun r1 => (if r1 = true then fr_bd (fX1_mark_3 x1 x2 n0) fun r4 => (fr_bd (fX0_keep (0 : Int32) ((x1 * (4 : Int32)) + x2) r4 (0 : Int32) n0) fun n8 => (fr_ck ((x1 * (4 : Int32)) + x2) 48 (fr_lt (fr_up n8 5 (Int32.toNatClampNeg ((x1 * (4 : Int32)) + x2)) x3) fun n10 => (some (r4, n10))))) else some ((-1000001 : Int32), n0))
def fX7_alter_80 (x1 : Int32) (x2 : Int32) (x3 : Int32) (x4 : Int32) (x5 : Int32) (s0 : Int32) (n0 : fr_N) : Option (Int32 × fr_N) := if x2 = (3 : Int32) then fX7_alter_100 x1 x2 x3 x4 x5 s0 x3 n0 else fr_bd (fX1_mark_3 x1 (3 : Int32) n0) fun r13 => (fX7_alter_100 x1 x2 x3 x4 x5 s0 r13 n0)
def fX7_alter_60 (x1 : Int32) (x2 : Int32) (x3 : Int32) (x4 : Int32) (s0 : Int32) (n0 : fr_N) : Option (Int32 × fr_N) := if x2 = (2 : Int32) then fX7_alter_80 x1 x2 x3 x4 s0 x3 n0 else fr_bd (fX1_mark_3 x1 (2 : Int32) n0) fun r16 => (fX7_alter_80 x1 x2 x3 x4 s0 r16 n0)
def fX7_alter_40 (x1 : Int32) (x2 : Int32) (x3 : Int32) (s0 : Int32) (n0 : fr_N) : Option (Int32 × fr_N) := if x2 = (1 : Int32) then fX7_alter_60 x1 x2 x3 s0 x3 n0 else fr_bd (fX1_mark_3 x1 (1 : Int32) n0) fun r19 => (fX7_alter_60 x1 x2 x3 s0 r19 n0)
def fX7_alter (a1 : Int32) (a2 : Int32) (a3 : Int32) (n0 : fr_N) : Option (Int32 × fr_N) := fr_bd (fX1_hasFeast_3 a1 n0) fun r21 => (if r21 = true then fr_bd (fX7_within a2 (0 : Int32) (3 : Int32)) fun r24 => (if r24 = true then if a2 = 0 then fX7_alter_40 a1 a2 a3 a3 n0 else fr_bd (fX1_mark_3 a1 (0 : Int32) n0) fun r28 => (fX7_alter_40 a1 a2 a3 r28 n0) else some ((-1000001 : Int32), n0)) else some ((-1000001 : Int32), n0))
theorem tX7_alter_100 {K : fr_K} {u0 : fr_N} {rz : Int32} {nz : fr_N} (F : fr_F YX7_alter K) (E : fr_R YX7_alter K (some (.int rz)) (nz, u0)) {x1 : Int32} {x2 : Int32} {x3 : Int32} {x4 : Int32} {x5 : Int32} {x6 : Int32} {s0 : Int32} {n0 : fr_N} (h : fX7_alter_100 x1 x2 x3 x4 x5 x6 s0 n0 = some (rz, nz)) : fr_V YX7_alter K 100 [some (.ref 0), some (.int x1), some (.int x2), some (.int x3), some (.int x4), some (.int x5), some (.int x6), none, none] [.int s0] (n0, u0) := by
  rw [fX7_alter_100] at h
  refine fr_istore (q := 102) F dX7_alter_100 rfl (by decide) rfl ?_
  refine fr_iload (q := 104) F dX7_alter_102 rfl rfl ?_
  refine fr_iload (q := 106) F dX7_alter_104 rfl rfl ?_
  refine fr_iload (q := 108) F dX7_alter_106 rfl rfl ?_
  refine fr_iload (q := 110) F dX7_alter_108 rfl rfl ?_
  obtain ⟨r1, hr2, h⟩ := fr_bd_some h
  refine fr_callS (q := 113) (M' := (n0, u0)) (rest := []) (st' := [.int (fr_b r1)]) F dX7_alter_110 rfl (tX1_canBe hr2) mlRX7_116 msX1_canBe ⟨Nat.le_of_ble_eq_true rfl, Nat.le_of_ble_eq_true rfl⟩ rfl rfl (Nat.le_of_ble_eq_true rfl) rfl ?_
  refine fr_if_neb (q := 116) (tgt := 119) F dX7_alter_113 (by decide) rfl (fun hc3 => ?_) (fun hc3 => ?_)
  · rw [if_pos hc3] at h
    refine fr_aload_n (q := 120) F dX7_alter_119 rfl rfl ?_
    refine fr_gfR (q := 123) (j := 3) F dX7_alter_120 rfl faRX7_36 (by decide) rfl rfl ?_
    refine fr_iload_n (q := 124) F dX7_alter_123 rfl rfl ?_
    refine fr_iload_n (q := 125) F dX7_alter_124 rfl rfl ?_
    obtain ⟨r4, hr5, h⟩ := fr_bd_some h
    refine fr_callV (q := 128) (M' := (n0, u0)) (rest := []) (st' := [.int r4]) F dX7_alter_125 rfl (tX1_mark_3 hr5) mlRX7_112 msX1_mark ⟨Nat.le_of_ble_eq_true rfl, Nat.le_of_ble_eq_true rfl⟩ (by decide) rfl rfl rfl (Nat.le_of_ble_eq_true rfl) rfl ?_
    refine fr_istore (q := 130) F dX7_alter_128 rfl (by decide) rfl ?_
    refine fr_aload_n (q := 131) F dX7_alter_130 rfl rfl ?_
    refine fr_gfR (q := 134) (j := 43) F dX7_alter_131 rfl faRX7_47 (by decide) rfl rfl ?_
    refine fr_iconst (q := 135) (v := 0) F dX7_alter_134 rfl (by decide) ?_
    refine fr_iload_n (q := 136) F dX7_alter_135 rfl rfl ?_
    refine fr_iconst (q := 137) (v := 4) F dX7_alter_136 rfl (by decide) ?_
    refine fr_imul (q := 138) F dX7_alter_137 rfl ?_
    refine fr_iload_n (q := 139) F dX7_alter_138 rfl rfl ?_
    refine fr_iadd (q := 140) F dX7_alter_139 rfl ?_
    refine fr_iload (q := 142) F dX7_alter_140 rfl rfl ?_
    refine fr_iconst (q := 143) (v := 0) F dX7_alter_142 rfl (by decide) ?_
    obtain ⟨n8, hr7, h⟩ := fr_bd_some h
    refine fr_callV (q := 146) (M' := (n8, u0)) (rest := []) (st' := []) F dX7_alter_143 rfl (tX0_keep hr7) mlRX7_120 msX0_keep ⟨Nat.le_of_ble_eq_true rfl, Nat.le_of_ble_eq_true rfl⟩ (by decide) rfl rfl rfl (Nat.le_of_ble_eq_true rfl) rfl ?_
    refine fr_aload_n (q := 147) F dX7_alter_146 rfl rfl ?_
    refine fr_gfR (q := 150) (j := 3) F dX7_alter_147 rfl faRX7_36 (by decide) rfl rfl ?_
    refine fr_gfR (q := 153) (j := 5) F dX7_alter_150 rfl faRX7_124 (by decide) rfl rfl ?_
    refine fr_iload_n (q := 154) F dX7_alter_153 rfl rfl ?_
    refine fr_iconst (q := 155) (v := 4) F dX7_alter_154 rfl (by decide) ?_
    refine fr_imul (q := 156) F dX7_alter_155 rfl ?_
    refine fr_iload_n (q := 157) F dX7_alter_156 rfl rfl ?_
    refine fr_iadd (q := 158) F dX7_alter_157 rfl ?_
    refine fr_iload_n (q := 159) F dX7_alter_158 rfl rfl ?_
    obtain ⟨hi9, h⟩ := fr_ck_some h
    obtain ⟨n10, hn11, h⟩ := fr_lt_some h
    refine fr_ias (q := 160) (M' := (n10, u0)) F dX7_alter_159 rfl hi9 (by decide) rfl (congrArg (fun z => (z, u0)) hn11) ?_
    refine fr_iload (q := 162) F dX7_alter_160 rfl rfl ?_
    obtain ⟨rfl, rfl⟩ := Prod.mk.inj (Option.some.inj h)
    exact fr_iret F E rfl dX7_alter_162
  · rw [if_neg hc3] at h
    refine fr_ldc (q := 118) F dX7_alter_116 rfl kcRX7_72 ?_
    obtain ⟨rfl, rfl⟩ := Prod.mk.inj (Option.some.inj h)
    exact fr_iret F E rfl dX7_alter_118
theorem tX7_alter_80 {K : fr_K} {u0 : fr_N} {rz : Int32} {nz : fr_N} (F : fr_F YX7_alter K) (E : fr_R YX7_alter K (some (.int rz)) (nz, u0)) {x1 : Int32} {x2 : Int32} {x3 : Int32} {x4 : Int32} {x5 : Int32} {s0 : Int32} {n0 : fr_N} (h : fX7_alter_80 x1 x2 x3 x4 x5 s0 n0 = some (rz, nz)) : fr_V YX7_alter K 80 [some (.ref 0), some (.int x1), some (.int x2), some (.int x3), some (.int x4), some (.int x5), none, none, none] [.int s0] (n0, u0) := by
  rw [fX7_alter_80] at h
  refine fr_istore (q := 82) F dX7_alter_80 rfl (by decide) rfl ?_
  refine fr_iload_n (q := 83) F dX7_alter_82 rfl rfl ?_
  refine fr_iconst (q := 84) (v := 3) F dX7_alter_83 rfl (by decide) ?_
  refine fr_icmp_ne (q := 87) (tgt := 91) F dX7_alter_84 (by decide) rfl (fun hc12 => ?_) (fun hc12 => ?_)
  · rw [if_neg hc12] at h
    refine fr_aload_n (q := 92) F dX7_alter_91 rfl rfl ?_
    refine fr_gfR (q := 95) (j := 3) F dX7_alter_92 rfl faRX7_36 (by decide) rfl rfl ?_
    refine fr_iload_n (q := 96) F dX7_alter_95 rfl rfl ?_
    refine fr_iconst (q := 97) (v := 3) F dX7_alter_96 rfl (by decide) ?_
    obtain ⟨r13, hr14, h⟩ := fr_bd_some h
    refine fr_callV (q := 100) (M' := (n0, u0)) (rest := []) (st' := [.int r13]) F dX7_alter_97 rfl (tX1_mark_3 hr14) mlRX7_112 msX1_mark ⟨Nat.le_of_ble_eq_true rfl, Nat.le_of_ble_eq_true rfl⟩ (by decide) rfl rfl rfl (Nat.le_of_ble_eq_true rfl) rfl ?_
    exact fr_wj (tX7_alter_100 F E h) ⟨rfl, ⟨rfl, ⟨rfl, ⟨rfl, ⟨rfl, ⟨rfl, ⟨rfl, trivial⟩⟩⟩⟩⟩⟩⟩
  · rw [if_pos hc12] at h
    refine fr_iload_n (q := 88) F dX7_alter_87 rfl rfl ?_
    refine fr_goto (tgt := 100) F dX7_alter_88 (by decide) ?_
    exact fr_wj (tX7_alter_100 F E h) ⟨rfl, ⟨rfl, ⟨rfl, ⟨rfl, ⟨rfl, ⟨rfl, ⟨rfl, trivial⟩⟩⟩⟩⟩⟩⟩
theorem tX7_alter_60 {K : fr_K} {u0 : fr_N} {rz : Int32} {nz : fr_N} (F : fr_F YX7_alter K) (E : fr_R YX7_alter K (some (.int rz)) (nz, u0)) {x1 : Int32} {x2 : Int32} {x3 : Int32} {x4 : Int32} {s0 : Int32} {n0 : fr_N} (h : fX7_alter_60 x1 x2 x3 x4 s0 n0 = some (rz, nz)) : fr_V YX7_alter K 60 [some (.ref 0), some (.int x1), some (.int x2), some (.int x3), some (.int x4), none, none, none, none] [.int s0] (n0, u0) := by
  rw [fX7_alter_60] at h
  refine fr_istore (q := 62) F dX7_alter_60 rfl (by decide) rfl ?_
  refine fr_iload_n (q := 63) F dX7_alter_62 rfl rfl ?_
  refine fr_iconst (q := 64) (v := 2) F dX7_alter_63 rfl (by decide) ?_
  refine fr_icmp_ne (q := 67) (tgt := 71) F dX7_alter_64 (by decide) rfl (fun hc15 => ?_) (fun hc15 => ?_)
  · rw [if_neg hc15] at h
    refine fr_aload_n (q := 72) F dX7_alter_71 rfl rfl ?_
    refine fr_gfR (q := 75) (j := 3) F dX7_alter_72 rfl faRX7_36 (by decide) rfl rfl ?_
    refine fr_iload_n (q := 76) F dX7_alter_75 rfl rfl ?_
    refine fr_iconst (q := 77) (v := 2) F dX7_alter_76 rfl (by decide) ?_
    obtain ⟨r16, hr17, h⟩ := fr_bd_some h
    refine fr_callV (q := 80) (M' := (n0, u0)) (rest := []) (st' := [.int r16]) F dX7_alter_77 rfl (tX1_mark_3 hr17) mlRX7_112 msX1_mark ⟨Nat.le_of_ble_eq_true rfl, Nat.le_of_ble_eq_true rfl⟩ (by decide) rfl rfl rfl (Nat.le_of_ble_eq_true rfl) rfl ?_
    exact fr_wj (tX7_alter_80 F E h) ⟨rfl, ⟨rfl, ⟨rfl, ⟨rfl, ⟨rfl, ⟨rfl, trivial⟩⟩⟩⟩⟩⟩
  · rw [if_pos hc15] at h
    refine fr_iload_n (q := 68) F dX7_alter_67 rfl rfl ?_
    refine fr_goto (tgt := 80) F dX7_alter_68 (by decide) ?_
    exact fr_wj (tX7_alter_80 F E h) ⟨rfl, ⟨rfl, ⟨rfl, ⟨rfl, ⟨rfl, ⟨rfl, trivial⟩⟩⟩⟩⟩⟩
theorem tX7_alter_40 {K : fr_K} {u0 : fr_N} {rz : Int32} {nz : fr_N} (F : fr_F YX7_alter K) (E : fr_R YX7_alter K (some (.int rz)) (nz, u0)) {x1 : Int32} {x2 : Int32} {x3 : Int32} {s0 : Int32} {n0 : fr_N} (h : fX7_alter_40 x1 x2 x3 s0 n0 = some (rz, nz)) : fr_V YX7_alter K 40 [some (.ref 0), some (.int x1), some (.int x2), some (.int x3), none, none, none, none, none] [.int s0] (n0, u0) := by
  rw [fX7_alter_40] at h
  refine fr_istore (q := 42) F dX7_alter_40 rfl (by decide) rfl ?_
  refine fr_iload_n (q := 43) F dX7_alter_42 rfl rfl ?_
  refine fr_iconst (q := 44) (v := 1) F dX7_alter_43 rfl (by decide) ?_
  refine fr_icmp_ne (q := 47) (tgt := 51) F dX7_alter_44 (by decide) rfl (fun hc18 => ?_) (fun hc18 => ?_)
  · rw [if_neg hc18] at h
    refine fr_aload_n (q := 52) F dX7_alter_51 rfl rfl ?_
    refine fr_gfR (q := 55) (j := 3) F dX7_alter_52 rfl faRX7_36 (by decide) rfl rfl ?_
    refine fr_iload_n (q := 56) F dX7_alter_55 rfl rfl ?_
    refine fr_iconst (q := 57) (v := 1) F dX7_alter_56 rfl (by decide) ?_
    obtain ⟨r19, hr20, h⟩ := fr_bd_some h
    refine fr_callV (q := 60) (M' := (n0, u0)) (rest := []) (st' := [.int r19]) F dX7_alter_57 rfl (tX1_mark_3 hr20) mlRX7_112 msX1_mark ⟨Nat.le_of_ble_eq_true rfl, Nat.le_of_ble_eq_true rfl⟩ (by decide) rfl rfl rfl (Nat.le_of_ble_eq_true rfl) rfl ?_
    exact fr_wj (tX7_alter_60 F E h) ⟨rfl, ⟨rfl, ⟨rfl, ⟨rfl, ⟨rfl, trivial⟩⟩⟩⟩⟩
  · rw [if_pos hc18] at h
    refine fr_iload_n (q := 48) F dX7_alter_47 rfl rfl ?_
    refine fr_goto (tgt := 60) F dX7_alter_48 (by decide) ?_
    exact fr_wj (tX7_alter_60 F E h) ⟨rfl, ⟨rfl, ⟨rfl, ⟨rfl, ⟨rfl, trivial⟩⟩⟩⟩⟩
theorem tX7_alter {l : Launch} {G : fr_G} {u0 : fr_N} {a1 : Int32} {a2 : Int32} {a3 : Int32} {n0 : fr_N} {rz : Int32} {nz : fr_N} (h : fX7_alter a1 a2 a3 n0 = some (rz, nz)) : fr_Met l G YX7_alter [.ref 0, .int a1, .int a2, .int a3] (n0, u0) (some (.int rz)) (nz, u0) := by
  refine fr_met (pad := List.replicate 5 none) (by decide) (Nat.le_of_ble_eq_true rfl) (fun _ h => List.eq_of_mem_replicate h) ⟨rfl, rfl⟩ (fun K F hG hL E => ?_)
  subst hG; subst hL
  rw [fX7_alter] at h
  show fr_V YX7_alter K 0 [some (.ref 0), some (.int a1), some (.int a2), some (.int a3), none, none, none, none, none] [] (n0, u0)
  refine fr_aload_n (q := 1) F dX7_alter_0 rfl rfl ?_
  refine fr_gfR (q := 4) (j := 3) F dX7_alter_1 rfl faRX7_36 (by decide) rfl rfl ?_
  refine fr_iload_n (q := 5) F dX7_alter_4 rfl rfl ?_
  obtain ⟨r21, hr22, h⟩ := fr_bd_some h
  refine fr_callV (q := 8) (M' := (n0, u0)) (rest := []) (st' := [.int (fr_b r21)]) F dX7_alter_5 rfl (tX1_hasFeast_3 hr22) mlRX7_109 msX1_hasFeast ⟨Nat.le_of_ble_eq_true rfl, Nat.le_of_ble_eq_true rfl⟩ (by decide) rfl rfl rfl (Nat.le_of_ble_eq_true rfl) rfl ?_
  refine fr_if_eqb (q := 11) (tgt := 20) F dX7_alter_8 (by decide) rfl (fun hc23 => ?_) (fun hc23 => ?_)
  · rw [if_neg hc23] at h
    refine fr_ldc (q := 22) F dX7_alter_20 rfl kcRX7_72 ?_
    obtain ⟨rfl, rfl⟩ := Prod.mk.inj (Option.some.inj h)
    exact fr_iret F E rfl dX7_alter_22
  · rw [if_pos hc23] at h
    refine fr_iload_n (q := 12) F dX7_alter_11 rfl rfl ?_
    refine fr_iconst (q := 13) (v := 0) F dX7_alter_12 rfl (by decide) ?_
    refine fr_iconst (q := 14) (v := 3) F dX7_alter_13 rfl (by decide) ?_
    obtain ⟨r24, hr25, h⟩ := fr_bd_some h
    refine fr_callS (q := 17) (M' := (n0, u0)) (rest := []) (st' := [.int (fr_b r24)]) F dX7_alter_14 rfl (tX7_within hr25) mlRX7_68 msX7_within ⟨Nat.le_of_ble_eq_true rfl, Nat.le_of_ble_eq_true rfl⟩ rfl rfl (Nat.le_of_ble_eq_true rfl) rfl ?_
    refine fr_if_neb (q := 20) (tgt := 23) F dX7_alter_17 (by decide) rfl (fun hc26 => ?_) (fun hc26 => ?_)
    · rw [if_pos hc26] at h
      refine fr_iload_n (q := 24) F dX7_alter_23 rfl rfl ?_
      refine fr_if_ne (q := 27) (tgt := 31) F dX7_alter_24 (by decide) rfl (fun hc27 => ?_) (fun hc27 => ?_)
      · rw [if_neg hc27] at h
        refine fr_aload_n (q := 32) F dX7_alter_31 rfl rfl ?_
        refine fr_gfR (q := 35) (j := 3) F dX7_alter_32 rfl faRX7_36 (by decide) rfl rfl ?_
        refine fr_iload_n (q := 36) F dX7_alter_35 rfl rfl ?_
        refine fr_iconst (q := 37) (v := 0) F dX7_alter_36 rfl (by decide) ?_
        obtain ⟨r28, hr29, h⟩ := fr_bd_some h
        refine fr_callV (q := 40) (M' := (n0, u0)) (rest := []) (st' := [.int r28]) F dX7_alter_37 rfl (tX1_mark_3 hr29) mlRX7_112 msX1_mark ⟨Nat.le_of_ble_eq_true rfl, Nat.le_of_ble_eq_true rfl⟩ (by decide) rfl rfl rfl (Nat.le_of_ble_eq_true rfl) rfl ?_
        exact fr_wj (tX7_alter_40 F E h) ⟨rfl, ⟨rfl, ⟨rfl, ⟨rfl, trivial⟩⟩⟩⟩
      · rw [if_pos hc27] at h
        refine fr_iload_n (q := 28) F dX7_alter_27 rfl rfl ?_
        refine fr_goto (tgt := 40) F dX7_alter_28 (by decide) ?_
        exact fr_wj (tX7_alter_40 F E h) ⟨rfl, ⟨rfl, ⟨rfl, ⟨rfl, trivial⟩⟩⟩⟩
    · rw [if_neg hc26] at h
      refine fr_ldc (q := 22) F dX7_alter_20 rfl kcRX7_72 ?_
      obtain ⟨rfl, rfl⟩ := Prod.mk.inj (Option.some.inj h)
      exact fr_iret F E rfl dX7_alter_22
/-! FeastRotaModel.isFeast (52, None) -/
def fX8_isFeast (a1 : Int32) (n0 : fr_N) : Option Bool := fr_bd (fX8_in (Int32.toInt64 a1) (0 : Int64) (Int32.toInt64 ((n0 1 6) - (1 : Int32)))) fun r1 => (some r1)
theorem tX8_isFeast {l : Launch} {G : fr_G} {u0 : fr_N} {a1 : Int32} {n0 : fr_N} {rz : Bool} (h : fX8_isFeast a1 n0 = some rz) : fr_Met l G YX8_isFeast [.ref 52, .int a1] (u0, n0) (some (.int (fr_b rz))) (u0, n0) := by
  refine fr_met (pad := List.replicate 0 none) (by decide) (Nat.le_of_ble_eq_true rfl) (fun _ h => List.eq_of_mem_replicate h) ⟨rfl, rfl⟩ (fun K F hG hL E => ?_)
  subst hG; subst hL
  rw [fX8_isFeast] at h
  show fr_V YX8_isFeast K 0 [some (.ref 52), some (.int a1)] [] (u0, n0)
  refine fr_iload_n (q := 1) F dX8_isFeast_0 rfl rfl ?_
  refine fr_i2l (q := 2) F dX8_isFeast_1 rfl ?_
  refine fr_lconst (q := 3) (v := 0) F dX8_isFeast_2 rfl (by decide) ?_
  refine fr_aload_n (q := 4) F dX8_isFeast_3 rfl rfl ?_
  refine fr_gfR (q := 7) (j := 53) F dX8_isFeast_4 rfl faRX8_7 (by decide) rfl rfl ?_
  refine fr_bipush (q := 9) (v := 6) F dX8_isFeast_7 rfl (by decide) ?_
  refine fr_ial (q := 10) (x := (n0 1 6)) F dX8_isFeast_9 rfl (fr_vin rfl) (by decide) rfl rfl ?_
  refine fr_iconst (q := 11) (v := 1) F dX8_isFeast_10 rfl (by decide) ?_
  refine fr_isub (q := 12) F dX8_isFeast_11 rfl ?_
  refine fr_i2l (q := 13) F dX8_isFeast_12 rfl ?_
  obtain ⟨r1, hr2, h⟩ := fr_bd_some h
  refine fr_callS (q := 16) (M' := (u0, n0)) (rest := []) (st' := [.int (fr_b r1)]) F dX8_isFeast_13 rfl (tX8_in hr2) mlRX8_55 msX8_in ⟨Nat.le_of_ble_eq_true rfl, Nat.le_of_ble_eq_true rfl⟩ rfl rfl (Nat.le_of_ble_eq_true rfl) rfl ?_
  obtain rfl := Option.some.inj h
  exact fr_zret F E rfl dX8_isFeast_16
/-! FeastRotaModel.of (52, None, None) -/
def fX8_of (a1 : Int32) (a2 : Int32) (n0 : fr_N) : Option Int32 := fr_ck (((9 : Int32) + ((4 : Int32) * a1)) + a2) 79 (some (n0 1 (Int32.toNatClampNeg (((9 : Int32) + ((4 : Int32) * a1)) + a2))))
theorem tX8_of {l : Launch} {G : fr_G} {u0 : fr_N} {a1 : Int32} {a2 : Int32} {n0 : fr_N} {rz : Int32} (h : fX8_of a1 a2 n0 = some rz) : fr_Met l G YX8_of [.ref 52, .int a1, .int a2] (u0, n0) (some (.int rz)) (u0, n0) := by
  refine fr_met (pad := List.replicate 0 none) (by decide) (Nat.le_of_ble_eq_true rfl) (fun _ h => List.eq_of_mem_replicate h) ⟨rfl, rfl⟩ (fun K F hG hL E => ?_)
  subst hG; subst hL
  rw [fX8_of] at h
  show fr_V YX8_of K 0 [some (.ref 52), some (.int a1), some (.int a2)] [] (u0, n0)
  refine fr_aload_n (q := 1) F dX8_of_0 rfl rfl ?_
  refine fr_gfR (q := 4) (j := 53) F dX8_of_1 rfl faRX8_7 (by decide) rfl rfl ?_
  refine fr_bipush (q := 6) (v := 9) F dX8_of_4 rfl (by decide) ?_
  refine fr_iconst (q := 7) (v := 4) F dX8_of_6 rfl (by decide) ?_
  refine fr_iload_n (q := 8) F dX8_of_7 rfl rfl ?_
  refine fr_imul (q := 9) F dX8_of_8 rfl ?_
  refine fr_iadd (q := 10) F dX8_of_9 rfl ?_
  refine fr_iload_n (q := 11) F dX8_of_10 rfl rfl ?_
  refine fr_iadd (q := 12) F dX8_of_11 rfl ?_
  obtain ⟨hi1, h⟩ := fr_ck_some h
  refine fr_ial (q := 13) (x := (n0 1 (Int32.toNatClampNeg (((9 : Int32) + ((4 : Int32) * a1)) + a2)))) F dX8_of_12 rfl hi1 (by decide) rfl rfl ?_
  obtain rfl := Option.some.inj h
  exact fr_iret F E rfl dX8_of_13
