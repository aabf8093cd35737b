/-! FeastRotaModel.moon (52, None) -/
def fX8_moon (a1 : Int32) (n0 : fr_N) : Option Int32 := fr_bd (fX8_dayOfDate a1 ((80 : Int32) + (fr_rem (((19 : Int32) * (fr_rem a1 (19 : Int32))) + (n0 1 1)) (30 : Int32))) n0) fun r1 => (some r1)
theorem tX8_moon {l : Launch} {G : fr_G} {u0 : fr_N} {a1 : Int32} {n0 : fr_N} {rz : Int32} (h : fX8_moon a1 n0 = some rz) : fr_Met l G YX8_moon [.ref 52, .int a1] (u0, n0) (some (.int rz)) (u0, n0) := by
  refine fr_met (pad := List.replicate 0 none) (by decide) (Nat.le_of_ble_eq_true rfl) (fun _ h => List.eq_of_mem_replicate h) ⟨rfl, rfl⟩ (fun K F hG hL E => ?_)
  subst hG; subst hL
  rw [fX8_moon] at h
  show fr_V YX8_moon K 0 [some (.ref 52), some (.int a1)] [] (u0, n0)
  refine fr_aload_n (q := 1) F dX8_moon_0 rfl rfl ?_
  refine fr_iload_n (q := 2) F dX8_moon_1 rfl rfl ?_
  refine fr_bipush (q := 4) (v := 80) F dX8_moon_2 rfl (by decide) ?_
  refine fr_bipush (q := 6) (v := 19) F dX8_moon_4 rfl (by decide) ?_
  refine fr_iload_n (q := 7) F dX8_moon_6 rfl rfl ?_
  refine fr_bipush (q := 9) (v := 19) F dX8_moon_7 rfl (by decide) ?_
  refine fr_irem (q := 10) F dX8_moon_9 rfl (by decide) ?_
  refine fr_imul (q := 11) F dX8_moon_10 rfl ?_
  refine fr_aload_n (q := 12) F dX8_moon_11 rfl rfl ?_
  refine fr_gfR (q := 15) (j := 53) F dX8_moon_12 rfl faRX8_7 (by decide) rfl rfl ?_
  refine fr_iconst (q := 16) (v := 1) F dX8_moon_15 rfl (by decide) ?_
  refine fr_ial (q := 17) (x := (n0 1 1)) F dX8_moon_16 rfl (fr_vin rfl) (by decide) rfl rfl ?_
  refine fr_iadd (q := 18) F dX8_moon_17 rfl ?_
  refine fr_bipush (q := 20) (v := 30) F dX8_moon_18 rfl (by decide) ?_
  refine fr_irem (q := 21) F dX8_moon_20 rfl (by decide) ?_
  refine fr_iadd (q := 22) F dX8_moon_21 rfl ?_
  obtain ⟨r1, hr2, h⟩ := fr_bd_some h
  refine fr_callV (q := 25) (M' := (u0, n0)) (rest := []) (st' := [.int r1]) F dX8_moon_22 rfl (tX8_dayOfDate hr2) mlRX8_74 msX8_dayOfDate ⟨Nat.le_of_ble_eq_true rfl, Nat.le_of_ble_eq_true rfl⟩ (by decide) rfl rfl rfl (Nat.le_of_ble_eq_true rfl) rfl ?_
  obtain rfl := Option.some.inj h
  exact fr_iret F E rfl dX8_moon_25
/-! FeastRotaModel.sunday (52, None) -/
def fX8_sunday (a1 : Int32) (n0 : fr_N) : Option Int32 := fr_bd (fX8_weekdayOf a1 n0) fun r1 => (some (a1 + (fr_rem ((7 : Int32) - r1) (7 : Int32))))
theorem tX8_sunday {l : Launch} {G : fr_G} {u0 : fr_N} {a1 : Int32} {n0 : fr_N} {rz : Int32} (h : fX8_sunday a1 n0 = some rz) : fr_Met l G YX8_sunday [.ref 52, .int a1] (u0, n0) (some (.int rz)) (u0, n0) := by
  refine fr_met (pad := List.replicate 0 none) (by decide) (Nat.le_of_ble_eq_true rfl) (fun _ h => List.eq_of_mem_replicate h) ⟨rfl, rfl⟩ (fun K F hG hL E => ?_)
  subst hG; subst hL
  rw [fX8_sunday] at h
  show fr_V YX8_sunday K 0 [some (.ref 52), some (.int a1)] [] (u0, n0)
  refine fr_iload_n (q := 1) F dX8_sunday_0 rfl rfl ?_
  refine fr_bipush (q := 3) (v := 7) F dX8_sunday_1 rfl (by decide) ?_
  refine fr_aload_n (q := 4) F dX8_sunday_3 rfl rfl ?_
  refine fr_iload_n (q := 5) F dX8_sunday_4 rfl rfl ?_
  obtain ⟨r1, hr2, h⟩ := fr_bd_some h
  refine fr_callV (q := 8) (M' := (u0, n0)) (rest := [.int (7 : Int32), .int a1]) (st' := [.int r1, .int (7 : Int32), .int a1]) F dX8_sunday_5 rfl (tX8_weekdayOf hr2) mlRX8_67 msX8_weekdayOf ⟨Nat.le_of_ble_eq_true rfl, Nat.le_of_ble_eq_true rfl⟩ (by decide) rfl rfl rfl (Nat.le_of_ble_eq_true rfl) rfl ?_
  refine fr_isub (q := 9) F dX8_sunday_8 rfl ?_
  refine fr_bipush (q := 11) (v := 7) F dX8_sunday_9 rfl (by decide) ?_
  refine fr_irem (q := 12) F dX8_sunday_11 rfl (by decide) ?_
  refine fr_iadd (q := 13) F dX8_sunday_12 rfl ?_
  obtain rfl := Option.some.inj h
  exact fr_iret F E rfl dX8_sunday_13
/-! FeastRotaModel.spring (52, None) -/
def fX8_spring (a1 : Int32) (n0 : fr_N) : Option Int32 := fr_bd (fX8_moon a1 n0) fun r1 => (fr_bd (fX8_sunday (r1 + (1 : Int32)) n0) fun r3 => (some r3))
theorem tX8_spring {l : Launch} {G : fr_G} {u0 : fr_N} {a1 : Int32} {n0 : fr_N} {rz : Int32} (h : fX8_spring a1 n0 = some rz) : fr_Met l G YX8_spring [.ref 52, .int a1] (u0, n0) (some (.int rz)) (u0, n0) := by
  refine fr_met (pad := List.replicate 0 none) (by decide) (Nat.le_of_ble_eq_true rfl) (fun _ h => List.eq_of_mem_replicate h) ⟨rfl, rfl⟩ (fun K F hG hL E => ?_)
  subst hG; subst hL
  rw [fX8_spring] at h
  show fr_V YX8_spring K 0 [some (.ref 52), some (.int a1)] [] (u0, n0)
  refine fr_aload_n (q := 1) F dX8_spring_0 rfl rfl ?_
  refine fr_aload_n (q := 2) F dX8_spring_1 rfl rfl ?_
  refine fr_iload_n (q := 3) F dX8_spring_2 rfl rfl ?_
  obtain ⟨r1, hr2, h⟩ := fr_bd_some h
  refine fr_callV (q := 6) (M' := (u0, n0)) (rest := [.ref 52]) (st' := [.int r1, .ref 52]) F dX8_spring_3 rfl (tX8_moon hr2) mlRX8_78 msX8_moon ⟨Nat.le_of_ble_eq_true rfl, Nat.le_of_ble_eq_true rfl⟩ (by decide) rfl rfl rfl (Nat.le_of_ble_eq_true rfl) rfl ?_
  refine fr_iconst (q := 7) (v := 1) F dX8_spring_6 rfl (by decide) ?_
  refine fr_iadd (q := 8) F dX8_spring_7 rfl ?_
  obtain ⟨r3, hr4, h⟩ := fr_bd_some h
  refine fr_callV (q := 11) (M' := (u0, n0)) (rest := []) (st' := [.int r3]) F dX8_spring_8 rfl (tX8_sunday hr4) mlRX8_81 msX8_sunday ⟨Nat.le_of_ble_eq_true rfl, Nat.le_of_ble_eq_true rfl⟩ (by decide) rfl rfl rfl (Nat.le_of_ble_eq_true rfl) rfl ?_
  obtain rfl := Option.some.inj h
  exact fr_iret F E rfl dX8_spring_11
/-! FeastRotaModel.ownDay (52, None, None) -/
def fX8_ownDay_72 (n0 : fr_N) (s0 : Int32) : Option Int32 := fr_bd (fX8_in (Int32.toInt64 s0) (1 : Int64) (Int32.toInt64 (n0 0 20))) fun r1 => (if r1 = true then some s0 else some (-1000000 : Int32))
def fX8_ownDay (a1 : Int32) (a2 : Int32) (n0 : fr_N) : Option Int32 := fr_bd (fX8_of a2 (1 : Int32) n0) fun r4 => (fr_bd (fX8_of a2 (0 : Int32) n0) fun r6 => (if r6 = (3 : Int32) then fr_bd (fX8_dayOfDate a1 r4 n0) fun r19 => (fX8_ownDay_72 n0 r19) else if r6 = (2 : Int32) then fr_bd (fX8_dayOfDate a1 r4 n0) fun r15 => (fr_bd (fX8_sunday r15 n0) fun r17 => (fX8_ownDay_72 n0 r17)) else if r6 = (1 : Int32) then fr_bd (fX8_spring a1 n0) fun r13 => (fX8_ownDay_72 n0 (r13 + r4)) else fr_bd (fX8_spring a1 n0) fun r11 => (fX8_ownDay_72 n0 (r11 - r4))))
theorem tX8_ownDay_72 {K : fr_K} {u0 : fr_N} {n0 : fr_N} {rz : Int32} (F : fr_F YX8_ownDay K) (E : fr_R YX8_ownDay K (some (.int rz)) (u0, n0)) {s0 : Int32} (h : fX8_ownDay_72 n0 s0 = some rz) : fr_V YX8_ownDay K 72 [some (.ref 52), none, none, none, none, none] [.int s0] (u0, n0) := by
  rw [fX8_ownDay_72] at h
  refine fr_istore (q := 74) F dX8_ownDay_72 rfl (by decide) rfl ?_
  refine fr_iload (q := 76) F dX8_ownDay_74 rfl rfl ?_
  refine fr_i2l (q := 77) F dX8_ownDay_76 rfl ?_
  refine fr_lconst (q := 78) (v := 1) F dX8_ownDay_77 rfl (by decide) ?_
  refine fr_aload_n (q := 79) F dX8_ownDay_78 rfl rfl ?_
  refine fr_gfI (q := 82) (x := (n0 0 20)) F dX8_ownDay_79 rfl faRX8_71 (by decide) rfl rfl rfl ?_
  refine fr_i2l (q := 83) F dX8_ownDay_82 rfl ?_
  obtain ⟨r1, hr2, h⟩ := fr_bd_some h
  refine fr_callS (q := 86) (M' := (u0, n0)) (rest := []) (st' := [.int (fr_b r1)]) F dX8_ownDay_83 rfl (tX8_in hr2) mlRX8_55 msX8_in ⟨Nat.le_of_ble_eq_true rfl, Nat.le_of_ble_eq_true rfl⟩ rfl rfl (Nat.le_of_ble_eq_true rfl) rfl ?_
  refine fr_if_eqb (q := 89) (tgt := 94) F dX8_ownDay_86 (by decide) rfl (fun hc3 => ?_) (fun hc3 => ?_)
  · rw [if_neg hc3] at h
    refine fr_ldc (q := 96) F dX8_ownDay_94 rfl kcRX8_90 ?_
    obtain rfl := Option.some.inj h
    exact fr_iret F E rfl dX8_ownDay_96
  · rw [if_pos hc3] at h
    refine fr_iload (q := 91) F dX8_ownDay_89 rfl rfl ?_
    refine fr_goto (tgt := 96) F dX8_ownDay_91 (by decide) ?_
    obtain rfl := Option.some.inj h
    exact fr_iret F E rfl dX8_ownDay_96
theorem tX8_ownDay {l : Launch} {G : fr_G} {u0 : fr_N} {a1 : Int32} {a2 : Int32} {n0 : fr_N} {rz : Int32} (h : fX8_ownDay a1 a2 n0 = some rz) : fr_Met l G YX8_ownDay [.ref 52, .int a1, .int a2] (u0, n0) (some (.int rz)) (u0, n0) := by
  refine fr_met (pad := List.replicate 3 none) (by decide) (Nat.le_of_ble_eq_true rfl) (fun _ h => List.eq_of_mem_replicate h) ⟨rfl, rfl⟩ (fun K F hG hL E => ?_)
  subst hG; subst hL
  rw [fX8_ownDay] at h
  show fr_V YX8_ownDay K 0 [some (.ref 52), some (.int a1), some (.int a2), none, none, none] [] (u0, n0)
  refine fr_aload_n (q := 1) F dX8_ownDay_0 rfl rfl ?_
  refine fr_iload_n (q := 2) F dX8_ownDay_1 rfl rfl ?_
  refine fr_iconst (q := 3) (v := 1) F dX8_ownDay_2 rfl (by decide) ?_
  obtain ⟨r4, hr5, h⟩ := fr_bd_some h
  refine fr_callV (q := 6) (M' := (u0, n0)) (rest := []) (st' := [.int r4]) F dX8_ownDay_3 rfl (tX8_of hr5) mlRX8_84 msX8_of ⟨Nat.le_of_ble_eq_true rfl, Nat.le_of_ble_eq_true rfl⟩ (by decide) rfl rfl rfl (Nat.le_of_ble_eq_true rfl) rfl ?_
  refine fr_istore_n (q := 7) F dX8_ownDay_6 rfl (by decide) rfl ?_
  refine fr_aload_n (q := 8) F dX8_ownDay_7 rfl rfl ?_
  refine fr_iload_n (q := 9) F dX8_ownDay_8 rfl rfl ?_
  refine fr_iconst (q := 10) (v := 0) F dX8_ownDay_9 rfl (by decide) ?_
  obtain ⟨r6, hr7, h⟩ := fr_bd_some h
  refine fr_callV (q := 13) (M' := (u0, n0)) (rest := []) (st' := [.int r6]) F dX8_ownDay_10 rfl (tX8_of hr7) mlRX8_84 msX8_of ⟨Nat.le_of_ble_eq_true rfl, Nat.le_of_ble_eq_true rfl⟩ (by decide) rfl rfl rfl (Nat.le_of_ble_eq_true rfl) rfl ?_
  refine fr_istore (q := 15) F dX8_ownDay_13 rfl (by decide) rfl ?_
  refine fr_iload (q := 17) F dX8_ownDay_15 rfl rfl ?_
  refine fr_iconst (q := 18) (v := 3) F dX8_ownDay_17 rfl (by decide) ?_
  refine fr_icmp_ne (q := 21) (tgt := 30) F dX8_ownDay_18 (by decide) rfl (fun hc8 => ?_) (fun hc8 => ?_)
  · rw [if_neg hc8] at h
    refine fr_iload (q := 32) F dX8_ownDay_30 rfl rfl ?_
    refine fr_iconst (q := 33) (v := 2) F dX8_ownDay_32 rfl (by decide) ?_
    refine fr_icmp_ne (q := 36) (tgt := 49) F dX8_ownDay_33 (by decide) rfl (fun hc9 => ?_) (fun hc9 => ?_)
    · rw [if_neg hc9] at h
      refine fr_iload (q := 51) F dX8_ownDay_49 rfl rfl ?_
      refine fr_iconst (q := 52) (v := 1) F dX8_ownDay_51 rfl (by decide) ?_
      refine fr_icmp_ne (q := 55) (tgt := 65) F dX8_ownDay_52 (by decide) rfl (fun hc10 => ?_) (fun hc10 => ?_)
      · rw [if_neg hc10] at h
        refine fr_aload_n (q := 66) F dX8_ownDay_65 rfl rfl ?_
        refine fr_iload_n (q := 67) F dX8_ownDay_66 rfl rfl ?_
        obtain ⟨r11, hr12, h⟩ := fr_bd_some h
        refine fr_callV (q := 70) (M' := (u0, n0)) (rest := []) (st' := [.int r11]) F dX8_ownDay_67 rfl (tX8_spring hr12) mlRX8_87 msX8_spring ⟨Nat.le_of_ble_eq_true rfl, Nat.le_of_ble_eq_true rfl⟩ (by decide) rfl rfl rfl (Nat.le_of_ble_eq_true rfl) rfl ?_
        refine fr_iload_n (q := 71) F dX8_ownDay_70 rfl rfl ?_
        refine fr_isub (q := 72) F dX8_ownDay_71 rfl ?_
        exact fr_wj (tX8_ownDay_72 F E h) ⟨rfl, trivial⟩
      · rw [if_pos hc10] at h
        refine fr_aload_n (q := 56) F dX8_ownDay_55 rfl rfl ?_
        refine fr_iload_n (q := 57) F dX8_ownDay_56 rfl rfl ?_
        obtain ⟨r13, hr14, h⟩ := fr_bd_some h
        refine fr_callV (q := 60) (M' := (u0, n0)) (rest := []) (st' := [.int r13]) F dX8_ownDay_57 rfl (tX8_spring hr14) mlRX8_87 msX8_spring ⟨Nat.le_of_ble_eq_true rfl, Nat.le_of_ble_eq_true rfl⟩ (by decide) rfl rfl rfl (Nat.le_of_ble_eq_true rfl) rfl ?_
        refine fr_iload_n (q := 61) F dX8_ownDay_60 rfl rfl ?_
        refine fr_iadd (q := 62) F dX8_ownDay_61 rfl ?_
        refine fr_goto (tgt := 72) F dX8_ownDay_62 (by decide) ?_
        exact fr_wj (tX8_ownDay_72 F E h) ⟨rfl, trivial⟩
    · rw [if_pos hc9] at h
      refine fr_aload_n (q := 37) F dX8_ownDay_36 rfl rfl ?_
      refine fr_aload_n (q := 38) F dX8_ownDay_37 rfl rfl ?_
      refine fr_iload_n (q := 39) F dX8_ownDay_38 rfl rfl ?_
      refine fr_iload_n (q := 40) F dX8_ownDay_39 rfl rfl ?_
      obtain ⟨r15, hr16, h⟩ := fr_bd_some h
      refine fr_callV (q := 43) (M' := (u0, n0)) (rest := [.ref 52]) (st' := [.int r15, .ref 52]) F dX8_ownDay_40 rfl (tX8_dayOfDate hr16) mlRX8_74 msX8_dayOfDate ⟨Nat.le_of_ble_eq_true rfl, Nat.le_of_ble_eq_true rfl⟩ (by decide) rfl rfl rfl (Nat.le_of_ble_eq_true rfl) rfl ?_
      obtain ⟨r17, hr18, h⟩ := fr_bd_some h
      refine fr_callV (q := 46) (M' := (u0, n0)) (rest := []) (st' := [.int r17]) F dX8_ownDay_43 rfl (tX8_sunday hr18) mlRX8_81 msX8_sunday ⟨Nat.le_of_ble_eq_true rfl, Nat.le_of_ble_eq_true rfl⟩ (by decide) rfl rfl rfl (Nat.le_of_ble_eq_true rfl) rfl ?_
      refine fr_goto (tgt := 72) F dX8_ownDay_46 (by decide) ?_
      exact fr_wj (tX8_ownDay_72 F E h) ⟨rfl, trivial⟩
  · rw [if_pos hc8] at h
    refine fr_aload_n (q := 22) F dX8_ownDay_21 rfl rfl ?_
    refine fr_iload_n (q := 23) F dX8_ownDay_22 rfl rfl ?_
    refine fr_iload_n (q := 24) F dX8_ownDay_23 rfl rfl ?_
    obtain ⟨r19, hr20, h⟩ := fr_bd_some h
    refine fr_callV (q := 27) (M' := (u0, n0)) (rest := []) (st' := [.int r19]) F dX8_ownDay_24 rfl (tX8_dayOfDate hr20) mlRX8_74 msX8_dayOfDate ⟨Nat.le_of_ble_eq_true rfl, Nat.le_of_ble_eq_true rfl⟩ (by decide) rfl rfl rfl (Nat.le_of_ble_eq_true rfl) rfl ?_
    refine fr_goto (tgt := 72) F dX8_ownDay_27 (by decide) ?_
    exact fr_wj (tX8_ownDay_72 F E h) ⟨rfl, trivial⟩
/-! FeastRotaModel.lays (52, None, None) -/
def fX8_lays_93 (k29 : Int32 → Int32 → Int32 → fr_N → Option fr_N) (x1 : Int32) (x2 : Int32) (x3 : Int32) (s0 : Bool) (s1 : Int32) (n0 : fr_N) : Option fr_N := fr_ck s1 12 (fr_lt (fr_up n0 11 (Int32.toNatClampNeg s1) (fr_b s0)) fun n2 => (k29 x1 x2 (x3 + (1 : Int32)) n2))
def fX8_lays_105 : Nat → Int32 → fr_N → Option fr_N
  | 0, _, _ => none
  | k + 1, x3, n0 => if x3 = (-1000000 : Int32) then some n0 else fr_bd (fX8_comes x3 n0) fun n7 => (fr_ck x3 12 (fr_lt (fr_up n7 11 (Int32.toNatClampNeg x3) (fr_b true)) fun n9 => (fr_bd (fX8_nextFeast n9) fun r11 => ((fX8_lays_105 k) r11 n9))))
def fX8_lays_29 : Nat → Int32 → Int32 → Int32 → fr_N → Option fr_N
  | 0, _, _, _, _ => none
  | k + 1, x1, x2, x3, n0 => if (n0 1 6) ≤ x3 then fr_bd (fX8_nextFeast n0) fun r14 => (fX8_lays_105 2000 r14 n0) else fr_bd (fX8_ownDay x1 x3 n0) fun r16 => (fr_ck x3 12 (fr_lt (fr_up n0 8 (Int32.toNatClampNeg x3) r16) fun n19 => (fr_ck x3 12 (fr_lt (fr_up n19 9 (Int32.toNatClampNeg x3) (0 : Int32)) fun n22 => (fr_ck x3 12 (fr_lt (fr_up n22 10 (Int32.toNatClampNeg x3) (-1000000 : Int32)) fun n25 => (fr_ck x3 12 (if (n25 8 (Int32.toNatClampNeg x3)) = (-1000000 : Int32) then fX8_lays_93 (fX8_lays_29 k) x1 x2 x3 true x3 n25 else if x3 = x2 then fX8_lays_93 (fX8_lays_29 k) x1 x2 x3 true x3 n25 else fX8_lays_93 (fX8_lays_29 k) x1 x2 x3 false x3 n25))))))))
def fX8_lays_7 : Nat → Int32 → Int32 → Int32 → fr_N → Option fr_N
  | 0, _, _, _, _ => none
  | k + 1, x1, x2, x3, n0 => if (367 : Int32) ≤ x3 then fX8_lays_29 2000 x1 x2 (0 : Int32) n0 else fr_ck x3 367 (fr_lt (fr_up n0 7 (Int32.toNatClampNeg x3) (0 : Int32)) fun n32 => ((fX8_lays_7 k) x1 x2 (x3 + (1 : Int32)) n32))
def fX8_lays (a1 : Int32) (a2 : Int32) (n0 : fr_N) : Option fr_N := fr_bd (fX8_opens a1 n0) fun n36 => (fX8_lays_7 2000 a1 a2 (0 : Int32) n36)
theorem tX8_lays_93 {K : fr_K} {k29 : Int32 → Int32 → Int32 → fr_N → Option fr_N} {u0 : fr_N} {nz : fr_N} (F : fr_F YX8_lays K) (E : fr_R YX8_lays K none (u0, nz)) (H29 : ∀ (y1 : Int32) (y2 : Int32) (y3 : Int32) (n : fr_N), k29 y1 y2 y3 n = some nz → fr_V YX8_lays K 29 [some (.ref 52), some (.int y1), some (.int y2), some (.int y3)] [] (u0, n)) {x1 : Int32} {x2 : Int32} {x3 : Int32} {s0 : Bool} {s1 : Int32} {n0 : fr_N} (h : fX8_lays_93 k29 x1 x2 x3 s0 s1 n0 = some nz) : fr_V YX8_lays K 93 [some (.ref 52), some (.int x1), some (.int x2), some (.int x3)] [.int (fr_b s0), .int s1, .ref 63] (u0, n0) := by
  rw [fX8_lays_93] at h
  obtain ⟨hi1, h⟩ := fr_ck_some h
  obtain ⟨n2, hn3, h⟩ := fr_lt_some h
  refine fr_zas (q := 94) (M' := (u0, n2)) (x := s0) F dX8_lays_93 rfl hi1 (by decide) rfl (congrArg (fun z => (u0, z)) hn3) ?_
  refine fr_iinc (q := 97) (v := (x3 + (1 : Int32))) F dX8_lays_94 rfl rfl rfl (by decide) rfl ?_
  refine fr_goto (tgt := 29) F dX8_lays_97 (by decide) ?_
  exact fr_wj (H29 _ _ _ _ h) ⟨rfl, ⟨rfl, ⟨rfl, ⟨rfl, trivial⟩⟩⟩⟩
theorem tX8_lays_105 {K : fr_K} {u0 : fr_N} {nz : fr_N} (F : fr_F YX8_lays K) (E : fr_R YX8_lays K none (u0, nz)) : ∀ (k : Nat) (x3 : Int32) (n0 : fr_N), fX8_lays_105 k x3 n0 = some nz → fr_V YX8_lays K 105 [some (.ref 52), none, none, some (.int x3)] [] (u0, n0) := by
  intro k
  induction k with
  | zero =>
    intro x3 n0 h
    rw [fX8_lays_105] at h
    cases h
  | succ k ih =>
    intro x3 n0 h
    rw [fX8_lays_105] at h
    refine fr_iload_n (q := 106) F dX8_lays_105 rfl rfl ?_
    refine fr_ldc (q := 108) F dX8_lays_106 rfl kcRX8_90 ?_
    refine fr_icmp_eq (q := 111) (tgt := 131) F dX8_lays_108 (by decide) rfl (fun hc4 => ?_) (fun hc4 => ?_)
    · rw [if_pos hc4] at h
      obtain rfl := Option.some.inj h
      exact fr_vret F E rfl dX8_lays_131
    · rw [if_neg hc4] at h
      refine fr_aload_n (q := 112) F dX8_lays_111 rfl rfl ?_
      refine fr_iload_n (q := 113) F dX8_lays_112 rfl rfl ?_
      obtain ⟨n7, hr6, h⟩ := fr_bd_some h
      refine fr_callV (q := 116) (M' := (u0, n7)) (rest := []) (st' := []) F dX8_lays_113 rfl (tX8_comes hr6) mlRX8_112 msX8_comes ⟨Nat.le_of_ble_eq_true rfl, Nat.le_of_ble_eq_true rfl⟩ (by decide) rfl rfl rfl (Nat.le_of_ble_eq_true rfl) rfl ?_
      refine fr_aload_n (q := 117) F dX8_lays_116 rfl rfl ?_
      refine fr_gfR (q := 120) (j := 63) F dX8_lays_117 rfl faRX8_41 (by decide) rfl rfl ?_
      refine fr_iload_n (q := 121) F dX8_lays_120 rfl rfl ?_
      refine fr_iconst (q := 122) (v := 1) F dX8_lays_121 rfl (by decide) ?_
      obtain ⟨hi8, h⟩ := fr_ck_some h
      obtain ⟨n9, hn10, h⟩ := fr_lt_some h
      refine fr_zas (q := 123) (M' := (u0, n9)) (x := true) F dX8_lays_122 rfl hi8 (by decide) rfl (congrArg (fun z => (u0, z)) hn10) ?_
      refine fr_aload_n (q := 124) F dX8_lays_123 rfl rfl ?_
      obtain ⟨r11, hr12, h⟩ := fr_bd_some h
      refine fr_callV (q := 127) (M' := (u0, n9)) (rest := []) (st' := [.int r11]) F dX8_lays_124 rfl (tX8_nextFeast hr12) mlRX8_108 msX8_nextFeast ⟨Nat.le_of_ble_eq_true rfl, Nat.le_of_ble_eq_true rfl⟩ (by decide) rfl rfl rfl (Nat.le_of_ble_eq_true rfl) rfl ?_
      refine fr_istore_n (q := 128) F dX8_lays_127 rfl (by decide) rfl ?_
      refine fr_goto (tgt := 105) F dX8_lays_128 (by decide) ?_
      exact fr_wj (ih _ _ h) ⟨rfl, ⟨rfl, trivial⟩⟩
theorem tX8_lays_29 {K : fr_K} {u0 : fr_N} {nz : fr_N} (F : fr_F YX8_lays K) (E : fr_R YX8_lays K none (u0, nz)) : ∀ (k : Nat) (x1 : Int32) (x2 : Int32) (x3 : Int32) (n0 : fr_N), fX8_lays_29 k x1 x2 x3 n0 = some nz → fr_V YX8_lays K 29 [some (.ref 52), some (.int x1), some (.int x2), some (.int x3)] [] (u0, n0) := by
  intro k
  induction k with
  | zero =>
    intro x1 x2 x3 n0 h
    rw [fX8_lays_29] at h
    cases h
  | succ k ih =>
    intro x1 x2 x3 n0 h
    rw [fX8_lays_29] at h
    refine fr_iload_n (q := 30) F dX8_lays_29 rfl rfl ?_
    refine fr_aload_n (q := 31) F dX8_lays_30 rfl rfl ?_
    refine fr_gfR (q := 34) (j := 53) F dX8_lays_31 rfl faRX8_7 (by decide) rfl rfl ?_
    refine fr_bipush (q := 36) (v := 6) F dX8_lays_34 rfl (by decide) ?_
    refine fr_ial (q := 37) (x := (n0 1 6)) F dX8_lays_36 rfl (fr_vin rfl) (by decide) rfl rfl ?_
    refine fr_icmp_ge (q := 40) (tgt := 100) F dX8_lays_37 (by decide) rfl (fun hc13 => ?_) (fun hc13 => ?_)
    · rw [if_pos hc13] at h
      refine fr_aload_n (q := 101) F dX8_lays_100 rfl rfl ?_
      obtain ⟨r14, hr15, h⟩ := fr_bd_some h
      refine fr_callV (q := 104) (M' := (u0, n0)) (rest := []) (st' := [.int r14]) F dX8_lays_101 rfl (tX8_nextFeast hr15) mlRX8_108 msX8_nextFeast ⟨Nat.le_of_ble_eq_true rfl, Nat.le_of_ble_eq_true rfl⟩ (by decide) rfl rfl rfl (Nat.le_of_ble_eq_true rfl) rfl ?_
      refine fr_istore_n (q := 105) F dX8_lays_104 rfl (by decide) rfl ?_
      exact fr_wj (tX8_lays_105 F E _ _ _ h) ⟨rfl, ⟨rfl, trivial⟩⟩
    · rw [if_neg hc13] at h
      refine fr_aload_n (q := 41) F dX8_lays_40 rfl rfl ?_
      refine fr_gfR (q := 44) (j := 60) F dX8_lays_41 rfl faRX8_32 (by decide) rfl rfl ?_
      refine fr_iload_n (q := 45) F dX8_lays_44 rfl rfl ?_
      refine fr_aload_n (q := 46) F dX8_lays_45 rfl rfl ?_
      refine fr_iload_n (q := 47) F dX8_lays_46 rfl rfl ?_
      refine fr_iload_n (q := 48) F dX8_lays_47 rfl rfl ?_
      obtain ⟨r16, hr17, h⟩ := fr_bd_some h
      refine fr_callV (q := 51) (M' := (u0, n0)) (rest := [.int x3, .ref 60]) (st' := [.int r16, .int x3, .ref 60]) F dX8_lays_48 rfl (tX8_ownDay hr17) mlRX8_105 msX8_ownDay ⟨Nat.le_of_ble_eq_true rfl, Nat.le_of_ble_eq_true rfl⟩ (by decide) rfl rfl rfl (Nat.le_of_ble_eq_true rfl) rfl ?_
      obtain ⟨hi18, h⟩ := fr_ck_some h
      obtain ⟨n19, hn20, h⟩ := fr_lt_some h
      refine fr_ias (q := 52) (M' := (u0, n19)) F dX8_lays_51 rfl hi18 (by decide) rfl (congrArg (fun z => (u0, z)) hn20) ?_
      refine fr_aload_n (q := 53) F dX8_lays_52 rfl rfl ?_
      refine fr_gfR (q := 56) (j := 61) F dX8_lays_53 rfl faRX8_35 (by decide) rfl rfl ?_
      refine fr_iload_n (q := 57) F dX8_lays_56 rfl rfl ?_
      refine fr_iconst (q := 58) (v := 0) F dX8_lays_57 rfl (by decide) ?_
      obtain ⟨hi21, h⟩ := fr_ck_some h
      obtain ⟨n22, hn23, h⟩ := fr_lt_some h
      refine fr_ias (q := 59) (M' := (u0, n22)) F dX8_lays_58 rfl hi21 (by decide) rfl (congrArg (fun z => (u0, z)) hn23) ?_
      refine fr_aload_n (q := 60) F dX8_lays_59 rfl rfl ?_
      refine fr_gfR (q := 63) (j := 62) F dX8_lays_60 rfl faRX8_38 (by decide) rfl rfl ?_
      refine fr_iload_n (q := 64) F dX8_lays_63 rfl rfl ?_
      refine fr_ldc (q := 66) F dX8_lays_64 rfl kcRX8_90 ?_
      obtain ⟨hi24, h⟩ := fr_ck_some h
      obtain ⟨n25, hn26, h⟩ := fr_lt_some h
      refine fr_ias (q := 67) (M' := (u0, n25)) F dX8_lays_66 rfl hi24 (by decide) rfl (congrArg (fun z => (u0, z)) hn26) ?_
      refine fr_aload_n (q := 68) F dX8_lays_67 rfl rfl ?_
      refine fr_gfR (q := 71) (j := 63) F dX8_lays_68 rfl faRX8_41 (by decide) rfl rfl ?_
      refine fr_iload_n (q := 72) F dX8_lays_71 rfl rfl ?_
      refine fr_aload_n (q := 73) F dX8_lays_72 rfl rfl ?_
      refine fr_gfR (q := 76) (j := 60) F dX8_lays_73 rfl faRX8_32 (by decide) rfl rfl ?_
      refine fr_iload_n (q := 77) F dX8_lays_76 rfl rfl ?_
      obtain ⟨hi27, h⟩ := fr_ck_some h
      refine fr_ial (q := 78) (x := (n25 8 (Int32.toNatClampNeg x3))) F dX8_lays_77 rfl hi27 (by decide) rfl rfl ?_
      refine fr_ldc (q := 80) F dX8_lays_78 rfl kcRX8_90 ?_
      refine fr_icmp_eq (q := 83) (tgt := 88) F dX8_lays_80 (by decide) rfl (fun hc28 => ?_) (fun hc28 => ?_)
      · rw [if_pos hc28] at h
        refine fr_iconst (q := 89) (v := 1) F dX8_lays_88 rfl (by decide) ?_
        refine fr_goto (tgt := 93) F dX8_lays_89 (by decide) ?_
        exact fr_wj (tX8_lays_93 F E ih h) ⟨rfl, ⟨rfl, ⟨rfl, ⟨rfl, trivial⟩⟩⟩⟩
      · rw [if_neg hc28] at h
        refine fr_iload_n (q := 84) F dX8_lays_83 rfl rfl ?_
        refine fr_iload_n (q := 85) F dX8_lays_84 rfl rfl ?_
        refine fr_icmp_ne (q := 88) (tgt := 92) F dX8_lays_85 (by decide) rfl (fun hc29 => ?_) (fun hc29 => ?_)
        · rw [if_neg hc29] at h
          refine fr_iconst (q := 93) (v := 0) F dX8_lays_92 rfl (by decide) ?_
          exact fr_wj (tX8_lays_93 F E ih h) ⟨rfl, ⟨rfl, ⟨rfl, ⟨rfl, trivial⟩⟩⟩⟩
        · rw [if_pos hc29] at h
          refine fr_iconst (q := 89) (v := 1) F dX8_lays_88 rfl (by decide) ?_
          refine fr_goto (tgt := 93) F dX8_lays_89 (by decide) ?_
          exact fr_wj (tX8_lays_93 F E ih h) ⟨rfl, ⟨rfl, ⟨rfl, ⟨rfl, trivial⟩⟩⟩⟩
theorem tX8_lays_7 {K : fr_K} {u0 : fr_N} {nz : fr_N} (F : fr_F YX8_lays K) (E : fr_R YX8_lays K none (u0, nz)) : ∀ (k : Nat) (x1 : Int32) (x2 : Int32) (x3 : Int32) (n0 : fr_N), fX8_lays_7 k x1 x2 x3 n0 = some nz → fr_V YX8_lays K 7 [some (.ref 52), some (.int x1), some (.int x2), some (.int x3)] [] (u0, n0) := by
  intro k
  induction k with
  | zero =>
    intro x1 x2 x3 n0 h
    rw [fX8_lays_7] at h
    cases h
  | succ k ih =>
    intro x1 x2 x3 n0 h
    rw [fX8_lays_7] at h
    refine fr_iload_n (q := 8) F dX8_lays_7 rfl rfl ?_
    refine fr_sipush (q := 11) (v := 367) F dX8_lays_8 rfl (by decide) ?_
    refine fr_icmp_ge (q := 14) (tgt := 27) F dX8_lays_11 (by decide) rfl (fun hc30 => ?_) (fun hc30 => ?_)
    · rw [if_pos hc30] at h
      refine fr_iconst (q := 28) (v := 0) F dX8_lays_27 rfl (by decide) ?_
      refine fr_istore_n (q := 29) F dX8_lays_28 rfl (by decide) rfl ?_
      exact fr_wj (tX8_lays_29 F E _ _ _ _ _ h) ⟨rfl, ⟨rfl, ⟨rfl, ⟨rfl, trivial⟩⟩⟩⟩
    · rw [if_neg hc30] at h
      refine fr_aload_n (q := 15) F dX8_lays_14 rfl rfl ?_
      refine fr_gfR (q := 18) (j := 59) F dX8_lays_15 rfl faRX8_29 (by decide) rfl rfl ?_
      refine fr_iload_n (q := 19) F dX8_lays_18 rfl rfl ?_
      refine fr_iconst (q := 20) (v := 0) F dX8_lays_19 rfl (by decide) ?_
      obtain ⟨hi31, h⟩ := fr_ck_some h
      obtain ⟨n32, hn33, h⟩ := fr_lt_some h
      refine fr_ias (q := 21) (M' := (u0, n32)) F dX8_lays_20 rfl hi31 (by decide) rfl (congrArg (fun z => (u0, z)) hn33) ?_
      refine fr_iinc (q := 24) (v := (x3 + (1 : Int32))) F dX8_lays_21 rfl rfl rfl (by decide) rfl ?_
      refine fr_goto (tgt := 7) F dX8_lays_24 (by decide) ?_
      exact fr_wj (ih _ _ _ _ h) ⟨rfl, ⟨rfl, ⟨rfl, ⟨rfl, trivial⟩⟩⟩⟩
theorem tX8_lays {l : Launch} {G : fr_G} {u0 : fr_N} {a1 : Int32} {a2 : Int32} {n0 : fr_N} {nz : fr_N} (h : fX8_lays a1 a2 n0 = some nz) : fr_Met l G YX8_lays [.ref 52, .int a1, .int a2] (u0, n0) none (u0, nz) := by
  refine fr_met (pad := List.replicate 1 none) (by decide) (Nat.le_of_ble_eq_true rfl) (fun _ h => List.eq_of_mem_replicate h) ⟨rfl, rfl⟩ (fun K F hG hL E => ?_)
  subst hG; subst hL
  rw [fX8_lays] at h
  show fr_V YX8_lays K 0 [some (.ref 52), some (.int a1), some (.int a2), none] [] (u0, n0)
  refine fr_aload_n (q := 1) F dX8_lays_0 rfl rfl ?_
  refine fr_iload_n (q := 2) F dX8_lays_1 rfl rfl ?_
  obtain ⟨n36, hr35, h⟩ := fr_bd_some h
  refine fr_callV (q := 5) (M' := (u0, n36)) (rest := []) (st' := []) F dX8_lays_2 rfl (tX8_opens hr35) mlRX8_101 msX8_opens ⟨Nat.le_of_ble_eq_true rfl, Nat.le_of_ble_eq_true rfl⟩ (by decide) rfl rfl rfl (Nat.le_of_ble_eq_true rfl) rfl ?_
  refine fr_iconst (q := 6) (v := 0) F dX8_lays_5 rfl (by decide) ?_
  refine fr_istore_n (q := 7) F dX8_lays_6 rfl (by decide) rfl ?_
  exact fr_wj (tX8_lays_7 F E _ _ _ _ _ h) ⟨rfl, ⟨rfl, ⟨rfl, ⟨rfl, trivial⟩⟩⟩⟩
/-! FeastRotaModel.rankOf (52, None) -/
def fX8_rankOf (a1 : Int32) (n0 : fr_N) : Option Int32 := fr_ck a1 367 (if (n0 7 (Int32.toNatClampNeg a1)) ≤ 0 then fr_bd (fX8_weekdayOf a1 n0) fun r3 => (if r3 = 0 then some (3 : Int32) else some (0 : Int32)) else fr_ck a1 367 (fr_bd (fX8_of ((n0 7 (Int32.toNatClampNeg a1)) - (1 : Int32)) (2 : Int32) n0) fun r7 => (some r7)))
theorem tX8_rankOf {l : Launch} {G : fr_G} {u0 : fr_N} {a1 : Int32} {n0 : fr_N} {rz : Int32} (h : fX8_rankOf a1 n0 = some rz) : fr_Met l G YX8_rankOf [.ref 52, .int a1] (u0, n0) (some (.int rz)) (u0, n0) := by
  refine fr_met (pad := List.replicate 0 none) (by decide) (Nat.le_of_ble_eq_true rfl) (fun _ h => List.eq_of_mem_replicate h) ⟨rfl, rfl⟩ (fun K F hG hL E => ?_)
  subst hG; subst hL
  rw [fX8_rankOf] at h
  show fr_V YX8_rankOf K 0 [some (.ref 52), some (.int a1)] [] (u0, n0)
  refine fr_aload_n (q := 1) F dX8_rankOf_0 rfl rfl ?_
  refine fr_gfR (q := 4) (j := 59) F dX8_rankOf_1 rfl faRX8_29 (by decide) rfl rfl ?_
  refine fr_iload_n (q := 5) F dX8_rankOf_4 rfl rfl ?_
  obtain ⟨hi1, h⟩ := fr_ck_some h
  refine fr_ial (q := 6) (x := (n0 7 (Int32.toNatClampNeg a1))) F dX8_rankOf_5 rfl hi1 (by decide) rfl rfl ?_
  refine fr_if_le (q := 9) (tgt := 25) F dX8_rankOf_6 (by decide) rfl (fun hc2 => ?_) (fun hc2 => ?_)
  · rw [if_pos hc2] at h
    refine fr_aload_n (q := 26) F dX8_rankOf_25 rfl rfl ?_
    refine fr_iload_n (q := 27) F dX8_rankOf_26 rfl rfl ?_
    obtain ⟨r3, hr4, h⟩ := fr_bd_some h
    refine fr_callV (q := 30) (M' := (u0, n0)) (rest := []) (st' := [.int r3]) F dX8_rankOf_27 rfl (tX8_weekdayOf hr4) mlRX8_67 msX8_weekdayOf ⟨Nat.le_of_ble_eq_true rfl, Nat.le_of_ble_eq_true rfl⟩ (by decide) rfl rfl rfl (Nat.le_of_ble_eq_true rfl) rfl ?_
    refine fr_if_ne (q := 33) (tgt := 37) F dX8_rankOf_30 (by decide) rfl (fun hc5 => ?_) (fun hc5 => ?_)
    · rw [if_neg hc5] at h
      refine fr_iconst (q := 38) (v := 0) F dX8_rankOf_37 rfl (by decide) ?_
      obtain rfl := Option.some.inj h
      exact fr_iret F E rfl dX8_rankOf_38
    · rw [if_pos hc5] at h
      refine fr_iconst (q := 34) (v := 3) F dX8_rankOf_33 rfl (by decide) ?_
      refine fr_goto (tgt := 38) F dX8_rankOf_34 (by decide) ?_
      obtain rfl := Option.some.inj h
      exact fr_iret F E rfl dX8_rankOf_38
  · rw [if_neg hc2] at h
    refine fr_aload_n (q := 10) F dX8_rankOf_9 rfl rfl ?_
    refine fr_aload_n (q := 11) F dX8_rankOf_10 rfl rfl ?_
    refine fr_gfR (q := 14) (j := 59) F dX8_rankOf_11 rfl faRX8_29 (by decide) rfl rfl ?_
    refine fr_iload_n (q := 15) F dX8_rankOf_14 rfl rfl ?_
    obtain ⟨hi6, h⟩ := fr_ck_some h
    refine fr_ial (q := 16) (x := (n0 7 (Int32.toNatClampNeg a1))) F dX8_rankOf_15 rfl hi6 (by decide) rfl rfl ?_
    refine fr_iconst (q := 17) (v := 1) F dX8_rankOf_16 rfl (by decide) ?_
    refine fr_isub (q := 18) F dX8_rankOf_17 rfl ?_
    refine fr_iconst (q := 19) (v := 2) F dX8_rankOf_18 rfl (by decide) ?_
    obtain ⟨r7, hr8, h⟩ := fr_bd_some h
    refine fr_callV (q := 22) (M' := (u0, n0)) (rest := []) (st' := [.int r7]) F dX8_rankOf_19 rfl (tX8_of hr8) mlRX8_84 msX8_of ⟨Nat.le_of_ble_eq_true rfl, Nat.le_of_ble_eq_true rfl⟩ (by decide) rfl rfl rfl (Nat.le_of_ble_eq_true rfl) rfl ?_
    refine fr_goto (tgt := 38) F dX8_rankOf_22 (by decide) ?_
    obtain rfl := Option.some.inj h
    exact fr_iret F E rfl dX8_rankOf_38
/-! FeastRotaModel.servicesOf (52, None) -/
def fX8_servicesOf (a1 : Int32) (n0 : fr_N) : Option Int32 := fr_bd (fX8_rankOf a1 n0) fun r1 => (if (2 : Int32) ≤ r1 then if (4 : Int32) ≤ r1 then some (r1 - (1 : Int32)) else some (2 : Int32) else some (1 : Int32))
theorem tX8_servicesOf {l : Launch} {G : fr_G} {u0 : fr_N} {a1 : Int32} {n0 : fr_N} {rz : Int32} (h : fX8_servicesOf a1 n0 = some rz) : fr_Met l G YX8_servicesOf [.ref 52, .int a1] (u0, n0) (some (.int rz)) (u0, n0) := by
  refine fr_met (pad := List.replicate 1 none) (by decide) (Nat.le_of_ble_eq_true rfl) (fun _ h => List.eq_of_mem_replicate h) ⟨rfl, rfl⟩ (fun K F hG hL E => ?_)
  subst hG; subst hL
  rw [fX8_servicesOf] at h
  show fr_V YX8_servicesOf K 0 [some (.ref 52), some (.int a1), none] [] (u0, n0)
  refine fr_aload_n (q := 1) F dX8_servicesOf_0 rfl rfl ?_
  refine fr_iload_n (q := 2) F dX8_servicesOf_1 rfl rfl ?_
  obtain ⟨r1, hr2, h⟩ := fr_bd_some h
  refine fr_callV (q := 5) (M' := (u0, n0)) (rest := []) (st' := [.int r1]) F dX8_servicesOf_2 rfl (tX8_rankOf hr2) mlRX8_122 msX8_rankOf ⟨Nat.le_of_ble_eq_true rfl, Nat.le_of_ble_eq_true rfl⟩ (by decide) rfl rfl rfl (Nat.le_of_ble_eq_true rfl) rfl ?_
  refine fr_istore_n (q := 6) F dX8_servicesOf_5 rfl (by decide) rfl ?_
  refine fr_iload_n (q := 7) F dX8_servicesOf_6 rfl rfl ?_
  refine fr_iconst (q := 8) (v := 2) F dX8_servicesOf_7 rfl (by decide) ?_
  refine fr_icmp_ge (q := 11) (tgt := 15) F dX8_servicesOf_8 (by decide) rfl (fun hc3 => ?_) (fun hc3 => ?_)
  · rw [if_pos hc3] at h
    refine fr_iload_n (q := 16) F dX8_servicesOf_15 rfl rfl ?_
    refine fr_iconst (q := 17) (v := 4) F dX8_servicesOf_16 rfl (by decide) ?_
    refine fr_icmp_ge (q := 20) (tgt := 24) F dX8_servicesOf_17 (by decide) rfl (fun hc4 => ?_) (fun hc4 => ?_)
    · rw [if_pos hc4] at h
      refine fr_iload_n (q := 25) F dX8_servicesOf_24 rfl rfl ?_
      refine fr_iconst (q := 26) (v := 1) F dX8_servicesOf_25 rfl (by decide) ?_
      refine fr_isub (q := 27) F dX8_servicesOf_26 rfl ?_
      obtain rfl := Option.some.inj h
      exact fr_iret F E rfl dX8_servicesOf_27
    · rw [if_neg hc4] at h
      refine fr_iconst (q := 21) (v := 2) F dX8_servicesOf_20 rfl (by decide) ?_
      refine fr_goto (tgt := 27) F dX8_servicesOf_21 (by decide) ?_
      obtain rfl := Option.some.inj h
      exact fr_iret F E rfl dX8_servicesOf_27
  · rw [if_neg hc3] at h
    refine fr_iconst (q := 12) (v := 1) F dX8_servicesOf_11 rfl (by decide) ?_
    refine fr_goto (tgt := 27) F dX8_servicesOf_12 (by decide) ?_
    obtain rfl := Option.some.inj h
    exact fr_iret F E rfl dX8_servicesOf_27
/-! FeastRotaModel.isAway (52, None, None) -/
def fX8_isAway (a1 : Int32) (a2 : Int32) (n0 : fr_N) : Option Bool := fr_ck ((69 : Int32) + ((2 : Int32) * a1)) 79 (fr_ck (((69 : Int32) + ((2 : Int32) * a1)) + (1 : Int32)) 79 (fr_bd (fX8_in (Int32.toInt64 a2) (Int32.toInt64 (n0 1 (Int32.toNatClampNeg ((69 : Int32) + ((2 : Int32) * a1))))) (Int32.toInt64 (n0 1 (Int32.toNatClampNeg (((69 : Int32) + ((2 : Int32) * a1)) + (1 : Int32)))))) fun r3 => (some r3)))
theorem tX8_isAway {l : Launch} {G : fr_G} {u0 : fr_N} {a1 : Int32} {a2 : Int32} {n0 : fr_N} {rz : Bool} (h : fX8_isAway a1 a2 n0 = some rz) : fr_Met l G YX8_isAway [.ref 52, .int a1, .int a2] (u0, n0) (some (.int (fr_b rz))) (u0, n0) := by
  refine fr_met (pad := List.replicate 0 none) (by decide) (Nat.le_of_ble_eq_true rfl) (fun _ h => List.eq_of_mem_replicate h) ⟨rfl, rfl⟩ (fun K F hG hL E => ?_)
  subst hG; subst hL
  rw [fX8_isAway] at h
  show fr_V YX8_isAway K 0 [some (.ref 52), some (.int a1), some (.int a2)] [] (u0, n0)
  refine fr_iload_n (q := 1) F dX8_isAway_0 rfl rfl ?_
  refine fr_i2l (q := 2) F dX8_isAway_1 rfl ?_
  refine fr_aload_n (q := 3) F dX8_isAway_2 rfl rfl ?_
  refine fr_gfR (q := 6) (j := 53) F dX8_isAway_3 rfl faRX8_7 (by decide) rfl rfl ?_
  refine fr_bipush (q := 8) (v := 69) F dX8_isAway_6 rfl (by decide) ?_
  refine fr_iconst (q := 9) (v := 2) F dX8_isAway_8 rfl (by decide) ?_
  refine fr_iload_n (q := 10) F dX8_isAway_9 rfl rfl ?_
  refine fr_imul (q := 11) F dX8_isAway_10 rfl ?_
  refine fr_iadd (q := 12) F dX8_isAway_11 rfl ?_
  obtain ⟨hi1, h⟩ := fr_ck_some h
  refine fr_ial (q := 13) (x := (n0 1 (Int32.toNatClampNeg ((69 : Int32) + ((2 : Int32) * a1))))) F dX8_isAway_12 rfl hi1 (by decide) rfl rfl ?_
  refine fr_i2l (q := 14) F dX8_isAway_13 rfl ?_
  refine fr_aload_n (q := 15) F dX8_isAway_14 rfl rfl ?_
  refine fr_gfR (q := 18) (j := 53) F dX8_isAway_15 rfl faRX8_7 (by decide) rfl rfl ?_
  refine fr_bipush (q := 20) (v := 69) F dX8_isAway_18 rfl (by decide) ?_
  refine fr_iconst (q := 21) (v := 2) F dX8_isAway_20 rfl (by decide) ?_
  refine fr_iload_n (q := 22) F dX8_isAway_21 rfl rfl ?_
  refine fr_imul (q := 23) F dX8_isAway_22 rfl ?_
  refine fr_iadd (q := 24) F dX8_isAway_23 rfl ?_
  refine fr_iconst (q := 25) (v := 1) F dX8_isAway_24 rfl (by decide) ?_
  refine fr_iadd (q := 26) F dX8_isAway_25 rfl ?_
  obtain ⟨hi2, h⟩ := fr_ck_some h
  refine fr_ial (q := 27) (x := (n0 1 (Int32.toNatClampNeg (((69 : Int32) + ((2 : Int32) * a1)) + (1 : Int32))))) F dX8_isAway_26 rfl hi2 (by decide) rfl rfl ?_
  refine fr_i2l (q := 28) F dX8_isAway_27 rfl ?_
  obtain ⟨r3, hr4, h⟩ := fr_bd_some h
  refine fr_callS (q := 31) (M' := (u0, n0)) (rest := []) (st' := [.int (fr_b r3)]) F dX8_isAway_28 rfl (tX8_in hr4) mlRX8_55 msX8_in ⟨Nat.le_of_ble_eq_true rfl, Nat.le_of_ble_eq_true rfl⟩ rfl rfl (Nat.le_of_ble_eq_true rfl) rfl ?_
  obtain rfl := Option.some.inj h
  exact fr_zret F E rfl dX8_isAway_31
/-! FeastRotaModel.isBetter (52, None, None, None) -/
def fX8_isBetter (a1 : Int32) (a2 : Int32) (a3 : Int32) (n0 : fr_N) : Option Bool := fr_ck a2 5 (fr_ck a3 5 (if (n0 12 (Int32.toNatClampNeg a2)) = (n0 12 (Int32.toNatClampNeg a3)) then if a1 = 0 then if a3 ≤ a2 then some false else some true else if a1 = (2 : Int32) then if a2 ≤ a3 then some false else some true else fr_ck a2 5 (fr_ck a3 5 (if (n0 13 (Int32.toNatClampNeg a2)) < (n0 13 (Int32.toNatClampNeg a3)) then some true else fr_ck a2 5 (fr_ck a3 5 (if (n0 13 (Int32.toNatClampNeg a2)) = (n0 13 (Int32.toNatClampNeg a3)) then if a3 ≤ a2 then some false else some true else some false)))) else fr_ck a2 5 (fr_ck a3 5 (if (n0 12 (Int32.toNatClampNeg a3)) ≤ (n0 12 (Int32.toNatClampNeg a2)) then some false else some true))))
theorem tX8_isBetter {l : Launch} {G : fr_G} {u0 : fr_N} {a1 : Int32} {a2 : Int32} {a3 : Int32} {n0 : fr_N} {rz : Bool} (h : fX8_isBetter a1 a2 a3 n0 = some rz) : fr_Met l G YX8_isBetter [.ref 52, .int a1, .int a2, .int a3] (u0, n0) (some (.int (fr_b rz))) (u0, n0) := by
  refine fr_met (pad := List.replicate 0 none) (by decide) (Nat.le_of_ble_eq_true rfl) (fun _ h => List.eq_of_mem_replicate h) ⟨rfl, rfl⟩ (fun K F hG hL E => ?_)
  subst hG; subst hL
  rw [fX8_isBetter] at h
  show fr_V YX8_isBetter K 0 [some (.ref 52), some (.int a1), some (.int a2), some (.int a3)] [] (u0, n0)
  refine fr_aload_n (q := 1) F dX8_isBetter_0 rfl rfl ?_
  refine fr_gfR (q := 4) (j := 64) F dX8_isBetter_1 rfl faRX8_44 (by decide) rfl rfl ?_
  refine fr_iload_n (q := 5) F dX8_isBetter_4 rfl rfl ?_
  obtain ⟨hi1, h⟩ := fr_ck_some h
  refine fr_ial (q := 6) (x := (n0 12 (Int32.toNatClampNeg a2))) F dX8_isBetter_5 rfl hi1 (by decide) rfl rfl ?_
  refine fr_aload_n (q := 7) F dX8_isBetter_6 rfl rfl ?_
  refine fr_gfR (q := 10) (j := 64) F dX8_isBetter_7 rfl faRX8_44 (by decide) rfl rfl ?_
  refine fr_iload_n (q := 11) F dX8_isBetter_10 rfl rfl ?_
  obtain ⟨hi2, h⟩ := fr_ck_some h
  refine fr_ial (q := 12) (x := (n0 12 (Int32.toNatClampNeg a3))) F dX8_isBetter_11 rfl hi2 (by decide) rfl rfl ?_
  refine fr_icmp_eq (q := 15) (tgt := 36) F dX8_isBetter_12 (by decide) rfl (fun hc3 => ?_) (fun hc3 => ?_)
  · rw [if_pos hc3] at h
    refine fr_iload_n (q := 37) F dX8_isBetter_36 rfl rfl ?_
    refine fr_if_ne (q := 40) (tgt := 53) F dX8_isBetter_37 (by decide) rfl (fun hc4 => ?_) (fun hc4 => ?_)
    · rw [if_neg hc4] at h
      refine fr_iload_n (q := 54) F dX8_isBetter_53 rfl rfl ?_
      refine fr_iconst (q := 55) (v := 2) F dX8_isBetter_54 rfl (by decide) ?_
      refine fr_icmp_ne (q := 58) (tgt := 71) F dX8_isBetter_55 (by decide) rfl (fun hc5 => ?_) (fun hc5 => ?_)
      · rw [if_neg hc5] at h
        refine fr_aload_n (q := 72) F dX8_isBetter_71 rfl rfl ?_
        refine fr_gfR (q := 75) (j := 65) F dX8_isBetter_72 rfl faRX8_47 (by decide) rfl rfl ?_
        refine fr_iload_n (q := 76) F dX8_isBetter_75 rfl rfl ?_
        obtain ⟨hi6, h⟩ := fr_ck_some h
        refine fr_ial (q := 77) (x := (n0 13 (Int32.toNatClampNeg a2))) F dX8_isBetter_76 rfl hi6 (by decide) rfl rfl ?_
        refine fr_aload_n (q := 78) F dX8_isBetter_77 rfl rfl ?_
        refine fr_gfR (q := 81) (j := 65) F dX8_isBetter_78 rfl faRX8_47 (by decide) rfl rfl ?_
        refine fr_iload_n (q := 82) F dX8_isBetter_81 rfl rfl ?_
        obtain ⟨hi7, h⟩ := fr_ck_some h
        refine fr_ial (q := 83) (x := (n0 13 (Int32.toNatClampNeg a3))) F dX8_isBetter_82 rfl hi7 (by decide) rfl rfl ?_
        refine fr_icmp_lt (q := 86) (tgt := 106) F dX8_isBetter_83 (by decide) rfl (fun hc8 => ?_) (fun hc8 => ?_)
        · rw [if_pos hc8] at h
          refine fr_iconst (q := 107) (v := 1) F dX8_isBetter_106 rfl (by decide) ?_
          refine fr_goto (tgt := 111) F dX8_isBetter_107 (by decide) ?_
          obtain rfl := Option.some.inj h
          exact fr_zret F E rfl dX8_isBetter_111
        · rw [if_neg hc8] at h
          refine fr_aload_n (q := 87) F dX8_isBetter_86 rfl rfl ?_
          refine fr_gfR (q := 90) (j := 65) F dX8_isBetter_87 rfl faRX8_47 (by decide) rfl rfl ?_
          refine fr_iload_n (q := 91) F dX8_isBetter_90 rfl rfl ?_
          obtain ⟨hi9, h⟩ := fr_ck_some h
          refine fr_ial (q := 92) (x := (n0 13 (Int32.toNatClampNeg a2))) F dX8_isBetter_91 rfl hi9 (by decide) rfl rfl ?_
          refine fr_aload_n (q := 93) F dX8_isBetter_92 rfl rfl ?_
          refine fr_gfR (q := 96) (j := 65) F dX8_isBetter_93 rfl faRX8_47 (by decide) rfl rfl ?_
          refine fr_iload_n (q := 97) F dX8_isBetter_96 rfl rfl ?_
          obtain ⟨hi10, h⟩ := fr_ck_some h
          refine fr_ial (q := 98) (x := (n0 13 (Int32.toNatClampNeg a3))) F dX8_isBetter_97 rfl hi10 (by decide) rfl rfl ?_
          refine fr_icmp_ne (q := 101) (tgt := 110) F dX8_isBetter_98 (by decide) rfl (fun hc11 => ?_) (fun hc11 => ?_)
          · rw [if_neg hc11] at h
            refine fr_iconst (q := 111) (v := 0) F dX8_isBetter_110 rfl (by decide) ?_
            obtain rfl := Option.some.inj h
            exact fr_zret F E rfl dX8_isBetter_111
          · rw [if_pos hc11] at h
            refine fr_iload_n (q := 102) F dX8_isBetter_101 rfl rfl ?_
            refine fr_iload_n (q := 103) F dX8_isBetter_102 rfl rfl ?_
            refine fr_icmp_ge (q := 106) (tgt := 110) F dX8_isBetter_103 (by decide) rfl (fun hc12 => ?_) (fun hc12 => ?_)
            · rw [if_pos hc12] at h
              refine fr_iconst (q := 111) (v := 0) F dX8_isBetter_110 rfl (by decide) ?_
              obtain rfl := Option.some.inj h
              exact fr_zret F E rfl dX8_isBetter_111
            · rw [if_neg hc12] at h
              refine fr_iconst (q := 107) (v := 1) F dX8_isBetter_106 rfl (by decide) ?_
              refine fr_goto (tgt := 111) F dX8_isBetter_107 (by decide) ?_
              obtain rfl := Option.some.inj h
              exact fr_zret F E rfl dX8_isBetter_111
      · rw [if_pos hc5] at h
        refine fr_iload_n (q := 59) F dX8_isBetter_58 rfl rfl ?_
        refine fr_iload_n (q := 60) F dX8_isBetter_59 rfl rfl ?_
        refine fr_icmp_le (q := 63) (tgt := 67) F dX8_isBetter_60 (by decide) rfl (fun hc13 => ?_) (fun hc13 => ?_)
        · rw [if_pos hc13] at h
          refine fr_iconst (q := 68) (v := 0) F dX8_isBetter_67 rfl (by decide) ?_
          refine fr_goto (tgt := 111) F dX8_isBetter_68 (by decide) ?_
          obtain rfl := Option.some.inj h
          exact fr_zret F E rfl dX8_isBetter_111
        · rw [if_neg hc13] at h
          refine fr_iconst (q := 64) (v := 1) F dX8_isBetter_63 rfl (by decide) ?_
          refine fr_goto (tgt := 111) F dX8_isBetter_64 (by decide) ?_
          obtain rfl := Option.some.inj h
          exact fr_zret F E rfl dX8_isBetter_111
    · rw [if_pos hc4] at h
      refine fr_iload_n (q := 41) F dX8_isBetter_40 rfl rfl ?_
      refine fr_iload_n (q := 42) F dX8_isBetter_41 rfl rfl ?_
      refine fr_icmp_ge (q := 45) (tgt := 49) F dX8_isBetter_42 (by decide) rfl (fun hc14 => ?_) (fun hc14 => ?_)
      · rw [if_pos hc14] at h
        refine fr_iconst (q := 50) (v := 0) F dX8_isBetter_49 rfl (by decide) ?_
        refine fr_goto (tgt := 111) F dX8_isBetter_50 (by decide) ?_
        obtain rfl := Option.some.inj h
        exact fr_zret F E rfl dX8_isBetter_111
      · rw [if_neg hc14] at h
        refine fr_iconst (q := 46) (v := 1) F dX8_isBetter_45 rfl (by decide) ?_
        refine fr_goto (tgt := 111) F dX8_isBetter_46 (by decide) ?_
        obtain rfl := Option.some.inj h
        exact fr_zret F E rfl dX8_isBetter_111
  · rw [if_neg hc3] at h
    refine fr_aload_n (q := 16) F dX8_isBetter_15 rfl rfl ?_
    refine fr_gfR (q := 19) (j := 64) F dX8_isBetter_16 rfl faRX8_44 (by decide) rfl rfl ?_
    refine fr_iload_n (q := 20) F dX8_isBetter_19 rfl rfl ?_
    obtain ⟨hi15, h⟩ := fr_ck_some h
    refine fr_ial (q := 21) (x := (n0 12 (Int32.toNatClampNeg a2))) F dX8_isBetter_20 rfl hi15 (by decide) rfl rfl ?_
    refine fr_aload_n (q := 22) F dX8_isBetter_21 rfl rfl ?_
    refine fr_gfR (q := 25) (j := 64) F dX8_isBetter_22 rfl faRX8_44 (by decide) rfl rfl ?_
    refine fr_iload_n (q := 26) F dX8_isBetter_25 rfl rfl ?_
    obtain ⟨hi16, h⟩ := fr_ck_some h
    refine fr_ial (q := 27) (x := (n0 12 (Int32.toNatClampNeg a3))) F dX8_isBetter_26 rfl hi16 (by decide) rfl rfl ?_
    refine fr_icmp_ge (q := 30) (tgt := 34) F dX8_isBetter_27 (by decide) rfl (fun hc17 => ?_) (fun hc17 => ?_)
    · rw [if_pos hc17] at h
      refine fr_iconst (q := 35) (v := 0) F dX8_isBetter_34 rfl (by decide) ?_
      obtain rfl := Option.some.inj h
      exact fr_zret F E rfl dX8_isBetter_35
    · rw [if_neg hc17] at h
      refine fr_iconst (q := 31) (v := 1) F dX8_isBetter_30 rfl (by decide) ?_
      refine fr_goto (tgt := 35) F dX8_isBetter_31 (by decide) ?_
      obtain rfl := Option.some.inj h
      exact fr_zret F E rfl dX8_isBetter_35
/-! FeastRotaModel.had (52, None, None) -/
def fX8_had_5 (n0 : fr_N) : Nat → Int32 → Int32 → Bool → Int32 → Option Bool
  | 0, _, _, _, _ => none
  | k + 1, x1, x2, x3, x4 => if x2 ≤ x4 then some x3 else if x3 = true then (fX8_had_5 n0 k) x1 x2 true (x4 + (1 : Int32)) else fr_ck x4 4 (if (n0 14 (Int32.toNatClampNeg x4)) = x1 then (fX8_had_5 n0 k) x1 x2 true (x4 + (1 : Int32)) else (fX8_had_5 n0 k) x1 x2 false (x4 + (1 : Int32)))
def fX8_had (a1 : Int32) (a2 : Int32) (n0 : fr_N) : Option Bool := fX8_had_5 n0 2000 a1 a2 false (0 : Int32)
theorem tX8_had_5 {K : fr_K} {u0 : fr_N} {n0 : fr_N} {rz : Bool} (F : fr_F YX8_had K) (E : fr_R YX8_had K (some (.int (fr_b rz))) (u0, n0)) : ∀ (k : Nat) (x1 : Int32) (x2 : Int32) (x3 : Bool) (x4 : Int32), fX8_had_5 n0 k x1 x2 x3 x4 = some rz → fr_V YX8_had K 5 [some (.ref 52), some (.int x1), some (.int x2), some (.int (fr_b x3)), some (.int x4)] [] (u0, n0) := by
  intro k
  induction k with
  | zero =>
    intro x1 x2 x3 x4 h
    rw [fX8_had_5] at h
    cases h
  | succ k ih =>
    intro x1 x2 x3 x4 h
    rw [fX8_had_5] at h
    refine fr_iload (q := 7) F dX8_had_5 rfl rfl ?_
    refine fr_iload_n (q := 8) F dX8_had_7 rfl rfl ?_
    refine fr_icmp_ge (q := 11) (tgt := 38) F dX8_had_8 (by decide) rfl (fun hc1 => ?_) (fun hc1 => ?_)
    · rw [if_pos hc1] at h
      refine fr_iload_n (q := 39) F dX8_had_38 rfl rfl ?_
      obtain rfl := Option.some.inj h
      exact fr_zret F E rfl dX8_had_39
    · rw [if_neg hc1] at h
      refine fr_iload_n (q := 12) F dX8_had_11 rfl rfl ?_
      refine fr_if_neb (q := 15) (tgt := 26) F dX8_had_12 (by decide) rfl (fun hc2 => ?_) (fun hc2 => ?_)
      · rw [if_pos hc2] at h
        refine fr_iconst (q := 27) (v := 1) F dX8_had_26 rfl (by decide) ?_
        refine fr_goto (tgt := 31) F dX8_had_27 (by decide) ?_
        refine fr_istore_n (q := 32) F dX8_had_31 rfl (by decide) rfl ?_
        refine fr_iinc (q := 35) (v := (x4 + (1 : Int32))) F dX8_had_32 rfl rfl rfl (by decide) rfl ?_
        refine fr_goto (tgt := 5) F dX8_had_35 (by decide) ?_
        exact fr_wj (ih _ _ _ _ h) ⟨rfl, ⟨rfl, ⟨rfl, ⟨rfl, ⟨rfl, trivial⟩⟩⟩⟩⟩
      · rw [if_neg hc2] at h
        refine fr_aload_n (q := 16) F dX8_had_15 rfl rfl ?_
        refine fr_gfR (q := 19) (j := 66) F dX8_had_16 rfl faRX8_50 (by decide) rfl rfl ?_
        refine fr_iload (q := 21) F dX8_had_19 rfl rfl ?_
        obtain ⟨hi3, h⟩ := fr_ck_some h
        refine fr_ial (q := 22) (x := (n0 14 (Int32.toNatClampNeg x4))) F dX8_had_21 rfl hi3 (by decide) rfl rfl ?_
        refine fr_iload_n (q := 23) F dX8_had_22 rfl rfl ?_
        refine fr_icmp_ne (q := 26) (tgt := 30) F dX8_had_23 (by decide) rfl (fun hc4 => ?_) (fun hc4 => ?_)
        · rw [if_neg hc4] at h
          refine fr_iconst (q := 31) (v := 0) F dX8_had_30 rfl (by decide) ?_
          refine fr_istore_n (q := 32) F dX8_had_31 rfl (by decide) rfl ?_
          refine fr_iinc (q := 35) (v := (x4 + (1 : Int32))) F dX8_had_32 rfl rfl rfl (by decide) rfl ?_
          refine fr_goto (tgt := 5) F dX8_had_35 (by decide) ?_
          exact fr_wj (ih _ _ _ _ h) ⟨rfl, ⟨rfl, ⟨rfl, ⟨rfl, ⟨rfl, trivial⟩⟩⟩⟩⟩
        · rw [if_pos hc4] at h
          refine fr_iconst (q := 27) (v := 1) F dX8_had_26 rfl (by decide) ?_
          refine fr_goto (tgt := 31) F dX8_had_27 (by decide) ?_
          refine fr_istore_n (q := 32) F dX8_had_31 rfl (by decide) rfl ?_
          refine fr_iinc (q := 35) (v := (x4 + (1 : Int32))) F dX8_had_32 rfl rfl rfl (by decide) rfl ?_
          refine fr_goto (tgt := 5) F dX8_had_35 (by decide) ?_
          exact fr_wj (ih _ _ _ _ h) ⟨rfl, ⟨rfl, ⟨rfl, ⟨rfl, ⟨rfl, trivial⟩⟩⟩⟩⟩
theorem tX8_had {l : Launch} {G : fr_G} {u0 : fr_N} {a1 : Int32} {a2 : Int32} {n0 : fr_N} {rz : Bool} (h : fX8_had a1 a2 n0 = some rz) : fr_Met l G YX8_had [.ref 52, .int a1, .int a2] (u0, n0) (some (.int (fr_b rz))) (u0, n0) := by
  refine fr_met (pad := List.replicate 2 none) (by decide) (Nat.le_of_ble_eq_true rfl) (fun _ h => List.eq_of_mem_replicate h) ⟨rfl, rfl⟩ (fun K F hG hL E => ?_)
  subst hG; subst hL
  rw [fX8_had] at h
  show fr_V YX8_had K 0 [some (.ref 52), some (.int a1), some (.int a2), none, none] [] (u0, n0)
  refine fr_iconst (q := 1) (v := 0) F dX8_had_0 rfl (by decide) ?_
  refine fr_istore_n (q := 2) F dX8_had_1 rfl (by decide) rfl ?_
  refine fr_iconst (q := 3) (v := 0) F dX8_had_2 rfl (by decide) ?_
  refine fr_istore (q := 5) F dX8_had_3 rfl (by decide) rfl ?_
  exact fr_wj (tX8_had_5 F E _ _ _ _ _ h) ⟨rfl, ⟨rfl, ⟨rfl, ⟨rfl, ⟨rfl, trivial⟩⟩⟩⟩⟩
/-! FeastRotaModel.choose (52, None, None, None, None) -/
def fX8_choose_49 (k7 : Int32 → Int32 → Int32 → Bool → Int32 → Int32 → Option Int32) (n0 : fr_N) (x1 : Int32) (x2 : Int32) (x3 : Int32) (x4 : Bool) (x5 : Int32) (x6 : Int32) (s0 : Bool) : Option Int32 := if s0 = true then if x5 = (-1000000 : Int32) then k7 x1 x2 x3 x4 x6 (x6 + (1 : Int32)) else fr_bd (fX8_isBetter x1 x6 x5 n0) fun r3 => (if r3 = true then k7 x1 x2 x3 x4 x6 (x6 + (1 : Int32)) else k7 x1 x2 x3 x4 x5 (x6 + (1 : Int32))) else k7 x1 x2 x3 x4 x5 (x6 + (1 : Int32))
def fX8_choose_7 (n0 : fr_N) : Nat → Int32 → Int32 → Int32 → Bool → Int32 → Int32 → Option Int32
  | 0, _, _, _, _, _, _ => none
  | k + 1, x1, x2, x3, x4, x5, x6 => if (n0 1 8) ≤ x6 then some x5 else fr_bd (fX8_isAway x6 x2 n0) fun r7 => (if r7 = true then fX8_choose_49 (fX8_choose_7 n0 k) n0 x1 x2 x3 x4 x5 x6 false else if x4 = true then fr_bd (fX8_had x6 x3 n0) fun r11 => (if r11 = true then fX8_choose_49 (fX8_choose_7 n0 k) n0 x1 x2 x3 x4 x5 x6 false else fX8_choose_49 (fX8_choose_7 n0 k) n0 x1 x2 x3 x4 x5 x6 true) else fX8_choose_49 (fX8_choose_7 n0 k) n0 x1 x2 x3 x4 x5 x6 true)
def fX8_choose (a1 : Int32) (a2 : Int32) (a3 : Int32) (a4 : Bool) (n0 : fr_N) : Option Int32 := fX8_choose_7 n0 2000 a1 a2 a3 a4 (-1000000 : Int32) (0 : Int32)
theorem tX8_choose_49 {K : fr_K} {k7 : Int32 → Int32 → Int32 → Bool → Int32 → Int32 → Option Int32} {u0 : fr_N} {n0 : fr_N} {rz : Int32} (F : fr_F YX8_choose K) (E : fr_R YX8_choose K (some (.int rz)) (u0, n0)) (H7 : ∀ (y1 : Int32) (y2 : Int32) (y3 : Int32) (y4 : Bool) (y5 : Int32) (y6 : Int32), k7 y1 y2 y3 y4 y5 y6 = some rz → fr_V YX8_choose K 7 [some (.ref 52), some (.int y1), some (.int y2), some (.int y3), some (.int (fr_b y4)), some (.int y5), some (.int y6), none] [] (u0, n0)) {x1 : Int32} {x2 : Int32} {x3 : Int32} {x4 : Bool} {x5 : Int32} {x6 : Int32} {s0 : Bool} (h : fX8_choose_49 k7 n0 x1 x2 x3 x4 x5 x6 s0 = some rz) : fr_V YX8_choose K 49 [some (.ref 52), some (.int x1), some (.int x2), some (.int x3), some (.int (fr_b x4)), some (.int x5), some (.int x6), none] [.int (fr_b s0)] (u0, n0) := by
  rw [fX8_choose_49] at h
  refine fr_istore (q := 51) F dX8_choose_49 rfl (by decide) rfl ?_
  refine fr_iload (q := 53) F dX8_choose_51 rfl rfl ?_
  refine fr_if_eqb (q := 56) (tgt := 80) F dX8_choose_53 (by decide) rfl (fun hc1 => ?_) (fun hc1 => ?_)
  · rw [if_neg hc1] at h
    refine fr_iload (q := 82) F dX8_choose_80 rfl rfl ?_
    refine fr_istore (q := 84) F dX8_choose_82 rfl (by decide) rfl ?_
    refine fr_iinc (q := 87) (v := (x6 + (1 : Int32))) F dX8_choose_84 rfl rfl rfl (by decide) rfl ?_
    refine fr_goto (tgt := 7) F dX8_choose_87 (by decide) ?_
    exact fr_wj (H7 _ _ _ _ _ _ h) ⟨rfl, ⟨rfl, ⟨rfl, ⟨rfl, ⟨rfl, ⟨rfl, ⟨rfl, trivial⟩⟩⟩⟩⟩⟩⟩
  · rw [if_pos hc1] at h
    refine fr_iload (q := 58) F dX8_choose_56 rfl rfl ?_
    refine fr_ldc (q := 60) F dX8_choose_58 rfl kcRX8_90 ?_
    refine fr_icmp_eq (q := 63) (tgt := 75) F dX8_choose_60 (by decide) rfl (fun hc2 => ?_) (fun hc2 => ?_)
    · rw [if_pos hc2] at h
      refine fr_iload (q := 77) F dX8_choose_75 rfl rfl ?_
      refine fr_goto (tgt := 82) F dX8_choose_77 (by decide) ?_
      refine fr_istore (q := 84) F dX8_choose_82 rfl (by decide) rfl ?_
      refine fr_iinc (q := 87) (v := (x6 + (1 : Int32))) F dX8_choose_84 rfl rfl rfl (by decide) rfl ?_
      refine fr_goto (tgt := 7) F dX8_choose_87 (by decide) ?_
      exact fr_wj (H7 _ _ _ _ _ _ h) ⟨rfl, ⟨rfl, ⟨rfl, ⟨rfl, ⟨rfl, ⟨rfl, ⟨rfl, trivial⟩⟩⟩⟩⟩⟩⟩
    · rw [if_neg hc2] at h
      refine fr_aload_n (q := 64) F dX8_choose_63 rfl rfl ?_
      refine fr_iload_n (q := 65) F dX8_choose_64 rfl rfl ?_
      refine fr_iload (q := 67) F dX8_choose_65 rfl rfl ?_
      refine fr_iload (q := 69) F dX8_choose_67 rfl rfl ?_
      obtain ⟨r3, hr4, h⟩ := fr_bd_some h
      refine fr_callV (q := 72) (M' := (u0, n0)) (rest := []) (st' := [.int (fr_b r3)]) F dX8_choose_69 rfl (tX8_isBetter hr4) mlRX8_131 msX8_isBetter ⟨Nat.le_of_ble_eq_true rfl, Nat.le_of_ble_eq_true rfl⟩ (by decide) rfl rfl rfl (Nat.le_of_ble_eq_true rfl) rfl ?_
      refine fr_if_eqb (q := 75) (tgt := 80) F dX8_choose_72 (by decide) rfl (fun hc5 => ?_) (fun hc5 => ?_)
      · rw [if_neg hc5] at h
        refine fr_iload (q := 82) F dX8_choose_80 rfl rfl ?_
        refine fr_istore (q := 84) F dX8_choose_82 rfl (by decide) rfl ?_
        refine fr_iinc (q := 87) (v := (x6 + (1 : Int32))) F dX8_choose_84 rfl rfl rfl (by decide) rfl ?_
        refine fr_goto (tgt := 7) F dX8_choose_87 (by decide) ?_
        exact fr_wj (H7 _ _ _ _ _ _ h) ⟨rfl, ⟨rfl, ⟨rfl, ⟨rfl, ⟨rfl, ⟨rfl, ⟨rfl, trivial⟩⟩⟩⟩⟩⟩⟩
      · rw [if_pos hc5] at h
        refine fr_iload (q := 77) F dX8_choose_75 rfl rfl ?_
        refine fr_goto (tgt := 82) F dX8_choose_77 (by decide) ?_
        refine fr_istore (q := 84) F dX8_choose_82 rfl (by decide) rfl ?_
        refine fr_iinc (q := 87) (v := (x6 + (1 : Int32))) F dX8_choose_84 rfl rfl rfl (by decide) rfl ?_
        refine fr_goto (tgt := 7) F dX8_choose_87 (by decide) ?_
        exact fr_wj (H7 _ _ _ _ _ _ h) ⟨rfl, ⟨rfl, ⟨rfl, ⟨rfl, ⟨rfl, ⟨rfl, ⟨rfl, trivial⟩⟩⟩⟩⟩⟩⟩
theorem tX8_choose_7 {K : fr_K} {u0 : fr_N} {n0 : fr_N} {rz : Int32} (F : fr_F YX8_choose K) (E : fr_R YX8_choose K (some (.int rz)) (u0, n0)) : ∀ (k : Nat) (x1 : Int32) (x2 : Int32) (x3 : Int32) (x4 : Bool) (x5 : Int32) (x6 : Int32), fX8_choose_7 n0 k x1 x2 x3 x4 x5 x6 = some rz → fr_V YX8_choose K 7 [some (.ref 52), some (.int x1), some (.int x2), some (.int x3), some (.int (fr_b x4)), some (.int x5), some (.int x6), none] [] (u0, n0) := by
  intro k
  induction k with
  | zero =>
    intro x1 x2 x3 x4 x5 x6 h
    rw [fX8_choose_7] at h
    cases h
  | succ k ih =>
    intro x1 x2 x3 x4 x5 x6 h
    rw [fX8_choose_7] at h
    refine fr_iload (q := 9) F dX8_choose_7 rfl rfl ?_
    refine fr_aload_n (q := 10) F dX8_choose_9 rfl rfl ?_
    refine fr_gfR (q := 13) (j := 53) F dX8_choose_10 rfl faRX8_7 (by decide) rfl rfl ?_
    refine fr_bipush (q := 15) (v := 8) F dX8_choose_13 rfl (by decide) ?_
    refine fr_ial (q := 16) (x := (n0 1 8)) F dX8_choose_15 rfl (fr_vin rfl) (by decide) rfl rfl ?_
    refine fr_icmp_ge (q := 19) (tgt := 90) F dX8_choose_16 (by decide) rfl (fun hc6 => ?_) (fun hc6 => ?_)
    · rw [if_pos hc6] at h
      refine fr_iload (q := 92) F dX8_choose_90 rfl rfl ?_
      obtain rfl := Option.some.inj h
      exact fr_iret F E rfl dX8_choose_92
    · rw [if_neg hc6] at h
      refine fr_aload_n (q := 20) F dX8_choose_19 rfl rfl ?_
      refine fr_iload (q := 22) F dX8_choose_20 rfl rfl ?_
      refine fr_iload_n (q := 23) F dX8_choose_22 rfl rfl ?_
      obtain ⟨r7, hr8, h⟩ := fr_bd_some h
      refine fr_callV (q := 26) (M' := (u0, n0)) (rest := []) (st' := [.int (fr_b r7)]) F dX8_choose_23 rfl (tX8_isAway hr8) mlRX8_125 msX8_isAway ⟨Nat.le_of_ble_eq_true rfl, Nat.le_of_ble_eq_true rfl⟩ (by decide) rfl rfl rfl (Nat.le_of_ble_eq_true rfl) rfl ?_
      refine fr_if_neb (q := 29) (tgt := 48) F dX8_choose_26 (by decide) rfl (fun hc9 => ?_) (fun hc9 => ?_)
      · rw [if_pos hc9] at h
        refine fr_iconst (q := 49) (v := 0) F dX8_choose_48 rfl (by decide) ?_
        exact fr_wj (tX8_choose_49 F E ih h) ⟨rfl, ⟨rfl, ⟨rfl, ⟨rfl, ⟨rfl, ⟨rfl, ⟨rfl, trivial⟩⟩⟩⟩⟩⟩⟩
      · rw [if_neg hc9] at h
        refine fr_iload (q := 31) F dX8_choose_29 rfl rfl ?_
        refine fr_if_eqb (q := 34) (tgt := 44) F dX8_choose_31 (by decide) rfl (fun hc10 => ?_) (fun hc10 => ?_)
        · rw [if_neg hc10] at h
          refine fr_iconst (q := 45) (v := 1) F dX8_choose_44 rfl (by decide) ?_
          refine fr_goto (tgt := 49) F dX8_choose_45 (by decide) ?_
          exact fr_wj (tX8_choose_49 F E ih h) ⟨rfl, ⟨rfl, ⟨rfl, ⟨rfl, ⟨rfl, ⟨rfl, ⟨rfl, trivial⟩⟩⟩⟩⟩⟩⟩
        · rw [if_pos hc10] at h
          refine fr_aload_n (q := 35) F dX8_choose_34 rfl rfl ?_
          refine fr_iload (q := 37) F dX8_choose_35 rfl rfl ?_
          refine fr_iload_n (q := 38) F dX8_choose_37 rfl rfl ?_
          obtain ⟨r11, hr12, h⟩ := fr_bd_some h
          refine fr_callV (q := 41) (M' := (u0, n0)) (rest := []) (st' := [.int (fr_b r11)]) F dX8_choose_38 rfl (tX8_had hr12) mlRX8_128 msX8_had ⟨Nat.le_of_ble_eq_true rfl, Nat.le_of_ble_eq_true rfl⟩ (by decide) rfl rfl rfl (Nat.le_of_ble_eq_true rfl) rfl ?_
          refine fr_if_neb (q := 44) (tgt := 48) F dX8_choose_41 (by decide) rfl (fun hc13 => ?_) (fun hc13 => ?_)
          · rw [if_pos hc13] at h
            refine fr_iconst (q := 49) (v := 0) F dX8_choose_48 rfl (by decide) ?_
            exact fr_wj (tX8_choose_49 F E ih h) ⟨rfl, ⟨rfl, ⟨rfl, ⟨rfl, ⟨rfl, ⟨rfl, ⟨rfl, trivial⟩⟩⟩⟩⟩⟩⟩
          · rw [if_neg hc13] at h
            refine fr_iconst (q := 45) (v := 1) F dX8_choose_44 rfl (by decide) ?_
            refine fr_goto (tgt := 49) F dX8_choose_45 (by decide) ?_
            exact fr_wj (tX8_choose_49 F E ih h) ⟨rfl, ⟨rfl, ⟨rfl, ⟨rfl, ⟨rfl, ⟨rfl, ⟨rfl, trivial⟩⟩⟩⟩⟩⟩⟩
theorem tX8_choose {l : Launch} {G : fr_G} {u0 : fr_N} {a1 : Int32} {a2 : Int32} {a3 : Int32} {a4 : Bool} {n0 : fr_N} {rz : Int32} (h : fX8_choose a1 a2 a3 a4 n0 = some rz) : fr_Met l G YX8_choose [.ref 52, .int a1, .int a2, .int a3, .int (fr_b a4)] (u0, n0) (some (.int rz)) (u0, n0) := by
  refine fr_met (pad := List.replicate 3 none) (by decide) (Nat.le_of_ble_eq_true rfl) (fun _ h => List.eq_of_mem_replicate h) ⟨rfl, rfl⟩ (fun K F hG hL E => ?_)
  subst hG; subst hL
  rw [fX8_choose] at h
  show fr_V YX8_choose K 0 [some (.ref 52), some (.int a1), some (.int a2), some (.int a3), some (.int (fr_b a4)), none, none, none] [] (u0, n0)
  refine fr_ldc (q := 2) F dX8_choose_0 rfl kcRX8_90 ?_
  refine fr_istore (q := 4) F dX8_choose_2 rfl (by decide) rfl ?_
  refine fr_iconst (q := 5) (v := 0) F dX8_choose_4 rfl (by decide) ?_
  refine fr_istore (q := 7) F dX8_choose_5 rfl (by decide) rfl ?_
  exact fr_wj (tX8_choose_7 F E _ _ _ _ _ _ _ h) ⟨rfl, ⟨rfl, ⟨rfl, ⟨rfl, ⟨rfl, ⟨rfl, ⟨rfl, trivial⟩⟩⟩⟩⟩⟩⟩
/-! FeastRotaModel.laysRota (52, None, None) -/
def fX8_laysRota_127 (k39 : Int32 → Int32 → Int32 → fr_N → Option fr_N) (k47 : Int32 → Int32 → Int32 → Int32 → fr_N → Option fr_N) (x1 : Int32) (x2 : Int32) (x3 : Int32) (x4 : Int32) (x5 : Int32) (s0 : Bool) (s1 : Int32) (n0 : fr_N) : Option fr_N := fr_lt (fr_up n0 0 26 (s1 + (fr_b s0))) fun n1 => (if x5 = (-1000000 : Int32) then k47 x1 x2 x3 (x4 + (1 : Int32)) n1 else fr_ck x5 5 (fr_ck x5 5 (fr_lt (fr_up n1 12 (Int32.toNatClampNeg x5) ((n1 12 (Int32.toNatClampNeg x5)) + (1 : Int32))) fun n6 => (fr_ck x5 5 (fr_lt (fr_up n6 13 (Int32.toNatClampNeg x5) (n6 0 25)) fun n9 => (k47 x1 x2 x3 (x4 + (1 : Int32)) n9))))))
def fX8_laysRota_89 (k39 : Int32 → Int32 → Int32 → fr_N → Option fr_N) (k47 : Int32 → Int32 → Int32 → Int32 → fr_N → Option fr_N) (x1 : Int32) (x2 : Int32) (x3 : Int32) (x4 : Int32) (s0 : Int32) (n0 : fr_N) : Option fr_N := fr_lt (fr_up n0 0 25 ((n0 0 25) + (1 : Int32))) fun n11 => (fr_ck x4 4 (fr_lt (fr_up n11 14 (Int32.toNatClampNeg x4) s0) fun n14 => (if s0 = (-1000000 : Int32) then fX8_laysRota_127 k39 k47 x1 x2 x3 x4 s0 true (n14 0 26) n14 else fX8_laysRota_127 k39 k47 x1 x2 x3 x4 s0 false (n14 0 26) n14)))
def fX8_laysRota_47 (k39 : Int32 → Int32 → Int32 → fr_N → Option fr_N) : Nat → Int32 → Int32 → Int32 → Int32 → fr_N → Option fr_N
  | 0, _, _, _, _, _ => none
  | k + 1, x1, x2, x3, x4, n0 => fr_bd (fX8_servicesOf x3 n0) fun r17 => (if r17 ≤ x4 then k39 x1 x2 (x3 + (1 : Int32)) n0 else fr_bd (fX8_choose x1 x3 x4 true n0) fun r20 => (if r20 = (-1000000 : Int32) then fr_bd (fX8_choose x1 x3 x4 false n0) fun r23 => (fX8_laysRota_89 k39 (fX8_laysRota_47 k39 k) x1 x2 x3 x4 r23 n0) else fX8_laysRota_89 k39 (fX8_laysRota_47 k39 k) x1 x2 x3 x4 r20 n0))
def fX8_laysRota_39 : Nat → Int32 → Int32 → Int32 → fr_N → Option fr_N
  | 0, _, _, _, _ => none
  | k + 1, x1, x2, x3, n0 => if x2 < x3 then some n0 else fX8_laysRota_47 (fX8_laysRota_39 k) 2000 x1 x2 x3 (0 : Int32) n0
def fX8_laysRota_2 : Nat → Int32 → Int32 → Int32 → fr_N → Option fr_N
  | 0, _, _, _, _ => none
  | k + 1, x1, x2, x3, n0 => if (5 : Int32) ≤ x3 then fr_lt (fr_up n0 0 25 (0 : Int32)) fun n27 => (fr_lt (fr_up n27 0 26 (0 : Int32)) fun n29 => (fX8_laysRota_39 2000 x1 x2 (1 : Int32) n29)) else fr_ck x3 5 (fr_lt (fr_up n0 12 (Int32.toNatClampNeg x3) (0 : Int32)) fun n32 => (fr_ck x3 5 (fr_lt (fr_up n32 13 (Int32.toNatClampNeg x3) (0 : Int32)) fun n35 => ((fX8_laysRota_2 k) x1 x2 (x3 + (1 : Int32)) n35))))
def fX8_laysRota (a1 : Int32) (a2 : Int32) (n0 : fr_N) : Option fr_N := fX8_laysRota_2 2000 a1 a2 (0 : Int32) n0
theorem tX8_laysRota_127 {K : fr_K} {k47 : Int32 → Int32 → Int32 → Int32 → fr_N → Option fr_N} {k39 : Int32 → Int32 → Int32 → fr_N → Option fr_N} {u0 : fr_N} {nz : fr_N} (F : fr_F YX8_laysRota K) (E : fr_R YX8_laysRota K none (u0, nz)) (H39 : ∀ (y1 : Int32) (y2 : Int32) (y3 : Int32) (n : fr_N), k39 y1 y2 y3 n = some nz → fr_V YX8_laysRota K 39 [some (.ref 52), some (.int y1), some (.int y2), some (.int y3), none, none] [] (u0, n)) (H47 : ∀ (y1 : Int32) (y2 : Int32) (y3 : Int32) (y4 : Int32) (n : fr_N), k47 y1 y2 y3 y4 n = some nz → fr_V YX8_laysRota K 47 [some (.ref 52), some (.int y1), some (.int y2), some (.int y3), some (.int y4), none] [] (u0, n)) {x1 : Int32} {x2 : Int32} {x3 : Int32} {x4 : Int32} {x5 : Int32} {s0 : Bool} {s1 : Int32} {n0 : fr_N} (h : fX8_laysRota_127 k39 k47 x1 x2 x3 x4 x5 s0 s1 n0 = some nz) : fr_V YX8_laysRota K 127 [some (.ref 52), some (.int x1), some (.int x2), some (.int x3), some (.int x4), some (.int x5)] [.int (fr_b s0), .int s1, .ref 52] (u0, n0) := by
  rw [fX8_laysRota_127] at h
  refine fr_iadd (q := 128) F dX8_laysRota_127 rfl ?_
  obtain ⟨n1, hn2, h⟩ := fr_lt_some h
  refine fr_pfI (q := 131) (M' := (u0, n1)) F dX8_laysRota_128 rfl fpRX8_138 (by decide) rfl rfl (congrArg (fun z => (u0, z)) hn2) ?_
  refine fr_iload (q := 133) F dX8_laysRota_131 rfl rfl ?_
  refine fr_ldc (q := 135) F dX8_laysRota_133 rfl kcRX8_90 ?_
  refine fr_icmp_eq (q := 138) (tgt := 160) F dX8_laysRota_135 (by decide) rfl (fun hc3 => ?_) (fun hc3 => ?_)
  · rw [if_pos hc3] at h
    refine fr_iinc (q := 163) (v := (x4 + (1 : Int32))) F dX8_laysRota_160 rfl rfl rfl (by decide) rfl ?_
    refine fr_goto (tgt := 47) F dX8_laysRota_163 (by decide) ?_
    exact fr_wj (H47 _ _ _ _ _ h) ⟨rfl, ⟨rfl, ⟨rfl, ⟨rfl, ⟨rfl, trivial⟩⟩⟩⟩⟩
  · rw [if_neg hc3] at h
    refine fr_aload_n (q := 139) F dX8_laysRota_138 rfl rfl ?_
    refine fr_gfR (q := 142) (j := 64) F dX8_laysRota_139 rfl faRX8_44 (by decide) rfl rfl ?_
    refine fr_iload (q := 144) F dX8_laysRota_142 rfl rfl ?_
    refine fr_dup2 (q := 145) F dX8_laysRota_144 rfl rfl rfl ?_
    obtain ⟨hi4, h⟩ := fr_ck_some h
    refine fr_ial (q := 146) (x := (n1 12 (Int32.toNatClampNeg x5))) F dX8_laysRota_145 rfl hi4 (by decide) rfl rfl ?_
    refine fr_iconst (q := 147) (v := 1) F dX8_laysRota_146 rfl (by decide) ?_
    refine fr_iadd (q := 148) F dX8_laysRota_147 rfl ?_
    obtain ⟨hi5, h⟩ := fr_ck_some h
    obtain ⟨n6, hn7, h⟩ := fr_lt_some h
    refine fr_ias (q := 149) (M' := (u0, n6)) F dX8_laysRota_148 rfl hi5 (by decide) rfl (congrArg (fun z => (u0, z)) hn7) ?_
    refine fr_aload_n (q := 150) F dX8_laysRota_149 rfl rfl ?_
    refine fr_gfR (q := 153) (j := 65) F dX8_laysRota_150 rfl faRX8_47 (by decide) rfl rfl ?_
    refine fr_iload (q := 155) F dX8_laysRota_153 rfl rfl ?_
    refine fr_aload_n (q := 156) F dX8_laysRota_155 rfl rfl ?_
    refine fr_gfI (q := 159) (x := (n6 0 25)) F dX8_laysRota_156 rfl faRX8_135 (by decide) rfl rfl rfl ?_
    obtain ⟨hi8, h⟩ := fr_ck_some h
    obtain ⟨n9, hn10, h⟩ := fr_lt_some h
    refine fr_ias (q := 160) (M' := (u0, n9)) F dX8_laysRota_159 rfl hi8 (by decide) rfl (congrArg (fun z => (u0, z)) hn10) ?_
    refine fr_iinc (q := 163) (v := (x4 + (1 : Int32))) F dX8_laysRota_160 rfl rfl rfl (by decide) rfl ?_
    refine fr_goto (tgt := 47) F dX8_laysRota_163 (by decide) ?_
    exact fr_wj (H47 _ _ _ _ _ h) ⟨rfl, ⟨rfl, ⟨rfl, ⟨rfl, ⟨rfl, trivial⟩⟩⟩⟩⟩
theorem tX8_laysRota_89 {K : fr_K} {k47 : Int32 → Int32 → Int32 → Int32 → fr_N → Option fr_N} {k39 : Int32 → Int32 → Int32 → fr_N → Option fr_N} {u0 : fr_N} {nz : fr_N} (F : fr_F YX8_laysRota K) (E : fr_R YX8_laysRota K none (u0, nz)) (H39 : ∀ (y1 : Int32) (y2 : Int32) (y3 : Int32) (n : fr_N), k39 y1 y2 y3 n = some nz → fr_V YX8_laysRota K 39 [some (.ref 52), some (.int y1), some (.int y2), some (.int y3), none, none] [] (u0, n)) (H47 : ∀ (y1 : Int32) (y2 : Int32) (y3 : Int32) (y4 : Int32) (n : fr_N), k47 y1 y2 y3 y4 n = some nz → fr_V YX8_laysRota K 47 [some (.ref 52), some (.int y1), some (.int y2), some (.int y3), some (.int y4), none] [] (u0, n)) {x1 : Int32} {x2 : Int32} {x3 : Int32} {x4 : Int32} {s0 : Int32} {n0 : fr_N} (h : fX8_laysRota_89 k39 k47 x1 x2 x3 x4 s0 n0 = some nz) : fr_V YX8_laysRota K 89 [some (.ref 52), some (.int x1), some (.int x2), some (.int x3), some (.int x4), none] [.int s0] (u0, n0) := by
  rw [fX8_laysRota_89] at h
  refine fr_istore (q := 91) F dX8_laysRota_89 rfl (by decide) rfl ?_
  refine fr_aload_n (q := 92) F dX8_laysRota_91 rfl rfl ?_
  refine fr_dup (q := 93) F dX8_laysRota_92 rfl rfl ?_
  refine fr_gfI (q := 96) (x := (n0 0 25)) F dX8_laysRota_93 rfl faRX8_135 (by decide) rfl rfl rfl ?_
  refine fr_iconst (q := 97) (v := 1) F dX8_laysRota_96 rfl (by decide) ?_
  refine fr_iadd (q := 98) F dX8_laysRota_97 rfl ?_
  obtain ⟨n11, hn12, h⟩ := fr_lt_some h
  refine fr_pfI (q := 101) (M' := (u0, n11)) F dX8_laysRota_98 rfl fpRX8_135 (by decide) rfl rfl (congrArg (fun z => (u0, z)) hn12) ?_
  refine fr_aload_n (q := 102) F dX8_laysRota_101 rfl rfl ?_
  refine fr_gfR (q := 105) (j := 66) F dX8_laysRota_102 rfl faRX8_50 (by decide) rfl rfl ?_
  refine fr_iload (q := 107) F dX8_laysRota_105 rfl rfl ?_
  refine fr_iload (q := 109) F dX8_laysRota_107 rfl rfl ?_
  obtain ⟨hi13, h⟩ := fr_ck_some h
  obtain ⟨n14, hn15, h⟩ := fr_lt_some h
  refine fr_ias (q := 110) (M' := (u0, n14)) F dX8_laysRota_109 rfl hi13 (by decide) rfl (congrArg (fun z => (u0, z)) hn15) ?_
  refine fr_aload_n (q := 111) F dX8_laysRota_110 rfl rfl ?_
  refine fr_dup (q := 112) F dX8_laysRota_111 rfl rfl ?_
  refine fr_gfI (q := 115) (x := (n14 0 26)) F dX8_laysRota_112 rfl faRX8_138 (by decide) rfl rfl rfl ?_
  refine fr_iload (q := 117) F dX8_laysRota_115 rfl rfl ?_
  refine fr_ldc (q := 119) F dX8_laysRota_117 rfl kcRX8_90 ?_
  refine fr_icmp_ne (q := 122) (tgt := 126) F dX8_laysRota_119 (by decide) rfl (fun hc16 => ?_) (fun hc16 => ?_)
  · rw [if_neg hc16] at h
    refine fr_iconst (q := 127) (v := 0) F dX8_laysRota_126 rfl (by decide) ?_
    exact fr_wj (tX8_laysRota_127 F E H39 H47 h) ⟨rfl, ⟨rfl, ⟨rfl, ⟨rfl, ⟨rfl, ⟨rfl, trivial⟩⟩⟩⟩⟩⟩
  · rw [if_pos hc16] at h
    refine fr_iconst (q := 123) (v := 1) F dX8_laysRota_122 rfl (by decide) ?_
    refine fr_goto (tgt := 127) F dX8_laysRota_123 (by decide) ?_
    exact fr_wj (tX8_laysRota_127 F E H39 H47 h) ⟨rfl, ⟨rfl, ⟨rfl, ⟨rfl, ⟨rfl, ⟨rfl, trivial⟩⟩⟩⟩⟩⟩
theorem tX8_laysRota_47 {K : fr_K} {k39 : Int32 → Int32 → Int32 → fr_N → Option fr_N} {u0 : fr_N} {nz : fr_N} (F : fr_F YX8_laysRota K) (E : fr_R YX8_laysRota K none (u0, nz)) (H39 : ∀ (y1 : Int32) (y2 : Int32) (y3 : Int32) (n : fr_N), k39 y1 y2 y3 n = some nz → fr_V YX8_laysRota K 39 [some (.ref 52), some (.int y1), some (.int y2), some (.int y3), none, none] [] (u0, n)) : ∀ (k : Nat) (x1 : Int32) (x2 : Int32) (x3 : Int32) (x4 : Int32) (n0 : fr_N), fX8_laysRota_47 k39 k x1 x2 x3 x4 n0 = some nz → fr_V YX8_laysRota K 47 [some (.ref 52), some (.int x1), some (.int x2), some (.int x3), some (.int x4), none] [] (u0, n0) := by
  intro k
  induction k with
  | zero =>
    intro x1 x2 x3 x4 n0 h
    rw [fX8_laysRota_47] at h
    cases h
  | succ k ih =>
    intro x1 x2 x3 x4 n0 h
    rw [fX8_laysRota_47] at h
    refine fr_iload (q := 49) F dX8_laysRota_47 rfl rfl ?_
    refine fr_aload_n (q := 50) F dX8_laysRota_49 rfl rfl ?_
    refine fr_iload_n (q := 51) F dX8_laysRota_50 rfl rfl ?_
    obtain ⟨r17, hr18, h⟩ := fr_bd_some h
    refine fr_callV (q := 54) (M' := (u0, n0)) (rest := [.int x4]) (st' := [.int r17, .int x4]) F dX8_laysRota_51 rfl (tX8_servicesOf hr18) mlRX8_141 msX8_servicesOf ⟨Nat.le_of_ble_eq_true rfl, Nat.le_of_ble_eq_true rfl⟩ (by decide) rfl rfl rfl (Nat.le_of_ble_eq_true rfl) rfl ?_
    refine fr_icmp_ge (q := 57) (tgt := 166) F dX8_laysRota_54 (by decide) rfl (fun hc19 => ?_) (fun hc19 => ?_)
    · rw [if_pos hc19] at h
      refine fr_iinc (q := 169) (v := (x3 + (1 : Int32))) F dX8_laysRota_166 rfl rfl rfl (by decide) rfl ?_
      refine fr_goto (tgt := 39) F dX8_laysRota_169 (by decide) ?_
      exact fr_wj (H39 _ _ _ _ h) ⟨rfl, ⟨rfl, ⟨rfl, ⟨rfl, trivial⟩⟩⟩⟩
    · rw [if_neg hc19] at h
      refine fr_aload_n (q := 58) F dX8_laysRota_57 rfl rfl ?_
      refine fr_iload_n (q := 59) F dX8_laysRota_58 rfl rfl ?_
      refine fr_iload_n (q := 60) F dX8_laysRota_59 rfl rfl ?_
      refine fr_iload (q := 62) F dX8_laysRota_60 rfl rfl ?_
      refine fr_iconst (q := 63) (v := 1) F dX8_laysRota_62 rfl (by decide) ?_
      obtain ⟨r20, hr21, h⟩ := fr_bd_some h
      refine fr_callV (q := 66) (M' := (u0, n0)) (rest := []) (st' := [.int r20]) F dX8_laysRota_63 rfl (tX8_choose hr21) mlRX8_144 msX8_choose ⟨Nat.le_of_ble_eq_true rfl, Nat.le_of_ble_eq_true rfl⟩ (by decide) rfl rfl rfl (Nat.le_of_ble_eq_true rfl) rfl ?_
      refine fr_istore (q := 68) F dX8_laysRota_66 rfl (by decide) rfl ?_
      refine fr_iload (q := 70) F dX8_laysRota_68 rfl rfl ?_
      refine fr_ldc (q := 72) F dX8_laysRota_70 rfl kcRX8_90 ?_
      refine fr_icmp_ne (q := 75) (tgt := 87) F dX8_laysRota_72 (by decide) rfl (fun hc22 => ?_) (fun hc22 => ?_)
      · rw [if_neg hc22] at h
        refine fr_iload (q := 89) F dX8_laysRota_87 rfl rfl ?_
        exact fr_wj (tX8_laysRota_89 F E H39 ih h) ⟨rfl, ⟨rfl, ⟨rfl, ⟨rfl, ⟨rfl, trivial⟩⟩⟩⟩⟩
      · rw [if_pos hc22] at h
        refine fr_aload_n (q := 76) F dX8_laysRota_75 rfl rfl ?_
        refine fr_iload_n (q := 77) F dX8_laysRota_76 rfl rfl ?_
        refine fr_iload_n (q := 78) F dX8_laysRota_77 rfl rfl ?_
        refine fr_iload (q := 80) F dX8_laysRota_78 rfl rfl ?_
        refine fr_iconst (q := 81) (v := 0) F dX8_laysRota_80 rfl (by decide) ?_
        obtain ⟨r23, hr24, h⟩ := fr_bd_some h
        refine fr_callV (q := 84) (M' := (u0, n0)) (rest := []) (st' := [.int r23]) F dX8_laysRota_81 rfl (tX8_choose hr24) mlRX8_144 msX8_choose ⟨Nat.le_of_ble_eq_true rfl, Nat.le_of_ble_eq_true rfl⟩ (by decide) rfl rfl rfl (Nat.le_of_ble_eq_true rfl) rfl ?_
        refine fr_goto (tgt := 89) F dX8_laysRota_84 (by decide) ?_
        exact fr_wj (tX8_laysRota_89 F E H39 ih h) ⟨rfl, ⟨rfl, ⟨rfl, ⟨rfl, ⟨rfl, trivial⟩⟩⟩⟩⟩
theorem tX8_laysRota_39 {K : fr_K} {u0 : fr_N} {nz : fr_N} (F : fr_F YX8_laysRota K) (E : fr_R YX8_laysRota K none (u0, nz)) : ∀ (k : Nat) (x1 : Int32) (x2 : Int32) (x3 : Int32) (n0 : fr_N), fX8_laysRota_39 k x1 x2 x3 n0 = some nz → fr_V YX8_laysRota K 39 [some (.ref 52), some (.int x1), some (.int x2), some (.int x3), none, none] [] (u0, n0) := by
  intro k
  induction k with
  | zero =>
    intro x1 x2 x3 n0 h
    rw [fX8_laysRota_39] at h
    cases h
  | succ k ih =>
    intro x1 x2 x3 n0 h
    rw [fX8_laysRota_39] at h
    refine fr_iload_n (q := 40) F dX8_laysRota_39 rfl rfl ?_
    refine fr_iload_n (q := 41) F dX8_laysRota_40 rfl rfl ?_
    refine fr_icmp_gt (q := 44) (tgt := 172) F dX8_laysRota_41 (by decide) rfl (fun hc25 => ?_) (fun hc25 => ?_)
    · rw [if_pos hc25] at h
      obtain rfl := Option.some.inj h
      exact fr_vret F E rfl dX8_laysRota_172
    · rw [if_neg hc25] at h
      refine fr_iconst (q := 45) (v := 0) F dX8_laysRota_44 rfl (by decide) ?_
      refine fr_istore (q := 47) F dX8_laysRota_45 rfl (by decide) rfl ?_
      exact fr_wj (tX8_laysRota_47 F E ih _ _ _ _ _ _ h) ⟨rfl, ⟨rfl, ⟨rfl, ⟨rfl, ⟨rfl, trivial⟩⟩⟩⟩⟩
theorem tX8_laysRota_2 {K : fr_K} {u0 : fr_N} {nz : fr_N} (F : fr_F YX8_laysRota K) (E : fr_R YX8_laysRota K none (u0, nz)) : ∀ (k : Nat) (x1 : Int32) (x2 : Int32) (x3 : Int32) (n0 : fr_N), fX8_laysRota_2 k x1 x2 x3 n0 = some nz → fr_V YX8_laysRota K 2 [some (.ref 52), some (.int x1), some (.int x2), some (.int x3), none, none] [] (u0, n0) := by
  intro k
  induction k with
  | zero =>
    intro x1 x2 x3 n0 h
    rw [fX8_laysRota_2] at h
    cases h
  | succ k ih =>
    intro x1 x2 x3 n0 h
    rw [fX8_laysRota_2] at h
    refine fr_iload_n (q := 3) F dX8_laysRota_2 rfl rfl ?_
    refine fr_iconst (q := 4) (v := 5) F dX8_laysRota_3 rfl (by decide) ?_
    refine fr_icmp_ge (q := 7) (tgt := 27) F dX8_laysRota_4 (by decide) rfl (fun hc26 => ?_) (fun hc26 => ?_)
    · rw [if_pos hc26] at h
      refine fr_aload_n (q := 28) F dX8_laysRota_27 rfl rfl ?_
      refine fr_iconst (q := 29) (v := 0) F dX8_laysRota_28 rfl (by decide) ?_
      obtain ⟨n27, hn28, h⟩ := fr_lt_some h
      refine fr_pfI (q := 32) (M' := (u0, n27)) F dX8_laysRota_29 rfl fpRX8_135 (by decide) rfl rfl (congrArg (fun z => (u0, z)) hn28) ?_
      refine fr_aload_n (q := 33) F dX8_laysRota_32 rfl rfl ?_
      refine fr_iconst (q := 34) (v := 0) F dX8_laysRota_33 rfl (by decide) ?_
      obtain ⟨n29, hn30, h⟩ := fr_lt_some h
      refine fr_pfI (q := 37) (M' := (u0, n29)) F dX8_laysRota_34 rfl fpRX8_138 (by decide) rfl rfl (congrArg (fun z => (u0, z)) hn30) ?_
      refine fr_iconst (q := 38) (v := 1) F dX8_laysRota_37 rfl (by decide) ?_
      refine fr_istore_n (q := 39) F dX8_laysRota_38 rfl (by decide) rfl ?_
      exact fr_wj (tX8_laysRota_39 F E _ _ _ _ _ h) ⟨rfl, ⟨rfl, ⟨rfl, ⟨rfl, trivial⟩⟩⟩⟩
    · rw [if_neg hc26] at h
      refine fr_aload_n (q := 8) F dX8_laysRota_7 rfl rfl ?_
      refine fr_gfR (q := 11) (j := 64) F dX8_laysRota_8 rfl faRX8_44 (by decide) rfl rfl ?_
      refine fr_iload_n (q := 12) F dX8_laysRota_11 rfl rfl ?_
      refine fr_iconst (q := 13) (v := 0) F dX8_laysRota_12 rfl (by decide) ?_
      obtain ⟨hi31, h⟩ := fr_ck_some h
      obtain ⟨n32, hn33, h⟩ := fr_lt_some h
      refine fr_ias (q := 14) (M' := (u0, n32)) F dX8_laysRota_13 rfl hi31 (by decide) rfl (congrArg (fun z => (u0, z)) hn33) ?_
      refine fr_aload_n (q := 15) F dX8_laysRota_14 rfl rfl ?_
      refine fr_gfR (q := 18) (j := 65) F dX8_laysRota_15 rfl faRX8_47 (by decide) rfl rfl ?_
      refine fr_iload_n (q := 19) F dX8_laysRota_18 rfl rfl ?_
      refine fr_iconst (q := 20) (v := 0) F dX8_laysRota_19 rfl (by decide) ?_
      obtain ⟨hi34, h⟩ := fr_ck_some h
      obtain ⟨n35, hn36, h⟩ := fr_lt_some h
      refine fr_ias (q := 21) (M' := (u0, n35)) F dX8_laysRota_20 rfl hi34 (by decide) rfl (congrArg (fun z => (u0, z)) hn36) ?_
      refine fr_iinc (q := 24) (v := (x3 + (1 : Int32))) F dX8_laysRota_21 rfl rfl rfl (by decide) rfl ?_
      refine fr_goto (tgt := 2) F dX8_laysRota_24 (by decide) ?_
      exact fr_wj (ih _ _ _ _ h) ⟨rfl, ⟨rfl, ⟨rfl, ⟨rfl, trivial⟩⟩⟩⟩
theorem tX8_laysRota {l : Launch} {G : fr_G} {u0 : fr_N} {a1 : Int32} {a2 : Int32} {n0 : fr_N} {nz : fr_N} (h : fX8_laysRota a1 a2 n0 = some nz) : fr_Met l G YX8_laysRota [.ref 52, .int a1, .int a2] (u0, n0) none (u0, nz) := by
  refine fr_met (pad := List.replicate 3 none) (by decide) (Nat.le_of_ble_eq_true rfl) (fun _ h => List.eq_of_mem_replicate h) ⟨rfl, rfl⟩ (fun K F hG hL E => ?_)
  subst hG; subst hL
  rw [fX8_laysRota] at h
  show fr_V YX8_laysRota K 0 [some (.ref 52), some (.int a1), some (.int a2), none, none, none] [] (u0, n0)
  refine fr_iconst (q := 1) (v := 0) F dX8_laysRota_0 rfl (by decide) ?_
  refine fr_istore_n (q := 2) F dX8_laysRota_1 rfl (by decide) rfl ?_
  exact fr_wj (tX8_laysRota_2 F E _ _ _ _ _ h) ⟨rfl, ⟨rfl, ⟨rfl, ⟨rfl, trivial⟩⟩⟩⟩
/-! FeastRotaModel.isHeld (52, None) -/
def fX8_isHeld (a1 : Int32) (n0 : fr_N) : Option Bool := fr_ck a1 12 (if (n0 9 (Int32.toNatClampNeg a1)) = (1 : Int32) then some true else fr_ck a1 12 (if (n0 9 (Int32.toNatClampNeg a1)) = (2 : Int32) then some true else some false))
theorem tX8_isHeld {l : Launch} {G : fr_G} {u0 : fr_N} {a1 : Int32} {n0 : fr_N} {rz : Bool} (h : fX8_isHeld a1 n0 = some rz) : fr_Met l G YX8_isHeld [.ref 52, .int a1] (u0, n0) (some (.int (fr_b rz))) (u0, n0) := by
  refine fr_met (pad := List.replicate 0 none) (by decide) (Nat.le_of_ble_eq_true rfl) (fun _ h => List.eq_of_mem_replicate h) ⟨rfl, rfl⟩ (fun K F hG hL E => ?_)
  subst hG; subst hL
  rw [fX8_isHeld] at h
  show fr_V YX8_isHeld K 0 [some (.ref 52), some (.int a1)] [] (u0, n0)
  refine fr_aload_n (q := 1) F dX8_isHeld_0 rfl rfl ?_
  refine fr_gfR (q := 4) (j := 61) F dX8_isHeld_1 rfl faRX8_35 (by decide) rfl rfl ?_
  refine fr_iload_n (q := 5) F dX8_isHeld_4 rfl rfl ?_
  obtain ⟨hi1, h⟩ := fr_ck_some h
  refine fr_ial (q := 6) (x := (n0 9 (Int32.toNatClampNeg a1))) F dX8_isHeld_5 rfl hi1 (by decide) rfl rfl ?_
  refine fr_iconst (q := 7) (v := 1) F dX8_isHeld_6 rfl (by decide) ?_
  refine fr_icmp_eq (q := 10) (tgt := 20) F dX8_isHeld_7 (by decide) rfl (fun hc2 => ?_) (fun hc2 => ?_)
  · rw [if_pos hc2] at h
    refine fr_iconst (q := 21) (v := 1) F dX8_isHeld_20 rfl (by decide) ?_
    refine fr_goto (tgt := 25) F dX8_isHeld_21 (by decide) ?_
    obtain rfl := Option.some.inj h
    exact fr_zret F E rfl dX8_isHeld_25
  · rw [if_neg hc2] at h
    refine fr_aload_n (q := 11) F dX8_isHeld_10 rfl rfl ?_
    refine fr_gfR (q := 14) (j := 61) F dX8_isHeld_11 rfl faRX8_35 (by decide) rfl rfl ?_
    refine fr_iload_n (q := 15) F dX8_isHeld_14 rfl rfl ?_
    obtain ⟨hi3, h⟩ := fr_ck_some h
    refine fr_ial (q := 16) (x := (n0 9 (Int32.toNatClampNeg a1))) F dX8_isHeld_15 rfl hi3 (by decide) rfl rfl ?_
    refine fr_iconst (q := 17) (v := 2) F dX8_isHeld_16 rfl (by decide) ?_
    refine fr_icmp_ne (q := 20) (tgt := 24) F dX8_isHeld_17 (by decide) rfl (fun hc4 => ?_) (fun hc4 => ?_)
    · rw [if_neg hc4] at h
      refine fr_iconst (q := 25) (v := 0) F dX8_isHeld_24 rfl (by decide) ?_
      obtain rfl := Option.some.inj h
      exact fr_zret F E rfl dX8_isHeld_25
    · rw [if_pos hc4] at h
      refine fr_iconst (q := 21) (v := 1) F dX8_isHeld_20 rfl (by decide) ?_
      refine fr_goto (tgt := 25) F dX8_isHeld_21 (by decide) ?_
      obtain rfl := Option.some.inj h
      exact fr_zret F E rfl dX8_isHeld_25
/-! FeastRotaModel.manyHeld (52, None) -/
def fX8_manyHeld_41 (k4 : Bool → Int32 → Int32 → Option Int32) (n0 : fr_N) (x1 : Bool) (x3 : Int32) (s0 : Int32) : Option Int32 := k4 x1 (s0 + (1 : Int32)) (x3 + (1 : Int32))
def fX8_manyHeld_4 (n0 : fr_N) : Nat → Bool → Int32 → Int32 → Option Int32
  | 0, _, _, _ => none
  | k + 1, x1, x2, x3 => if (n0 1 6) ≤ x3 then some x2 else if x1 = true then fr_ck x3 12 (if (n0 9 (Int32.toNatClampNeg x3)) = (3 : Int32) then fX8_manyHeld_41 (fX8_manyHeld_4 n0 k) n0 x1 x3 x2 else (fX8_manyHeld_4 n0 k) x1 (x2 + (0 : Int32)) (x3 + (1 : Int32))) else fr_bd (fX8_isHeld x3 n0) fun r3 => (if r3 = true then fX8_manyHeld_41 (fX8_manyHeld_4 n0 k) n0 x1 x3 x2 else (fX8_manyHeld_4 n0 k) x1 (x2 + (0 : Int32)) (x3 + (1 : Int32)))
def fX8_manyHeld (a1 : Bool) (n0 : fr_N) : Option Int32 := fX8_manyHeld_4 n0 2000 a1 (0 : Int32) (0 : Int32)
theorem tX8_manyHeld_41 {K : fr_K} {k4 : Bool → Int32 → Int32 → Option Int32} {u0 : fr_N} {n0 : fr_N} {rz : Int32} (F : fr_F YX8_manyHeld K) (E : fr_R YX8_manyHeld K (some (.int rz)) (u0, n0)) (H4 : ∀ (y1 : Bool) (y2 : Int32) (y3 : Int32), k4 y1 y2 y3 = some rz → fr_V YX8_manyHeld K 4 [some (.ref 52), some (.int (fr_b y1)), some (.int y2), some (.int y3)] [] (u0, n0)) {x1 : Bool} {x3 : Int32} {s0 : Int32} (h : fX8_manyHeld_41 k4 n0 x1 x3 s0 = some rz) : fr_V YX8_manyHeld K 41 [some (.ref 52), some (.int (fr_b x1)), none, some (.int x3)] [.int s0] (u0, n0) := by
  rw [fX8_manyHeld_41] at h
  refine fr_iconst (q := 42) (v := 1) F dX8_manyHeld_41 rfl (by decide) ?_
  refine fr_goto (tgt := 46) F dX8_manyHeld_42 (by decide) ?_
  refine fr_iadd (q := 47) F dX8_manyHeld_46 rfl ?_
  refine fr_istore_n (q := 48) F dX8_manyHeld_47 rfl (by decide) rfl ?_
  refine fr_iinc (q := 51) (v := (x3 + (1 : Int32))) F dX8_manyHeld_48 rfl rfl rfl (by decide) rfl ?_
  refine fr_goto (tgt := 4) F dX8_manyHeld_51 (by decide) ?_
  exact fr_wj (H4 _ _ _ h) ⟨rfl, ⟨rfl, ⟨rfl, ⟨rfl, trivial⟩⟩⟩⟩
theorem tX8_manyHeld_4 {K : fr_K} {u0 : fr_N} {n0 : fr_N} {rz : Int32} (F : fr_F YX8_manyHeld K) (E : fr_R YX8_manyHeld K (some (.int rz)) (u0, n0)) : ∀ (k : Nat) (x1 : Bool) (x2 : Int32) (x3 : Int32), fX8_manyHeld_4 n0 k x1 x2 x3 = some rz → fr_V YX8_manyHeld K 4 [some (.ref 52), some (.int (fr_b x1)), some (.int x2), some (.int x3)] [] (u0, n0) := by
  intro k
  induction k with
  | zero =>
    intro x1 x2 x3 h
    rw [fX8_manyHeld_4] at h
    cases h
  | succ k ih =>
    intro x1 x2 x3 h
    rw [fX8_manyHeld_4] at h
    refine fr_iload_n (q := 5) F dX8_manyHeld_4 rfl rfl ?_
    refine fr_aload_n (q := 6) F dX8_manyHeld_5 rfl rfl ?_
    refine fr_gfR (q := 9) (j := 53) F dX8_manyHeld_6 rfl faRX8_7 (by decide) rfl rfl ?_
    refine fr_bipush (q := 11) (v := 6) F dX8_manyHeld_9 rfl (by decide) ?_
    refine fr_ial (q := 12) (x := (n0 1 6)) F dX8_manyHeld_11 rfl (fr_vin rfl) (by decide) rfl rfl ?_
    refine fr_icmp_ge (q := 15) (tgt := 54) F dX8_manyHeld_12 (by decide) rfl (fun hc1 => ?_) (fun hc1 => ?_)
    · rw [if_pos hc1] at h
      refine fr_iload_n (q := 55) F dX8_manyHeld_54 rfl rfl ?_
      obtain rfl := Option.some.inj h
      exact fr_iret F E rfl dX8_manyHeld_55
    · rw [if_neg hc1] at h
      refine fr_iload_n (q := 16) F dX8_manyHeld_15 rfl rfl ?_
      refine fr_iload_n (q := 17) F dX8_manyHeld_16 rfl rfl ?_
      refine fr_if_eqb (q := 20) (tgt := 33) F dX8_manyHeld_17 (by decide) rfl (fun hc2 => ?_) (fun hc2 => ?_)
      · rw [if_neg hc2] at h
        refine fr_aload_n (q := 34) F dX8_manyHeld_33 rfl rfl ?_
        refine fr_iload_n (q := 35) F dX8_manyHeld_34 rfl rfl ?_
        obtain ⟨r3, hr4, h⟩ := fr_bd_some h
        refine fr_callV (q := 38) (M' := (u0, n0)) (rest := [.int x2]) (st' := [.int (fr_b r3), .int x2]) F dX8_manyHeld_35 rfl (tX8_isHeld hr4) mlRX8_119 msX8_isHeld ⟨Nat.le_of_ble_eq_true rfl, Nat.le_of_ble_eq_true rfl⟩ (by decide) rfl rfl rfl (Nat.le_of_ble_eq_true rfl) rfl ?_
        refine fr_if_eqb (q := 41) (tgt := 45) F dX8_manyHeld_38 (by decide) rfl (fun hc5 => ?_) (fun hc5 => ?_)
        · rw [if_neg hc5] at h
          refine fr_iconst (q := 46) (v := 0) F dX8_manyHeld_45 rfl (by decide) ?_
          refine fr_iadd (q := 47) F dX8_manyHeld_46 rfl ?_
          refine fr_istore_n (q := 48) F dX8_manyHeld_47 rfl (by decide) rfl ?_
          refine fr_iinc (q := 51) (v := (x3 + (1 : Int32))) F dX8_manyHeld_48 rfl rfl rfl (by decide) rfl ?_
          refine fr_goto (tgt := 4) F dX8_manyHeld_51 (by decide) ?_
          exact fr_wj (ih _ _ _ h) ⟨rfl, ⟨rfl, ⟨rfl, ⟨rfl, trivial⟩⟩⟩⟩
        · rw [if_pos hc5] at h
          exact fr_wj (tX8_manyHeld_41 F E ih h) ⟨rfl, ⟨rfl, ⟨rfl, trivial⟩⟩⟩
      · rw [if_pos hc2] at h
        refine fr_aload_n (q := 21) F dX8_manyHeld_20 rfl rfl ?_
        refine fr_gfR (q := 24) (j := 61) F dX8_manyHeld_21 rfl faRX8_35 (by decide) rfl rfl ?_
        refine fr_iload_n (q := 25) F dX8_manyHeld_24 rfl rfl ?_
        obtain ⟨hi6, h⟩ := fr_ck_some h
        refine fr_ial (q := 26) (x := (n0 9 (Int32.toNatClampNeg x3))) F dX8_manyHeld_25 rfl hi6 (by decide) rfl rfl ?_
        refine fr_iconst (q := 27) (v := 3) F dX8_manyHeld_26 rfl (by decide) ?_
        refine fr_icmp_ne (q := 30) (tgt := 45) F dX8_manyHeld_27 (by decide) rfl (fun hc7 => ?_) (fun hc7 => ?_)
        · rw [if_neg hc7] at h
          refine fr_iconst (q := 46) (v := 0) F dX8_manyHeld_45 rfl (by decide) ?_
          refine fr_iadd (q := 47) F dX8_manyHeld_46 rfl ?_
          refine fr_istore_n (q := 48) F dX8_manyHeld_47 rfl (by decide) rfl ?_
          refine fr_iinc (q := 51) (v := (x3 + (1 : Int32))) F dX8_manyHeld_48 rfl rfl rfl (by decide) rfl ?_
          refine fr_goto (tgt := 4) F dX8_manyHeld_51 (by decide) ?_
          exact fr_wj (ih _ _ _ h) ⟨rfl, ⟨rfl, ⟨rfl, ⟨rfl, trivial⟩⟩⟩⟩
        · rw [if_pos hc7] at h
          refine fr_goto (tgt := 41) F dX8_manyHeld_30 (by decide) ?_
          exact fr_wj (tX8_manyHeld_41 F E ih h) ⟨rfl, ⟨rfl, ⟨rfl, trivial⟩⟩⟩
theorem tX8_manyHeld {l : Launch} {G : fr_G} {u0 : fr_N} {a1 : Bool} {n0 : fr_N} {rz : Int32} (h : fX8_manyHeld a1 n0 = some rz) : fr_Met l G YX8_manyHeld [.ref 52, .int (fr_b a1)] (u0, n0) (some (.int rz)) (u0, n0) := by
  refine fr_met (pad := List.replicate 2 none) (by decide) (Nat.le_of_ble_eq_true rfl) (fun _ h => List.eq_of_mem_replicate h) ⟨rfl, rfl⟩ (fun K F hG hL E => ?_)
  subst hG; subst hL
  rw [fX8_manyHeld] at h
  show fr_V YX8_manyHeld K 0 [some (.ref 52), some (.int (fr_b a1)), none, none] [] (u0, n0)
  refine fr_iconst (q := 1) (v := 0) F dX8_manyHeld_0 rfl (by decide) ?_
  refine fr_istore_n (q := 2) F dX8_manyHeld_1 rfl (by decide) rfl ?_
  refine fr_iconst (q := 3) (v := 0) F dX8_manyHeld_2 rfl (by decide) ?_
  refine fr_istore_n (q := 4) F dX8_manyHeld_3 rfl (by decide) rfl ?_
  exact fr_wj (tX8_manyHeld_4 F E _ _ _ _ h) ⟨rfl, ⟨rfl, ⟨rfl, ⟨rfl, trivial⟩⟩⟩⟩
/-! FeastRotaModel.sundays (52,) -/
def fX8_sundays_4 (n0 : fr_N) : Nat → Int32 → Int32 → Option Int32
  | 0, _, _ => none
  | k + 1, x1, x2 => if (n0 0 20) < x2 then some x1 else fr_bd (fX8_weekdayOf x2 n0) fun r2 => (if r2 = 0 then (fX8_sundays_4 n0 k) (x1 + (1 : Int32)) (x2 + (1 : Int32)) else (fX8_sundays_4 n0 k) (x1 + (0 : Int32)) (x2 + (1 : Int32)))
def fX8_sundays (n0 : fr_N) : Option Int32 := fX8_sundays_4 n0 2000 (0 : Int32) (1 : Int32)
theorem tX8_sundays_4 {K : fr_K} {u0 : fr_N} {n0 : fr_N} {rz : Int32} (F : fr_F YX8_sundays K) (E : fr_R YX8_sundays K (some (.int rz)) (u0, n0)) : ∀ (k : Nat) (x1 : Int32) (x2 : Int32), fX8_sundays_4 n0 k x1 x2 = some rz → fr_V YX8_sundays K 4 [some (.ref 52), some (.int x1), some (.int x2)] [] (u0, n0) := by
  intro k
  induction k with
  | zero =>
    intro x1 x2 h
    rw [fX8_sundays_4] at h
    cases h
  | succ k ih =>
    intro x1 x2 h
    rw [fX8_sundays_4] at h
    refine fr_iload_n (q := 5) F dX8_sundays_4 rfl rfl ?_
    refine fr_aload_n (q := 6) F dX8_sundays_5 rfl rfl ?_
    refine fr_gfI (q := 9) (x := (n0 0 20)) F dX8_sundays_6 rfl faRX8_71 (by decide) rfl rfl rfl ?_
    refine fr_icmp_gt (q := 12) (tgt := 34) F dX8_sundays_9 (by decide) rfl (fun hc1 => ?_) (fun hc1 => ?_)
    · rw [if_pos hc1] at h
      refine fr_iload_n (q := 35) F dX8_sundays_34 rfl rfl ?_
      obtain rfl := Option.some.inj h
      exact fr_iret F E rfl dX8_sundays_35
    · rw [if_neg hc1] at h
      refine fr_iload_n (q := 13) F dX8_sundays_12 rfl rfl ?_
      refine fr_aload_n (q := 14) F dX8_sundays_13 rfl rfl ?_
      refine fr_iload_n (q := 15) F dX8_sundays_14 rfl rfl ?_
      obtain ⟨r2, hr3, h⟩ := fr_bd_some h
      refine fr_callV (q := 18) (M' := (u0, n0)) (rest := [.int x1]) (st' := [.int r2, .int x1]) F dX8_sundays_15 rfl (tX8_weekdayOf hr3) mlRX8_67 msX8_weekdayOf ⟨Nat.le_of_ble_eq_true rfl, Nat.le_of_ble_eq_true rfl⟩ (by decide) rfl rfl rfl (Nat.le_of_ble_eq_true rfl) rfl ?_
      refine fr_if_ne (q := 21) (tgt := 25) F dX8_sundays_18 (by decide) rfl (fun hc4 => ?_) (fun hc4 => ?_)
      · rw [if_neg hc4] at h
        refine fr_iconst (q := 26) (v := 0) F dX8_sundays_25 rfl (by decide) ?_
        refine fr_iadd (q := 27) F dX8_sundays_26 rfl ?_
        refine fr_istore_n (q := 28) F dX8_sundays_27 rfl (by decide) rfl ?_
        refine fr_iinc (q := 31) (v := (x2 + (1 : Int32))) F dX8_sundays_28 rfl rfl rfl (by decide) rfl ?_
        refine fr_goto (tgt := 4) F dX8_sundays_31 (by decide) ?_
        exact fr_wj (ih _ _ h) ⟨rfl, ⟨rfl, ⟨rfl, trivial⟩⟩⟩
      · rw [if_pos hc4] at h
        refine fr_iconst (q := 22) (v := 1) F dX8_sundays_21 rfl (by decide) ?_
        refine fr_goto (tgt := 26) F dX8_sundays_22 (by decide) ?_
        refine fr_iadd (q := 27) F dX8_sundays_26 rfl ?_
        refine fr_istore_n (q := 28) F dX8_sundays_27 rfl (by decide) rfl ?_
        refine fr_iinc (q := 31) (v := (x2 + (1 : Int32))) F dX8_sundays_28 rfl rfl rfl (by decide) rfl ?_
        refine fr_goto (tgt := 4) F dX8_sundays_31 (by decide) ?_
        exact fr_wj (ih _ _ h) ⟨rfl, ⟨rfl, ⟨rfl, trivial⟩⟩⟩
theorem tX8_sundays {l : Launch} {G : fr_G} {u0 : fr_N} {n0 : fr_N} {rz : Int32} (h : fX8_sundays n0 = some rz) : fr_Met l G YX8_sundays [.ref 52] (u0, n0) (some (.int rz)) (u0, n0) := by
  refine fr_met (pad := List.replicate 2 none) (by decide) (Nat.le_of_ble_eq_true rfl) (fun _ h => List.eq_of_mem_replicate h) ⟨rfl, rfl⟩ (fun K F hG hL E => ?_)
  subst hG; subst hL
  rw [fX8_sundays] at h
  show fr_V YX8_sundays K 0 [some (.ref 52), none, none] [] (u0, n0)
  refine fr_iconst (q := 1) (v := 0) F dX8_sundays_0 rfl (by decide) ?_
  refine fr_istore_n (q := 2) F dX8_sundays_1 rfl (by decide) rfl ?_
  refine fr_iconst (q := 3) (v := 1) F dX8_sundays_2 rfl (by decide) ?_
  refine fr_istore_n (q := 4) F dX8_sundays_3 rfl (by decide) rfl ?_
  exact fr_wj (tX8_sundays_4 F E _ _ _ h) ⟨rfl, ⟨rfl, ⟨rfl, trivial⟩⟩⟩
/-! FeastRotaModel.year (52, None, None) -/
def fX8_year (a1 : Int32) (a2 : Int32) (n0 : fr_N) : Option (Int32 × fr_N) := fr_bd (fX8_isBook n0) fun r1 => (if r1 = true then fr_bd (fX8_isYear a1) fun r4 => (if r4 = true then fr_bd (fX8_in (Int32.toInt64 a2) (0 : Int64) (8 : Int64)) fun r7 => (if r7 = true then fr_bd (fX8_lays a1 (-1000000 : Int32) n0) fun n12 => (if a2 = (0 : Int32) then some ((n12 0 20), n12) else (if a2 = (1 : Int32) then some ((n12 0 21), n12) else (if a2 = (2 : Int32) then fr_bd (fX8_moon a1 n12) fun r16 => (some (r16, n12)) else (if a2 = (3 : Int32) then fr_bd (fX8_spring a1 n12) fun r19 => (some (r19, n12)) else (if a2 = (4 : Int32) then fr_bd (fX8_sundays n12) fun r22 => (some (r22, n12)) else (if a2 = (5 : Int32) then fr_bd (fX8_manyHeld false n12) fun r25 => (some (r25, n12)) else (if a2 = (6 : Int32) then fr_bd (fX8_manyHeld true n12) fun r28 => (some (r28, n12)) else (fr_bd (fX8_laysRota (n12 1 5) (n12 0 20) n12) fun n32 => (if a2 = (7 : Int32) then some ((n32 0 25), n32) else some ((n32 0 26), n32)))))))))) else some ((-1000001 : Int32), n0)) else some ((-1000001 : Int32), n0)) else some ((-1000002 : Int32), n0))
theorem tX8_year {l : Launch} {G : fr_G} {u0 : fr_N} {a1 : Int32} {a2 : Int32} {n0 : fr_N} {rz : Int32} {nz : fr_N} (h : fX8_year a1 a2 n0 = some (rz, nz)) : fr_Met l G YX8_year [.ref 52, .int a1, .int a2] (u0, n0) (some (.int rz)) (u0, nz) := by
  refine fr_met (pad := List.replicate 0 none) (by decide) (Nat.le_of_ble_eq_true rfl) (fun _ h => List.eq_of_mem_replicate h) ⟨rfl, rfl⟩ (fun K F hG hL E => ?_)
  subst hG; subst hL
  rw [fX8_year] at h
  show fr_V YX8_year K 0 [some (.ref 52), some (.int a1), some (.int a2)] [] (u0, n0)
  refine fr_aload_n (q := 1) F dX8_year_0 rfl rfl ?_
  obtain ⟨r1, hr2, h⟩ := fr_bd_some h
  refine fr_callV (q := 4) (M' := (u0, n0)) (rest := []) (st' := [.int (fr_b r1)]) F dX8_year_1 rfl (tX8_isBook hr2) mlRX8_261 msX8_isBook ⟨Nat.le_of_ble_eq_true rfl, Nat.le_of_ble_eq_true rfl⟩ (by decide) rfl rfl rfl (Nat.le_of_ble_eq_true rfl) rfl ?_
  refine fr_if_neb (q := 7) (tgt := 10) F dX8_year_4 (by decide) rfl (fun hc3 => ?_) (fun hc3 => ?_)
  · rw [if_pos hc3] at h
    refine fr_iload_n (q := 11) F dX8_year_10 rfl rfl ?_
    obtain ⟨r4, hr5, h⟩ := fr_bd_some h
    refine fr_callS (q := 14) (M' := (u0, n0)) (rest := []) (st' := [.int (fr_b r4)]) F dX8_year_11 rfl (tX8_isYear hr5) mlRX8_283 msX8_isYear ⟨Nat.le_of_ble_eq_true rfl, Nat.le_of_ble_eq_true rfl⟩ rfl rfl (Nat.le_of_ble_eq_true rfl) rfl ?_
    refine fr_if_eqb (q := 17) (tgt := 29) F dX8_year_14 (by decide) rfl (fun hc6 => ?_) (fun hc6 => ?_)
    · rw [if_neg hc6] at h
      refine fr_ldc (q := 31) F dX8_year_29 rfl kcRX8_209 ?_
      obtain ⟨rfl, rfl⟩ := Prod.mk.inj (Option.some.inj h)
      exact fr_iret F E rfl dX8_year_31
    · rw [if_pos hc6] at h
      refine fr_iload_n (q := 18) F dX8_year_17 rfl rfl ?_
      refine fr_i2l (q := 19) F dX8_year_18 rfl ?_
      refine fr_lconst (q := 20) (v := 0) F dX8_year_19 rfl (by decide) ?_
      refine fr_ldc2 (q := 23) F dX8_year_20 rfl klRX8_286 ?_
      obtain ⟨r7, hr8, h⟩ := fr_bd_some h
      refine fr_callS (q := 26) (M' := (u0, n0)) (rest := []) (st' := [.int (fr_b r7)]) F dX8_year_23 rfl (tX8_in hr8) mlRX8_55 msX8_in ⟨Nat.le_of_ble_eq_true rfl, Nat.le_of_ble_eq_true rfl⟩ rfl rfl (Nat.le_of_ble_eq_true rfl) rfl ?_
      refine fr_if_neb (q := 29) (tgt := 32) F dX8_year_26 (by decide) rfl (fun hc9 => ?_) (fun hc9 => ?_)
      · rw [if_pos hc9] at h
        refine fr_aload_n (q := 33) F dX8_year_32 rfl rfl ?_
        refine fr_iload_n (q := 34) F dX8_year_33 rfl rfl ?_
        refine fr_ldc (q := 36) F dX8_year_34 rfl kcRX8_90 ?_
        obtain ⟨n12, hr11, h⟩ := fr_bd_some h
        refine fr_callV (q := 39) (M' := (u0, n12)) (rest := []) (st' := []) F dX8_year_36 rfl (tX8_lays hr11) mlRX8_288 msX8_lays ⟨Nat.le_of_ble_eq_true rfl, Nat.le_of_ble_eq_true rfl⟩ (by decide) rfl rfl rfl (Nat.le_of_ble_eq_true rfl) rfl ?_
        refine fr_iload_n (q := 40) F dX8_year_39 rfl rfl ?_
        by_cases hc13 : a2 = (0 : Int32)
        · rw [if_pos hc13] at h
          refine fr_tswI (k := 0) (off := 44) (tgt := 84) F hc13 dX8_year_40 (by decide) (by decide) (by decide) (by decide) ?_
          refine fr_aload_n (q := 85) F dX8_year_84 rfl rfl ?_
          refine fr_gfI (q := 88) (x := (n12 0 20)) F dX8_year_85 rfl faRX8_71 (by decide) rfl rfl rfl ?_
          obtain ⟨rfl, rfl⟩ := Prod.mk.inj (Option.some.inj h)
          exact fr_iret F E rfl dX8_year_88
        · rw [if_neg hc13] at h
          by_cases hc14 : a2 = (1 : Int32)
          · rw [if_pos hc14] at h
            refine fr_tswI (k := 1) (off := 49) (tgt := 89) F hc14 dX8_year_40 (by decide) (by decide) (by decide) (by decide) ?_
            refine fr_aload_n (q := 90) F dX8_year_89 rfl rfl ?_
            refine fr_gfI (q := 93) (x := (n12 0 21)) F dX8_year_90 rfl faRX8_63 (by decide) rfl rfl rfl ?_
            obtain ⟨rfl, rfl⟩ := Prod.mk.inj (Option.some.inj h)
            exact fr_iret F E rfl dX8_year_93
          · rw [if_neg hc14] at h
            by_cases hc15 : a2 = (2 : Int32)
            · rw [if_pos hc15] at h
              refine fr_tswI (k := 2) (off := 54) (tgt := 94) F hc15 dX8_year_40 (by decide) (by decide) (by decide) (by decide) ?_
              refine fr_aload_n (q := 95) F dX8_year_94 rfl rfl ?_
              refine fr_iload_n (q := 96) F dX8_year_95 rfl rfl ?_
              obtain ⟨r16, hr17, h⟩ := fr_bd_some h
              refine fr_callV (q := 99) (M' := (u0, n12)) (rest := []) (st' := [.int r16]) F dX8_year_96 rfl (tX8_moon hr17) mlRX8_78 msX8_moon ⟨Nat.le_of_ble_eq_true rfl, Nat.le_of_ble_eq_true rfl⟩ (by decide) rfl rfl rfl (Nat.le_of_ble_eq_true rfl) rfl ?_
              obtain ⟨rfl, rfl⟩ := Prod.mk.inj (Option.some.inj h)
              exact fr_iret F E rfl dX8_year_99
            · rw [if_neg hc15] at h
              by_cases hc18 : a2 = (3 : Int32)
              · rw [if_pos hc18] at h
                refine fr_tswI (k := 3) (off := 60) (tgt := 100) F hc18 dX8_year_40 (by decide) (by decide) (by decide) (by decide) ?_
                refine fr_aload_n (q := 101) F dX8_year_100 rfl rfl ?_
                refine fr_iload_n (q := 102) F dX8_year_101 rfl rfl ?_
                obtain ⟨r19, hr20, h⟩ := fr_bd_some h
                refine fr_callV (q := 105) (M' := (u0, n12)) (rest := []) (st' := [.int r19]) F dX8_year_102 rfl (tX8_spring hr20) mlRX8_87 msX8_spring ⟨Nat.le_of_ble_eq_true rfl, Nat.le_of_ble_eq_true rfl⟩ (by decide) rfl rfl rfl (Nat.le_of_ble_eq_true rfl) rfl ?_
                obtain ⟨rfl, rfl⟩ := Prod.mk.inj (Option.some.inj h)
                exact fr_iret F E rfl dX8_year_105
              · rw [if_neg hc18] at h
                by_cases hc21 : a2 = (4 : Int32)
                · rw [if_pos hc21] at h
                  refine fr_tswI (k := 4) (off := 66) (tgt := 106) F hc21 dX8_year_40 (by decide) (by decide) (by decide) (by decide) ?_
                  refine fr_aload_n (q := 107) F dX8_year_106 rfl rfl ?_
                  obtain ⟨r22, hr23, h⟩ := fr_bd_some h
                  refine fr_callV (q := 110) (M' := (u0, n12)) (rest := []) (st' := [.int r22]) F dX8_year_107 rfl (tX8_sundays hr23) mlRX8_291 msX8_sundays ⟨Nat.le_of_ble_eq_true rfl, Nat.le_of_ble_eq_true rfl⟩ (by decide) rfl rfl rfl (Nat.le_of_ble_eq_true rfl) rfl ?_
                  obtain ⟨rfl, rfl⟩ := Prod.mk.inj (Option.some.inj h)
                  exact fr_iret F E rfl dX8_year_110
                · rw [if_neg hc21] at h
                  by_cases hc24 : a2 = (5 : Int32)
                  · rw [if_pos hc24] at h
                    refine fr_tswI (k := 5) (off := 71) (tgt := 111) F hc24 dX8_year_40 (by decide) (by decide) (by decide) (by decide) ?_
                    refine fr_aload_n (q := 112) F dX8_year_111 rfl rfl ?_
                    refine fr_iconst (q := 113) (v := 0) F dX8_year_112 rfl (by decide) ?_
                    obtain ⟨r25, hr26, h⟩ := fr_bd_some h
                    refine fr_callV (q := 116) (M' := (u0, n12)) (rest := []) (st' := [.int r25]) F dX8_year_113 rfl (tX8_manyHeld hr26) mlRX8_294 msX8_manyHeld ⟨Nat.le_of_ble_eq_true rfl, Nat.le_of_ble_eq_true rfl⟩ (by decide) rfl rfl rfl (Nat.le_of_ble_eq_true rfl) rfl ?_
                    obtain ⟨rfl, rfl⟩ := Prod.mk.inj (Option.some.inj h)
                    exact fr_iret F E rfl dX8_year_116
                  · rw [if_neg hc24] at h
                    by_cases hc27 : a2 = (6 : Int32)
                    · rw [if_pos hc27] at h
                      refine fr_tswI (k := 6) (off := 77) (tgt := 117) F hc27 dX8_year_40 (by decide) (by decide) (by decide) (by decide) ?_
                      refine fr_aload_n (q := 118) F dX8_year_117 rfl rfl ?_
                      refine fr_iconst (q := 119) (v := 1) F dX8_year_118 rfl (by decide) ?_
                      obtain ⟨r28, hr29, h⟩ := fr_bd_some h
                      refine fr_callV (q := 122) (M' := (u0, n12)) (rest := []) (st' := [.int r28]) F dX8_year_119 rfl (tX8_manyHeld hr29) mlRX8_294 msX8_manyHeld ⟨Nat.le_of_ble_eq_true rfl, Nat.le_of_ble_eq_true rfl⟩ (by decide) rfl rfl rfl (Nat.le_of_ble_eq_true rfl) rfl ?_
                      obtain ⟨rfl, rfl⟩ := Prod.mk.inj (Option.some.inj h)
                      exact fr_iret F E rfl dX8_year_122
                    · rw [if_neg hc27] at h
                      refine fr_tswO (tgt := 123) F dX8_year_40 (fr_out (n := 6) (by decide) (fun k hk => match k, hk with | 0, _ => hc13 | 1, _ => hc14 | 2, _ => hc15 | 3, _ => hc18 | 4, _ => hc21 | 5, _ => hc24 | 6, _ => hc27 | k + 7, hk => absurd hk (by omega))) (by decide) ?_
                      refine fr_aload_n (q := 124) F dX8_year_123 rfl rfl ?_
                      refine fr_aload_n (q := 125) F dX8_year_124 rfl rfl ?_
                      refine fr_gfR (q := 128) (j := 53) F dX8_year_125 rfl faRX8_7 (by decide) rfl rfl ?_
                      refine fr_iconst (q := 129) (v := 5) F dX8_year_128 rfl (by decide) ?_
                      refine fr_ial (q := 130) (x := (n12 1 5)) F dX8_year_129 rfl (fr_vin rfl) (by decide) rfl rfl ?_
                      refine fr_aload_n (q := 131) F dX8_year_130 rfl rfl ?_
                      refine fr_gfI (q := 134) (x := (n12 0 20)) F dX8_year_131 rfl faRX8_71 (by decide) rfl rfl rfl ?_
                      obtain ⟨n32, hr31, h⟩ := fr_bd_some h
                      refine fr_callV (q := 137) (M' := (u0, n32)) (rest := []) (st' := []) F dX8_year_134 rfl (tX8_laysRota hr31) mlRX8_148 msX8_laysRota ⟨Nat.le_of_ble_eq_true rfl, Nat.le_of_ble_eq_true rfl⟩ (by decide) rfl rfl rfl (Nat.le_of_ble_eq_true rfl) rfl ?_
                      refine fr_iload_n (q := 138) F dX8_year_137 rfl rfl ?_
                      refine fr_bipush (q := 140) (v := 7) F dX8_year_138 rfl (by decide) ?_
                      refine fr_icmp_ne (q := 143) (tgt := 150) F dX8_year_140 (by decide) rfl (fun hc33 => ?_) (fun hc33 => ?_)
                      · rw [if_neg hc33] at h
                        refine fr_aload_n (q := 151) F dX8_year_150 rfl rfl ?_
                        refine fr_gfI (q := 154) (x := (n32 0 26)) F dX8_year_151 rfl faRX8_138 (by decide) rfl rfl rfl ?_
                        obtain ⟨rfl, rfl⟩ := Prod.mk.inj (Option.some.inj h)
                        exact fr_iret F E rfl dX8_year_154
                      · rw [if_pos hc33] at h
                        refine fr_aload_n (q := 144) F dX8_year_143 rfl rfl ?_
                        refine fr_gfI (q := 147) (x := (n32 0 25)) F dX8_year_144 rfl faRX8_135 (by decide) rfl rfl rfl ?_
                        refine fr_goto (tgt := 154) F dX8_year_147 (by decide) ?_
                        obtain ⟨rfl, rfl⟩ := Prod.mk.inj (Option.some.inj h)
                        exact fr_iret F E rfl dX8_year_154
      · rw [if_neg hc9] at h
        refine fr_ldc (q := 31) F dX8_year_29 rfl kcRX8_209 ?_
        obtain ⟨rfl, rfl⟩ := Prod.mk.inj (Option.some.inj h)
        exact fr_iret F E rfl dX8_year_31
  · rw [if_neg hc3] at h
    refine fr_ldc (q := 9) F dX8_year_7 rfl kcRX8_238 ?_
    obtain ⟨rfl, rfl⟩ := Prod.mk.inj (Option.some.inj h)
    exact fr_iret F E rfl dX8_year_9
