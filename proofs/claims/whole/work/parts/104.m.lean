/-! FeastRota$Calendar.leapYearsAhead (None, None) -/
def fX2_leapYearsAhead (a0 : Int32) (a1 : Int32) : Option Int32 := if a0 = 0 then some (0 : Int32) else if a0 = (1 : Int32) then some ((a1 - (1 : Int32)) / (4 : Int32)) else some ((((a1 - (1 : Int32)) / (4 : Int32)) - ((a1 - (1 : Int32)) / (100 : Int32))) + ((a1 - (1 : Int32)) / (400 : Int32)))
theorem tX2_leapYearsAhead {l : Launch} {G : fr_G} {M0 : fr_M} {a0 : Int32} {a1 : Int32} {rz : Int32} (h : fX2_leapYearsAhead a0 a1 = some rz) : fr_Met l G YX2_leapYearsAhead [.int a0, .int a1] M0 (some (.int rz)) M0 := by
  refine fr_met (pad := List.replicate 1 none) (by decide) (Nat.le_of_ble_eq_true rfl) (fun _ h => List.eq_of_mem_replicate h) ⟨rfl, rfl⟩ (fun K F hG hL E => ?_)
  subst hG; subst hL
  rw [fX2_leapYearsAhead] at h
  show fr_V YX2_leapYearsAhead K 0 [some (.int a0), some (.int a1), none] [] M0
  refine fr_iload_n (q := 1) F dX2_leapYearsAhead_0 rfl rfl ?_
  refine fr_iconst (q := 2) (v := 1) F dX2_leapYearsAhead_1 rfl (by decide) ?_
  refine fr_isub (q := 3) F dX2_leapYearsAhead_2 rfl ?_
  refine fr_istore_n (q := 4) F dX2_leapYearsAhead_3 rfl (by decide) rfl ?_
  refine fr_iload_n (q := 5) F dX2_leapYearsAhead_4 rfl rfl ?_
  refine fr_if_ne (q := 8) (tgt := 12) F dX2_leapYearsAhead_5 (by decide) rfl (fun hc1 => ?_) (fun hc1 => ?_)
  · rw [if_neg hc1] at h
    refine fr_iload_n (q := 13) F dX2_leapYearsAhead_12 rfl rfl ?_
    refine fr_iconst (q := 14) (v := 1) F dX2_leapYearsAhead_13 rfl (by decide) ?_
    refine fr_icmp_ne (q := 17) (tgt := 23) F dX2_leapYearsAhead_14 (by decide) rfl (fun hc2 => ?_) (fun hc2 => ?_)
    · rw [if_neg hc2] at h
      refine fr_iload_n (q := 24) F dX2_leapYearsAhead_23 rfl rfl ?_
      refine fr_iconst (q := 25) (v := 4) F dX2_leapYearsAhead_24 rfl (by decide) ?_
      refine fr_idiv (q := 26) F dX2_leapYearsAhead_25 rfl (by decide) ?_
      refine fr_iload_n (q := 27) F dX2_leapYearsAhead_26 rfl rfl ?_
      refine fr_bipush (q := 29) (v := 100) F dX2_leapYearsAhead_27 rfl (by decide) ?_
      refine fr_idiv (q := 30) F dX2_leapYearsAhead_29 rfl (by decide) ?_
      refine fr_isub (q := 31) F dX2_leapYearsAhead_30 rfl ?_
      refine fr_iload_n (q := 32) F dX2_leapYearsAhead_31 rfl rfl ?_
      refine fr_sipush (q := 35) (v := 400) F dX2_leapYearsAhead_32 rfl (by decide) ?_
      refine fr_idiv (q := 36) F dX2_leapYearsAhead_35 rfl (by decide) ?_
      refine fr_iadd (q := 37) F dX2_leapYearsAhead_36 rfl ?_
      obtain rfl := Option.some.inj h
      exact fr_iret F E rfl dX2_leapYearsAhead_37
    · rw [if_pos hc2] at h
      refine fr_iload_n (q := 18) F dX2_leapYearsAhead_17 rfl rfl ?_
      refine fr_iconst (q := 19) (v := 4) F dX2_leapYearsAhead_18 rfl (by decide) ?_
      refine fr_idiv (q := 20) F dX2_leapYearsAhead_19 rfl (by decide) ?_
      refine fr_goto (tgt := 37) F dX2_leapYearsAhead_20 (by decide) ?_
      obtain rfl := Option.some.inj h
      exact fr_iret F E rfl dX2_leapYearsAhead_37
  · rw [if_pos hc1] at h
    refine fr_iconst (q := 9) (v := 0) F dX2_leapYearsAhead_8 rfl (by decide) ?_
    refine fr_goto (tgt := 37) F dX2_leapYearsAhead_9 (by decide) ?_
    obtain rfl := Option.some.inj h
    exact fr_iret F E rfl dX2_leapYearsAhead_37
/-! FeastRota$Calendar.isLeap (12,) -/
def fX2_isLeap (n0 : fr_N) : Option Bool := if (n0 12 0) ≤ (365 : Int32) then some false else some true
theorem tX2_isLeap {l : Launch} {G : fr_G} {u0 : fr_N} {n0 : fr_N} {rz : Bool} (h : fX2_isLeap n0 = some rz) : fr_Met l G YX2_isLeap [.ref 12] (n0, u0) (some (.int (fr_b rz))) (n0, u0) := by
  refine fr_met (pad := List.replicate 0 none) (by decide) (Nat.le_of_ble_eq_true rfl) (fun _ h => List.eq_of_mem_replicate h) ⟨rfl, rfl⟩ (fun K F hG hL E => ?_)
  subst hG; subst hL
  rw [fX2_isLeap] at h
  show fr_V YX2_isLeap K 0 [some (.ref 12)] [] (n0, u0)
  refine fr_aload_n (q := 1) F dX2_isLeap_0 rfl rfl ?_
  refine fr_gfI (q := 4) (x := (n0 12 0)) F dX2_isLeap_1 rfl faRX2_21 (by decide) rfl rfl rfl ?_
  refine fr_sipush (q := 7) (v := 365) F dX2_isLeap_4 rfl (by decide) ?_
  refine fr_icmp_le (q := 10) (tgt := 14) F dX2_isLeap_7 (by decide) rfl (fun hc1 => ?_) (fun hc1 => ?_)
  · rw [if_pos hc1] at h
    refine fr_iconst (q := 15) (v := 0) F dX2_isLeap_14 rfl (by decide) ?_
    obtain rfl := Option.some.inj h
    exact fr_zret F E rfl dX2_isLeap_15
  · rw [if_neg hc1] at h
    refine fr_iconst (q := 11) (v := 1) F dX2_isLeap_10 rfl (by decide) ?_
    refine fr_goto (tgt := 15) F dX2_isLeap_11 (by decide) ?_
    obtain rfl := Option.some.inj h
    exact fr_zret F E rfl dX2_isLeap_15
/-! FeastRota$Calendar.dayOfDate (12, None) -/
def fX2_dayOfDate (a1 : Int32) (n0 : fr_N) : Option Int32 := fr_bd (fX2_isLeap n0) fun r1 => (if r1 = true then if a1 < (60 : Int32) then some a1 else some (a1 + (1 : Int32)) else some a1)
theorem tX2_dayOfDate {l : Launch} {G : fr_G} {u0 : fr_N} {a1 : Int32} {n0 : fr_N} {rz : Int32} (h : fX2_dayOfDate a1 n0 = some rz) : fr_Met l G YX2_dayOfDate [.ref 12, .int a1] (n0, u0) (some (.int rz)) (n0, u0) := by
  refine fr_met (pad := List.replicate 0 none) (by decide) (Nat.le_of_ble_eq_true rfl) (fun _ h => List.eq_of_mem_replicate h) ⟨rfl, rfl⟩ (fun K F hG hL E => ?_)
  subst hG; subst hL
  rw [fX2_dayOfDate] at h
  show fr_V YX2_dayOfDate K 0 [some (.ref 12), some (.int a1)] [] (n0, u0)
  refine fr_aload_n (q := 1) F dX2_dayOfDate_0 rfl rfl ?_
  obtain ⟨r1, hr2, h⟩ := fr_bd_some h
  refine fr_callV (q := 4) (M' := (n0, u0)) (rest := []) (st' := [.int (fr_b r1)]) F dX2_dayOfDate_1 rfl (tX2_isLeap hr2) mlRX2_44 msX2_isLeap ⟨Nat.le_of_ble_eq_true rfl, Nat.le_of_ble_eq_true rfl⟩ (by decide) rfl rfl rfl (Nat.le_of_ble_eq_true rfl) rfl ?_
  refine fr_if_eqb (q := 7) (tgt := 19) F dX2_dayOfDate_4 (by decide) rfl (fun hc3 => ?_) (fun hc3 => ?_)
  · rw [if_neg hc3] at h
    refine fr_iload_n (q := 20) F dX2_dayOfDate_19 rfl rfl ?_
    obtain rfl := Option.some.inj h
    exact fr_iret F E rfl dX2_dayOfDate_20
  · rw [if_pos hc3] at h
    refine fr_iload_n (q := 8) F dX2_dayOfDate_7 rfl rfl ?_
    refine fr_bipush (q := 10) (v := 60) F dX2_dayOfDate_8 rfl (by decide) ?_
    refine fr_icmp_lt (q := 13) (tgt := 19) F dX2_dayOfDate_10 (by decide) rfl (fun hc4 => ?_) (fun hc4 => ?_)
    · rw [if_pos hc4] at h
      refine fr_iload_n (q := 20) F dX2_dayOfDate_19 rfl rfl ?_
      obtain rfl := Option.some.inj h
      exact fr_iret F E rfl dX2_dayOfDate_20
    · rw [if_neg hc4] at h
      refine fr_iload_n (q := 14) F dX2_dayOfDate_13 rfl rfl ?_
      refine fr_iconst (q := 15) (v := 1) F dX2_dayOfDate_14 rfl (by decide) ?_
      refine fr_iadd (q := 16) F dX2_dayOfDate_15 rfl ?_
      refine fr_goto (tgt := 20) F dX2_dayOfDate_16 (by decide) ?_
      obtain rfl := Option.some.inj h
      exact fr_iret F E rfl dX2_dayOfDate_20
/-! FeastRota$Calendar.weekday (12, None) -/
def fX2_weekday (a1 : Int32) (n0 : fr_N) : Option Int32 := some (fr_rem (((n0 12 1) + a1) - (1 : Int32)) (7 : Int32))
theorem tX2_weekday {l : Launch} {G : fr_G} {u0 : fr_N} {a1 : Int32} {n0 : fr_N} {rz : Int32} (h : fX2_weekday a1 n0 = some rz) : fr_Met l G YX2_weekday [.ref 12, .int a1] (n0, u0) (some (.int rz)) (n0, u0) := by
  refine fr_met (pad := List.replicate 0 none) (by decide) (Nat.le_of_ble_eq_true rfl) (fun _ h => List.eq_of_mem_replicate h) ⟨rfl, rfl⟩ (fun K F hG hL E => ?_)
  subst hG; subst hL
  rw [fX2_weekday] at h
  show fr_V YX2_weekday K 0 [some (.ref 12), some (.int a1)] [] (n0, u0)
  refine fr_aload_n (q := 1) F dX2_weekday_0 rfl rfl ?_
  refine fr_gfI (q := 4) (x := (n0 12 1)) F dX2_weekday_1 rfl faRX2_28 (by decide) rfl rfl rfl ?_
  refine fr_iload_n (q := 5) F dX2_weekday_4 rfl rfl ?_
  refine fr_iadd (q := 6) F dX2_weekday_5 rfl ?_
  refine fr_iconst (q := 7) (v := 1) F dX2_weekday_6 rfl (by decide) ?_
  refine fr_isub (q := 8) F dX2_weekday_7 rfl ?_
  refine fr_bipush (q := 10) (v := 7) F dX2_weekday_8 rfl (by decide) ?_
  refine fr_irem (q := 11) F dX2_weekday_10 rfl (by decide) ?_
  obtain rfl := Option.some.inj h
  exact fr_iret F E rfl dX2_weekday_11
/-! FeastRota$Calendar.sundayFrom (12, None) -/
def fX2_sundayFrom (a1 : Int32) (n0 : fr_N) : Option Int32 := fr_bd (fX2_weekday a1 n0) fun r1 => (some (a1 + (fr_rem ((7 : Int32) - r1) (7 : Int32))))
theorem tX2_sundayFrom {l : Launch} {G : fr_G} {u0 : fr_N} {a1 : Int32} {n0 : fr_N} {rz : Int32} (h : fX2_sundayFrom a1 n0 = some rz) : fr_Met l G YX2_sundayFrom [.ref 12, .int a1] (n0, u0) (some (.int rz)) (n0, u0) := by
  refine fr_met (pad := List.replicate 0 none) (by decide) (Nat.le_of_ble_eq_true rfl) (fun _ h => List.eq_of_mem_replicate h) ⟨rfl, rfl⟩ (fun K F hG hL E => ?_)
  subst hG; subst hL
  rw [fX2_sundayFrom] at h
  show fr_V YX2_sundayFrom K 0 [some (.ref 12), some (.int a1)] [] (n0, u0)
  refine fr_iload_n (q := 1) F dX2_sundayFrom_0 rfl rfl ?_
  refine fr_bipush (q := 3) (v := 7) F dX2_sundayFrom_1 rfl (by decide) ?_
  refine fr_aload_n (q := 4) F dX2_sundayFrom_3 rfl rfl ?_
  refine fr_iload_n (q := 5) F dX2_sundayFrom_4 rfl rfl ?_
  obtain ⟨r1, hr2, h⟩ := fr_bd_some h
  refine fr_callV (q := 8) (M' := (n0, u0)) (rest := [.int (7 : Int32), .int a1]) (st' := [.int r1, .int (7 : Int32), .int a1]) F dX2_sundayFrom_5 rfl (tX2_weekday hr2) mlRX2_48 msX2_weekday ⟨Nat.le_of_ble_eq_true rfl, Nat.le_of_ble_eq_true rfl⟩ (by decide) rfl rfl rfl (Nat.le_of_ble_eq_true rfl) rfl ?_
  refine fr_isub (q := 9) F dX2_sundayFrom_8 rfl ?_
  refine fr_bipush (q := 11) (v := 7) F dX2_sundayFrom_9 rfl (by decide) ?_
  refine fr_irem (q := 12) F dX2_sundayFrom_11 rfl (by decide) ?_
  refine fr_iadd (q := 13) F dX2_sundayFrom_12 rfl ?_
  obtain rfl := Option.some.inj h
  exact fr_iret F E rfl dX2_sundayFrom_13
/-! FeastRota$Calendar.turnTo (12, 3, None) -/
def fX2_turnTo (a2 : Int32) (n0 : fr_N) : Option fr_N := fr_bd (fX2_daysOf (n0 4 0) a2) fun r1 => (fr_lt (fr_up n0 12 0 r1) fun n3 => (fr_bd (fX2_leapYearsAhead (n0 4 0) a2) fun r5 => (fr_lt (fr_up n3 12 1 (fr_rem (((n3 4 2) + ((a2 - (1 : Int32)) * (365 : Int32))) + r5) (7 : Int32))) fun n7 => (fr_bd (fX2_dayOfDate ((80 : Int32) + (fr_rem (((19 : Int32) * (fr_rem a2 (19 : Int32))) + (n7 4 1)) (30 : Int32))) n7) fun r9 => (fr_lt (fr_up n7 12 2 r9) fun n11 => (fr_bd (fX2_sundayFrom ((n11 12 2) + (1 : Int32)) n11) fun r13 => (fr_lt (fr_up n11 12 3 r13) fun n15 => (some n15))))))))
theorem tX2_turnTo {l : Launch} {G : fr_G} {u0 : fr_N} {a2 : Int32} {n0 : fr_N} {nz : fr_N} (h : fX2_turnTo a2 n0 = some nz) : fr_Met l G YX2_turnTo [.ref 12, .ref 3, .int a2] (n0, u0) none (nz, u0) := by
  refine fr_met (pad := List.replicate 1 none) (by decide) (Nat.le_of_ble_eq_true rfl) (fun _ h => List.eq_of_mem_replicate h) ⟨rfl, rfl⟩ (fun K F hG hL E => ?_)
  subst hG; subst hL
  rw [fX2_turnTo] at h
  show fr_V YX2_turnTo K 0 [some (.ref 12), some (.ref 3), some (.int a2), none] [] (n0, u0)
  refine fr_aload_n (q := 1) F dX2_turnTo_0 rfl rfl ?_
  refine fr_gfR (q := 4) (j := 4) F dX2_turnTo_1 rfl faRX2_11 (by decide) rfl rfl ?_
  refine fr_iconst (q := 5) (v := 0) F dX2_turnTo_4 rfl (by decide) ?_
  refine fr_ial (q := 6) (x := (n0 4 0)) F dX2_turnTo_5 rfl (fr_vin rfl) (by decide) rfl rfl ?_
  refine fr_istore_n (q := 7) F dX2_turnTo_6 rfl (by decide) rfl ?_
  refine fr_aload_n (q := 8) F dX2_turnTo_7 rfl rfl ?_
  refine fr_iload_n (q := 9) F dX2_turnTo_8 rfl rfl ?_
  refine fr_iload_n (q := 10) F dX2_turnTo_9 rfl rfl ?_
  obtain ⟨r1, hr2, h⟩ := fr_bd_some h
  refine fr_callS (q := 13) (M' := (n0, u0)) (rest := [.ref 12]) (st' := [.int r1, .ref 12]) F dX2_turnTo_10 rfl (tX2_daysOf hr2) mlRX2_17 msX2_daysOf ⟨Nat.le_of_ble_eq_true rfl, Nat.le_of_ble_eq_true rfl⟩ rfl rfl (Nat.le_of_ble_eq_true rfl) rfl ?_
  obtain ⟨n3, hn4, h⟩ := fr_lt_some h
  refine fr_pfI (q := 16) (M' := (n3, u0)) F dX2_turnTo_13 rfl fpRX2_21 (by decide) rfl rfl (congrArg (fun z => (z, u0)) hn4) ?_
  refine fr_aload_n (q := 17) F dX2_turnTo_16 rfl rfl ?_
  refine fr_aload_n (q := 18) F dX2_turnTo_17 rfl rfl ?_
  refine fr_gfR (q := 21) (j := 4) F dX2_turnTo_18 rfl faRX2_11 (by decide) rfl rfl ?_
  refine fr_iconst (q := 22) (v := 2) F dX2_turnTo_21 rfl (by decide) ?_
  refine fr_ial (q := 23) (x := (n3 4 2)) F dX2_turnTo_22 rfl (fr_vin rfl) (by decide) rfl rfl ?_
  refine fr_iload_n (q := 24) F dX2_turnTo_23 rfl rfl ?_
  refine fr_iconst (q := 25) (v := 1) F dX2_turnTo_24 rfl (by decide) ?_
  refine fr_isub (q := 26) F dX2_turnTo_25 rfl ?_
  refine fr_sipush (q := 29) (v := 365) F dX2_turnTo_26 rfl (by decide) ?_
  refine fr_imul (q := 30) F dX2_turnTo_29 rfl ?_
  refine fr_iadd (q := 31) F dX2_turnTo_30 rfl ?_
  refine fr_iload_n (q := 32) F dX2_turnTo_31 rfl rfl ?_
  refine fr_iload_n (q := 33) F dX2_turnTo_32 rfl rfl ?_
  obtain ⟨r5, hr6, h⟩ := fr_bd_some h
  refine fr_callS (q := 36) (M' := (n3, u0)) (rest := [.int ((n3 4 2) + ((a2 - (1 : Int32)) * (365 : Int32))), .ref 12]) (st' := [.int r5, .int ((n3 4 2) + ((a2 - (1 : Int32)) * (365 : Int32))), .ref 12]) F dX2_turnTo_33 rfl (tX2_leapYearsAhead hr6) mlRX2_25 msX2_leapYearsAhead ⟨Nat.le_of_ble_eq_true rfl, Nat.le_of_ble_eq_true rfl⟩ rfl rfl (Nat.le_of_ble_eq_true rfl) rfl ?_
  refine fr_iadd (q := 37) F dX2_turnTo_36 rfl ?_
  refine fr_bipush (q := 39) (v := 7) F dX2_turnTo_37 rfl (by decide) ?_
  refine fr_irem (q := 40) F dX2_turnTo_39 rfl (by decide) ?_
  obtain ⟨n7, hn8, h⟩ := fr_lt_some h
  refine fr_pfI (q := 43) (M' := (n7, u0)) F dX2_turnTo_40 rfl fpRX2_28 (by decide) rfl rfl (congrArg (fun z => (z, u0)) hn8) ?_
  refine fr_aload_n (q := 44) F dX2_turnTo_43 rfl rfl ?_
  refine fr_aload_n (q := 45) F dX2_turnTo_44 rfl rfl ?_
  refine fr_bipush (q := 47) (v := 80) F dX2_turnTo_45 rfl (by decide) ?_
  refine fr_bipush (q := 49) (v := 19) F dX2_turnTo_47 rfl (by decide) ?_
  refine fr_iload_n (q := 50) F dX2_turnTo_49 rfl rfl ?_
  refine fr_bipush (q := 52) (v := 19) F dX2_turnTo_50 rfl (by decide) ?_
  refine fr_irem (q := 53) F dX2_turnTo_52 rfl (by decide) ?_
  refine fr_imul (q := 54) F dX2_turnTo_53 rfl ?_
  refine fr_aload_n (q := 55) F dX2_turnTo_54 rfl rfl ?_
  refine fr_gfR (q := 58) (j := 4) F dX2_turnTo_55 rfl faRX2_11 (by decide) rfl rfl ?_
  refine fr_iconst (q := 59) (v := 1) F dX2_turnTo_58 rfl (by decide) ?_
  refine fr_ial (q := 60) (x := (n7 4 1)) F dX2_turnTo_59 rfl (fr_vin rfl) (by decide) rfl rfl ?_
  refine fr_iadd (q := 61) F dX2_turnTo_60 rfl ?_
  refine fr_bipush (q := 63) (v := 30) F dX2_turnTo_61 rfl (by decide) ?_
  refine fr_irem (q := 64) F dX2_turnTo_63 rfl (by decide) ?_
  refine fr_iadd (q := 65) F dX2_turnTo_64 rfl ?_
  obtain ⟨r9, hr10, h⟩ := fr_bd_some h
  refine fr_callV (q := 68) (M' := (n7, u0)) (rest := [.ref 12]) (st' := [.int r9, .ref 12]) F dX2_turnTo_65 rfl (tX2_dayOfDate hr10) mlRX2_31 msX2_dayOfDate ⟨Nat.le_of_ble_eq_true rfl, Nat.le_of_ble_eq_true rfl⟩ (by decide) rfl rfl rfl (Nat.le_of_ble_eq_true rfl) rfl ?_
  obtain ⟨n11, hn12, h⟩ := fr_lt_some h
  refine fr_pfI (q := 71) (M' := (n11, u0)) F dX2_turnTo_68 rfl fpRX2_35 (by decide) rfl rfl (congrArg (fun z => (z, u0)) hn12) ?_
  refine fr_aload_n (q := 72) F dX2_turnTo_71 rfl rfl ?_
  refine fr_aload_n (q := 73) F dX2_turnTo_72 rfl rfl ?_
  refine fr_aload_n (q := 74) F dX2_turnTo_73 rfl rfl ?_
  refine fr_gfI (q := 77) (x := (n11 12 2)) F dX2_turnTo_74 rfl faRX2_35 (by decide) rfl rfl rfl ?_
  refine fr_iconst (q := 78) (v := 1) F dX2_turnTo_77 rfl (by decide) ?_
  refine fr_iadd (q := 79) F dX2_turnTo_78 rfl ?_
  obtain ⟨r13, hr14, h⟩ := fr_bd_some h
  refine fr_callV (q := 82) (M' := (n11, u0)) (rest := [.ref 12]) (st' := [.int r13, .ref 12]) F dX2_turnTo_79 rfl (tX2_sundayFrom hr14) mlRX2_38 msX2_sundayFrom ⟨Nat.le_of_ble_eq_true rfl, Nat.le_of_ble_eq_true rfl⟩ (by decide) rfl rfl rfl (Nat.le_of_ble_eq_true rfl) rfl ?_
  obtain ⟨n15, hn16, h⟩ := fr_lt_some h
  refine fr_pfI (q := 85) (M' := (n15, u0)) F dX2_turnTo_82 rfl fpRX2_41 (by decide) rfl rfl (congrArg (fun z => (z, u0)) hn16) ?_
  obtain rfl := Option.some.inj h
  exact fr_vret F E rfl dX2_turnTo_85
/-! java/util/Arrays.fill (16, None) -/
def fJ7_fill_53178_16_5 : Nat → Int32 → Int32 → Int32 → fr_N → Option fr_N
  | 0, _, _, _, _ => none
  | k + 1, x1, x2, x3, n0 => if x3 ≤ x2 then some n0 else fr_ck x2 367 (fr_lt (fr_up n0 16 (Int32.toNatClampNeg x2) x1) fun n3 => ((fJ7_fill_53178_16_5 k) x1 (x2 + (1 : Int32)) x3 n3))
def fJ7_fill_53178_16 (a1 : Int32) (n0 : fr_N) : Option fr_N := fJ7_fill_53178_16_5 2000 a1 (0 : Int32) (367 : Int32) n0
theorem tJ7_fill_53178_16_5 {K : fr_K} {u0 : fr_N} {nz : fr_N} (F : fr_F YJ7_fill_53178 K) (E : fr_R YJ7_fill_53178 K none (nz, u0)) : ∀ (k : Nat) (x1 : Int32) (x2 : Int32) (x3 : Int32) (n0 : fr_N), fJ7_fill_53178_16_5 k x1 x2 x3 n0 = some nz → fr_V YJ7_fill_53178 K 5 [some (.ref 16), some (.int x1), some (.int x2), some (.int x3)] [] (n0, u0) := by
  intro k
  induction k with
  | zero =>
    intro x1 x2 x3 n0 h
    rw [fJ7_fill_53178_16_5] at h
    cases h
  | succ k ih =>
    intro x1 x2 x3 n0 h
    rw [fJ7_fill_53178_16_5] at h
    refine fr_iload_n (q := 6) F dJ7_fill_53178_5 rfl rfl ?_
    refine fr_iload_n (q := 7) F dJ7_fill_53178_6 rfl rfl ?_
    refine fr_icmp_ge (q := 10) (tgt := 20) F dJ7_fill_53178_7 (by decide) rfl (fun hc1 => ?_) (fun hc1 => ?_)
    · rw [if_pos hc1] at h
      obtain rfl := Option.some.inj h
      exact fr_vret F E rfl dJ7_fill_53178_20
    · rw [if_neg hc1] at h
      refine fr_aload_n (q := 11) F dJ7_fill_53178_10 rfl rfl ?_
      refine fr_iload_n (q := 12) F dJ7_fill_53178_11 rfl rfl ?_
      refine fr_iload_n (q := 13) F dJ7_fill_53178_12 rfl rfl ?_
      obtain ⟨hi2, h⟩ := fr_ck_some h
      obtain ⟨n3, hn4, h⟩ := fr_lt_some h
      refine fr_ias (q := 14) (M' := (n3, u0)) F dJ7_fill_53178_13 rfl hi2 (by decide) rfl (congrArg (fun z => (z, u0)) hn4) ?_
      refine fr_iinc (q := 17) (v := (x2 + (1 : Int32))) F dJ7_fill_53178_14 rfl rfl rfl (by decide) rfl ?_
      refine fr_goto (tgt := 5) F dJ7_fill_53178_17 (by decide) ?_
      exact fr_wj (ih _ _ _ _ h) ⟨rfl, ⟨rfl, ⟨rfl, ⟨rfl, trivial⟩⟩⟩⟩
theorem tJ7_fill_53178_16 {l : Launch} {G : fr_G} {u0 : fr_N} {a1 : Int32} {n0 : fr_N} {nz : fr_N} (h : fJ7_fill_53178_16 a1 n0 = some nz) : fr_Met l G YJ7_fill_53178 [.ref 16, .int a1] (n0, u0) none (nz, u0) := by
  refine fr_met (pad := List.replicate 2 none) (by decide) (Nat.le_of_ble_eq_true rfl) (fun _ h => List.eq_of_mem_replicate h) ⟨rfl, rfl⟩ (fun K F hG hL E => ?_)
  subst hG; subst hL
  rw [fJ7_fill_53178_16] at h
  show fr_V YJ7_fill_53178 K 0 [some (.ref 16), some (.int a1), none, none] [] (n0, u0)
  refine fr_iconst (q := 1) (v := 0) F dJ7_fill_53178_0 rfl (by decide) ?_
  refine fr_istore_n (q := 2) F dJ7_fill_53178_1 rfl (by decide) rfl ?_
  refine fr_aload_n (q := 3) F dJ7_fill_53178_2 rfl rfl ?_
  refine fr_len (q := 4) (kd := 0) (x := 367) F dJ7_fill_53178_3 rfl (by decide) rfl (by decide) ?_
  refine fr_istore_n (q := 5) F dJ7_fill_53178_4 rfl (by decide) rfl ?_
  exact fr_wj (tJ7_fill_53178_16_5 F E _ _ _ _ _ h) ⟨rfl, ⟨rfl, ⟨rfl, ⟨rfl, trivial⟩⟩⟩⟩
/-! FeastRota$Plan.isFree (11, None) -/
def fX3_isFree (a1 : Int32) (n0 : fr_N) : Option Bool := fr_bd (fX7_within a1 (1 : Int32) (n0 12 0)) fun r1 => (if r1 = true then fr_ck a1 367 (if (n0 16 (Int32.toNatClampNeg a1)) = (-1 : Int32) then some true else some false) else some false)
theorem tX3_isFree {l : Launch} {G : fr_G} {u0 : fr_N} {a1 : Int32} {n0 : fr_N} {rz : Bool} (h : fX3_isFree a1 n0 = some rz) : fr_Met l G YX3_isFree [.ref 11, .int a1] (n0, u0) (some (.int (fr_b rz))) (n0, u0) := by
  refine fr_met (pad := List.replicate 0 none) (by decide) (Nat.le_of_ble_eq_true rfl) (fun _ h => List.eq_of_mem_replicate h) ⟨rfl, rfl⟩ (fun K F hG hL E => ?_)
  subst hG; subst hL
  rw [fX3_isFree] at h
  show fr_V YX3_isFree K 0 [some (.ref 11), some (.int a1)] [] (n0, u0)
  refine fr_iload_n (q := 1) F dX3_isFree_0 rfl rfl ?_
  refine fr_iconst (q := 2) (v := 1) F dX3_isFree_1 rfl (by decide) ?_
  refine fr_aload_n (q := 3) F dX3_isFree_2 rfl rfl ?_
  refine fr_gfR (q := 6) (j := 12) F dX3_isFree_3 rfl faRX3_15 (by decide) rfl rfl ?_
  refine fr_gfI (q := 9) (x := (n0 12 0)) F dX3_isFree_6 rfl faRX3_80 (by decide) rfl rfl rfl ?_
  obtain ⟨r1, hr2, h⟩ := fr_bd_some h
  refine fr_callN (q := 12) (M' := (n0, u0)) (rest := []) (st' := [.int (fr_b r1)]) F dX3_isFree_9 rfl (tX7_within hr2) rfl (by decide) msX7_within ⟨Nat.le_of_ble_eq_true rfl, Nat.le_of_ble_eq_true rfl⟩ rfl rfl (Nat.le_of_ble_eq_true rfl) rfl ?_
  refine fr_if_eqb (q := 15) (tgt := 29) F dX3_isFree_12 (by decide) rfl (fun hc3 => ?_) (fun hc3 => ?_)
  · rw [if_neg hc3] at h
    refine fr_iconst (q := 30) (v := 0) F dX3_isFree_29 rfl (by decide) ?_
    obtain rfl := Option.some.inj h
    exact fr_zret F E rfl dX3_isFree_30
  · rw [if_pos hc3] at h
    refine fr_aload_n (q := 16) F dX3_isFree_15 rfl rfl ?_
    refine fr_gfR (q := 19) (j := 16) F dX3_isFree_16 rfl faRX3_29 (by decide) rfl rfl ?_
    refine fr_iload_n (q := 20) F dX3_isFree_19 rfl rfl ?_
    obtain ⟨hi4, h⟩ := fr_ck_some h
    refine fr_ial (q := 21) (x := (n0 16 (Int32.toNatClampNeg a1))) F dX3_isFree_20 rfl hi4 (by decide) rfl rfl ?_
    refine fr_iconst (q := 22) (v := (-1)) F dX3_isFree_21 rfl (by decide) ?_
    refine fr_icmp_ne (q := 25) (tgt := 29) F dX3_isFree_22 (by decide) rfl (fun hc5 => ?_) (fun hc5 => ?_)
    · rw [if_neg hc5] at h
      refine fr_iconst (q := 30) (v := 0) F dX3_isFree_29 rfl (by decide) ?_
      obtain rfl := Option.some.inj h
      exact fr_zret F E rfl dX3_isFree_30
    · rw [if_pos hc5] at h
      refine fr_iconst (q := 26) (v := 1) F dX3_isFree_25 rfl (by decide) ?_
      refine fr_goto (tgt := 30) F dX3_isFree_26 (by decide) ?_
      obtain rfl := Option.some.inj h
      exact fr_zret F E rfl dX3_isFree_30
/-! FeastRota$Plan.firstFree (11, None, None) -/
def fX3_firstFree_2 (n0 : fr_N) : Nat → Int32 → Int32 → Option Int32
  | 0, _, _ => none
  | k + 1, x2, x3 => if x2 < x3 then some (-1000000 : Int32) else fr_bd (fX3_isFree x3 n0) fun r2 => (if r2 = true then some x3 else (fX3_firstFree_2 n0 k) x2 (x3 + (1 : Int32)))
def fX3_firstFree (a1 : Int32) (a2 : Int32) (n0 : fr_N) : Option Int32 := fX3_firstFree_2 n0 2000 a2 a1
theorem tX3_firstFree_2 {K : fr_K} {u0 : fr_N} {n0 : fr_N} {rz : Int32} (F : fr_F YX3_firstFree K) (E : fr_R YX3_firstFree K (some (.int rz)) (n0, u0)) : ∀ (k : Nat) (x2 : Int32) (x3 : Int32), fX3_firstFree_2 n0 k x2 x3 = some rz → fr_V YX3_firstFree K 2 [some (.ref 11), none, some (.int x2), some (.int x3)] [] (n0, u0) := by
  intro k
  induction k with
  | zero =>
    intro x2 x3 h
    rw [fX3_firstFree_2] at h
    cases h
  | succ k ih =>
    intro x2 x3 h
    rw [fX3_firstFree_2] at h
    refine fr_iload_n (q := 3) F dX3_firstFree_2 rfl rfl ?_
    refine fr_iload_n (q := 4) F dX3_firstFree_3 rfl rfl ?_
    refine fr_icmp_gt (q := 7) (tgt := 23) F dX3_firstFree_4 (by decide) rfl (fun hc1 => ?_) (fun hc1 => ?_)
    · rw [if_pos hc1] at h
      refine fr_ldc (q := 25) F dX3_firstFree_23 rfl kcRX3_50 ?_
      obtain rfl := Option.some.inj h
      exact fr_iret F E rfl dX3_firstFree_25
    · rw [if_neg hc1] at h
      refine fr_aload_n (q := 8) F dX3_firstFree_7 rfl rfl ?_
      refine fr_iload_n (q := 9) F dX3_firstFree_8 rfl rfl ?_
      obtain ⟨r2, hr3, h⟩ := fr_bd_some h
      refine fr_callV (q := 12) (M' := (n0, u0)) (rest := []) (st' := [.int (fr_b r2)]) F dX3_firstFree_9 rfl (tX3_isFree hr3) mlRX3_69 msX3_isFree ⟨Nat.le_of_ble_eq_true rfl, Nat.le_of_ble_eq_true rfl⟩ (by decide) rfl rfl rfl (Nat.le_of_ble_eq_true rfl) rfl ?_
      refine fr_if_eqb (q := 15) (tgt := 17) F dX3_firstFree_12 (by decide) rfl (fun hc4 => ?_) (fun hc4 => ?_)
      · rw [if_neg hc4] at h
        refine fr_iinc (q := 20) (v := (x3 + (1 : Int32))) F dX3_firstFree_17 rfl rfl rfl (by decide) rfl ?_
        refine fr_goto (tgt := 2) F dX3_firstFree_20 (by decide) ?_
        exact fr_wj (ih _ _ h) ⟨rfl, ⟨rfl, ⟨rfl, trivial⟩⟩⟩
      · rw [if_pos hc4] at h
        refine fr_iload_n (q := 16) F dX3_firstFree_15 rfl rfl ?_
        obtain rfl := Option.some.inj h
        exact fr_iret F E rfl dX3_firstFree_16
theorem tX3_firstFree {l : Launch} {G : fr_G} {u0 : fr_N} {a1 : Int32} {a2 : Int32} {n0 : fr_N} {rz : Int32} (h : fX3_firstFree a1 a2 n0 = some rz) : fr_Met l G YX3_firstFree [.ref 11, .int a1, .int a2] (n0, u0) (some (.int rz)) (n0, u0) := by
  refine fr_met (pad := List.replicate 1 none) (by decide) (Nat.le_of_ble_eq_true rfl) (fun _ h => List.eq_of_mem_replicate h) ⟨rfl, rfl⟩ (fun K F hG hL E => ?_)
  subst hG; subst hL
  rw [fX3_firstFree] at h
  show fr_V YX3_firstFree K 0 [some (.ref 11), some (.int a1), some (.int a2), none] [] (n0, u0)
  refine fr_iload_n (q := 1) F dX3_firstFree_0 rfl rfl ?_
  refine fr_istore_n (q := 2) F dX3_firstFree_1 rfl (by decide) rfl ?_
  exact fr_wj (tX3_firstFree_2 F E _ _ _ h) ⟨rfl, ⟨rfl, ⟨rfl, trivial⟩⟩⟩
/-! FeastRota$Plan.hold (11, None, None, None) -/
def fX3_hold (a1 : Int32) (a2 : Int32) (a3 : Int32) (n0 : fr_N) : Option fr_N := fr_ck a1 12 (fr_lt (fr_up n0 14 (Int32.toNatClampNeg a1) a3) fun n2 => (fr_ck a1 12 (fr_lt (fr_up n2 15 (Int32.toNatClampNeg a1) a2) fun n5 => (fr_ck a2 367 (fr_lt (fr_up n5 16 (Int32.toNatClampNeg a2) a1) fun n8 => (some n8))))))
theorem tX3_hold {l : Launch} {G : fr_G} {u0 : fr_N} {a1 : Int32} {a2 : Int32} {a3 : Int32} {n0 : fr_N} {nz : fr_N} (h : fX3_hold a1 a2 a3 n0 = some nz) : fr_Met l G YX3_hold [.ref 11, .int a1, .int a2, .int a3] (n0, u0) none (nz, u0) := by
  refine fr_met (pad := List.replicate 0 none) (by decide) (Nat.le_of_ble_eq_true rfl) (fun _ h => List.eq_of_mem_replicate h) ⟨rfl, rfl⟩ (fun K F hG hL E => ?_)
  subst hG; subst hL
  rw [fX3_hold] at h
  show fr_V YX3_hold K 0 [some (.ref 11), some (.int a1), some (.int a2), some (.int a3)] [] (n0, u0)
  refine fr_aload_n (q := 1) F dX3_hold_0 rfl rfl ?_
  refine fr_gfR (q := 4) (j := 14) F dX3_hold_1 rfl faRX3_23 (by decide) rfl rfl ?_
  refine fr_iload_n (q := 5) F dX3_hold_4 rfl rfl ?_
  refine fr_iload_n (q := 6) F dX3_hold_5 rfl rfl ?_
  obtain ⟨hi1, h⟩ := fr_ck_some h
  obtain ⟨n2, hn3, h⟩ := fr_lt_some h
  refine fr_ias (q := 7) (M' := (n2, u0)) F dX3_hold_6 rfl hi1 (by decide) rfl (congrArg (fun z => (z, u0)) hn3) ?_
  refine fr_aload_n (q := 8) F dX3_hold_7 rfl rfl ?_
  refine fr_gfR (q := 11) (j := 15) F dX3_hold_8 rfl faRX3_26 (by decide) rfl rfl ?_
  refine fr_iload_n (q := 12) F dX3_hold_11 rfl rfl ?_
  refine fr_iload_n (q := 13) F dX3_hold_12 rfl rfl ?_
  obtain ⟨hi4, h⟩ := fr_ck_some h
  obtain ⟨n5, hn6, h⟩ := fr_lt_some h
  refine fr_ias (q := 14) (M' := (n5, u0)) F dX3_hold_13 rfl hi4 (by decide) rfl (congrArg (fun z => (z, u0)) hn6) ?_
  refine fr_aload_n (q := 15) F dX3_hold_14 rfl rfl ?_
  refine fr_gfR (q := 18) (j := 16) F dX3_hold_15 rfl faRX3_29 (by decide) rfl rfl ?_
  refine fr_iload_n (q := 19) F dX3_hold_18 rfl rfl ?_
  refine fr_iload_n (q := 20) F dX3_hold_19 rfl rfl ?_
  obtain ⟨hi7, h⟩ := fr_ck_some h
  obtain ⟨n8, hn9, h⟩ := fr_lt_some h
  refine fr_ias (q := 21) (M' := (n8, u0)) F dX3_hold_20 rfl hi7 (by decide) rfl (congrArg (fun z => (z, u0)) hn9) ?_
  obtain rfl := Option.some.inj h
  exact fr_vret F E rfl dX3_hold_21
/-! FeastRota$Plan.settle (11, None, None) -/
def fX3_settle_31 (x1 : Int32) (x3 : Int32) (n0 : fr_N) : Option fr_N := fr_bd (fX3_hold x1 x3 (1 : Int32) n0) fun n3 => (some n3)
def fX3_settle_118 (x1 : Int32) (x3 : Int32) (n0 : fr_N) : Option fr_N := fr_ck x1 12 (fr_lt (fr_up n0 14 (Int32.toNatClampNeg x1) (3 : Int32)) fun n5 => (fr_ck x1 12 (fr_lt (fr_up n5 15 (Int32.toNatClampNeg x1) x3) fun n8 => (some n8))))
def fX3_settle_150 (s0 : Int32) (s1 : Int32) (n0 : fr_N) : Option fr_N := fr_ck s1 12 (fr_lt (fr_up n0 14 (Int32.toNatClampNeg s1) s0) fun n11 => (some n11))
def fX3_settle_77 (x1 : Int32) (x2 : Int32) (x3 : Int32) (s0 : Int32) (n0 : fr_N) : Option fr_N := fr_bd (fX3_firstFree (x3 + (1 : Int32)) s0 n0) fun r13 => (if r13 = (-1000000 : Int32) then if x2 = (3 : Int32) then fX3_settle_118 x1 x3 n0 else if x2 = (2 : Int32) then fX3_settle_118 x1 x3 n0 else if x2 = (1 : Int32) then fX3_settle_150 (4 : Int32) x1 n0 else fX3_settle_150 (5 : Int32) x1 n0 else fr_bd (fX3_hold x1 r13 (2 : Int32) n0) fun n21 => (some n21))
def fX3_settle_39 (x1 : Int32) (x2 : Int32) (x3 : Int32) (n0 : fr_N) : Option fr_N := if x2 ≤ (3 : Int32) then if x2 = (3 : Int32) then fX3_settle_77 x1 x2 x3 (if (n0 12 0) < (x3 + (7 : Int32)) then (n0 12 0) else (x3 + (7 : Int32))) n0 else fX3_settle_77 x1 x2 x3 x3 n0 else fX3_settle_77 x1 x2 x3 (n0 12 0) n0
def fX3_settle (a1 : Int32) (a2 : Int32) (n0 : fr_N) : Option fr_N := fr_ck a1 12 (fr_bd (fX3_isFree (n0 13 (Int32.toNatClampNeg a1)) n0) fun r25 => (if r25 = true then if (2 : Int32) < a2 then fX3_settle_31 a1 (n0 13 (Int32.toNatClampNeg a1)) n0 else fr_bd (fX2_weekday (n0 13 (Int32.toNatClampNeg a1)) n0) fun r29 => (if r29 = 0 then fX3_settle_39 a1 a2 (n0 13 (Int32.toNatClampNeg a1)) n0 else fX3_settle_31 a1 (n0 13 (Int32.toNatClampNeg a1)) n0) else fX3_settle_39 a1 a2 (n0 13 (Int32.toNatClampNeg a1)) n0))
theorem tX3_settle_31 {K : fr_K} {u0 : fr_N} {nz : fr_N} (F : fr_F YX3_settle K) (E : fr_R YX3_settle K none (nz, u0)) {x1 : Int32} {x3 : Int32} {n0 : fr_N} (h : fX3_settle_31 x1 x3 n0 = some nz) : fr_V YX3_settle K 31 [some (.ref 11), some (.int x1), none, some (.int x3), none, none] [] (n0, u0) := by
  rw [fX3_settle_31] at h
  refine fr_aload_n (q := 32) F dX3_settle_31 rfl rfl ?_
  refine fr_iload_n (q := 33) F dX3_settle_32 rfl rfl ?_
  refine fr_iload_n (q := 34) F dX3_settle_33 rfl rfl ?_
  refine fr_iconst (q := 35) (v := 1) F dX3_settle_34 rfl (by decide) ?_
  obtain ⟨n3, hr2, h⟩ := fr_bd_some h
  refine fr_callV (q := 38) (M' := (n3, u0)) (rest := []) (st' := []) F dX3_settle_35 rfl (tX3_hold hr2) mlRX3_76 msX3_hold ⟨Nat.le_of_ble_eq_true rfl, Nat.le_of_ble_eq_true rfl⟩ (by decide) rfl rfl rfl (Nat.le_of_ble_eq_true rfl) rfl ?_
  obtain rfl := Option.some.inj h
  exact fr_vret F E rfl dX3_settle_38
theorem tX3_settle_118 {K : fr_K} {u0 : fr_N} {nz : fr_N} (F : fr_F YX3_settle K) (E : fr_R YX3_settle K none (nz, u0)) {x1 : Int32} {x3 : Int32} {n0 : fr_N} (h : fX3_settle_118 x1 x3 n0 = some nz) : fr_V YX3_settle K 118 [some (.ref 11), some (.int x1), none, some (.int x3), none, none] [] (n0, u0) := by
  rw [fX3_settle_118] at h
  refine fr_aload_n (q := 119) F dX3_settle_118 rfl rfl ?_
  refine fr_gfR (q := 122) (j := 14) F dX3_settle_119 rfl faRX3_23 (by decide) rfl rfl ?_
  refine fr_iload_n (q := 123) F dX3_settle_122 rfl rfl ?_
  refine fr_iconst (q := 124) (v := 3) F dX3_settle_123 rfl (by decide) ?_
  obtain ⟨hi4, h⟩ := fr_ck_some h
  obtain ⟨n5, hn6, h⟩ := fr_lt_some h
  refine fr_ias (q := 125) (M' := (n5, u0)) F dX3_settle_124 rfl hi4 (by decide) rfl (congrArg (fun z => (z, u0)) hn6) ?_
  refine fr_aload_n (q := 126) F dX3_settle_125 rfl rfl ?_
  refine fr_gfR (q := 129) (j := 15) F dX3_settle_126 rfl faRX3_26 (by decide) rfl rfl ?_
  refine fr_iload_n (q := 130) F dX3_settle_129 rfl rfl ?_
  refine fr_iload_n (q := 131) F dX3_settle_130 rfl rfl ?_
  obtain ⟨hi7, h⟩ := fr_ck_some h
  obtain ⟨n8, hn9, h⟩ := fr_lt_some h
  refine fr_ias (q := 132) (M' := (n8, u0)) F dX3_settle_131 rfl hi7 (by decide) rfl (congrArg (fun z => (z, u0)) hn9) ?_
  refine fr_goto (tgt := 151) F dX3_settle_132 (by decide) ?_
  obtain rfl := Option.some.inj h
  exact fr_vret F E rfl dX3_settle_151
theorem tX3_settle_150 {K : fr_K} {u0 : fr_N} {nz : fr_N} (F : fr_F YX3_settle K) (E : fr_R YX3_settle K none (nz, u0)) {s0 : Int32} {s1 : Int32} {n0 : fr_N} (h : fX3_settle_150 s0 s1 n0 = some nz) : fr_V YX3_settle K 150 [none, none, none, none, none, none] [.int s0, .int s1, .ref 14] (n0, u0) := by
  rw [fX3_settle_150] at h
  obtain ⟨hi10, h⟩ := fr_ck_some h
  obtain ⟨n11, hn12, h⟩ := fr_lt_some h
  refine fr_ias (q := 151) (M' := (n11, u0)) F dX3_settle_150 rfl hi10 (by decide) rfl (congrArg (fun z => (z, u0)) hn12) ?_
  obtain rfl := Option.some.inj h
  exact fr_vret F E rfl dX3_settle_151
theorem tX3_settle_77 {K : fr_K} {u0 : fr_N} {nz : fr_N} (F : fr_F YX3_settle K) (E : fr_R YX3_settle K none (nz, u0)) {x1 : Int32} {x2 : Int32} {x3 : Int32} {s0 : Int32} {n0 : fr_N} (h : fX3_settle_77 x1 x2 x3 s0 n0 = some nz) : fr_V YX3_settle K 77 [some (.ref 11), some (.int x1), some (.int x2), some (.int x3), none, none] [.int s0] (n0, u0) := by
  rw [fX3_settle_77] at h
  refine fr_istore (q := 79) F dX3_settle_77 rfl (by decide) rfl ?_
  refine fr_aload_n (q := 80) F dX3_settle_79 rfl rfl ?_
  refine fr_iload_n (q := 81) F dX3_settle_80 rfl rfl ?_
  refine fr_iconst (q := 82) (v := 1) F dX3_settle_81 rfl (by decide) ?_
  refine fr_iadd (q := 83) F dX3_settle_82 rfl ?_
  refine fr_iload (q := 85) F dX3_settle_83 rfl rfl ?_
  obtain ⟨r13, hr14, h⟩ := fr_bd_some h
  refine fr_callV (q := 88) (M' := (n0, u0)) (rest := []) (st' := [.int r13]) F dX3_settle_85 rfl (tX3_firstFree hr14) mlRX3_88 msX3_firstFree ⟨Nat.le_of_ble_eq_true rfl, Nat.le_of_ble_eq_true rfl⟩ (by decide) rfl rfl rfl (Nat.le_of_ble_eq_true rfl) rfl ?_
  refine fr_istore (q := 90) F dX3_settle_88 rfl (by decide) rfl ?_
  refine fr_iload (q := 92) F dX3_settle_90 rfl rfl ?_
  refine fr_ldc (q := 94) F dX3_settle_92 rfl kcRX3_50 ?_
  refine fr_icmp_eq (q := 97) (tgt := 108) F dX3_settle_94 (by decide) rfl (fun hc15 => ?_) (fun hc15 => ?_)
  · rw [if_pos hc15] at h
    refine fr_iload_n (q := 109) F dX3_settle_108 rfl rfl ?_
    refine fr_iconst (q := 110) (v := 3) F dX3_settle_109 rfl (by decide) ?_
    refine fr_icmp_eq (q := 113) (tgt := 118) F dX3_settle_110 (by decide) rfl (fun hc16 => ?_) (fun hc16 => ?_)
    · rw [if_pos hc16] at h
      exact fr_wj (tX3_settle_118 F E h) ⟨rfl, ⟨rfl, ⟨rfl, trivial⟩⟩⟩
    · rw [if_neg hc16] at h
      refine fr_iload_n (q := 114) F dX3_settle_113 rfl rfl ?_
      refine fr_iconst (q := 115) (v := 2) F dX3_settle_114 rfl (by decide) ?_
      refine fr_icmp_ne (q := 118) (tgt := 135) F dX3_settle_115 (by decide) rfl (fun hc17 => ?_) (fun hc17 => ?_)
      · rw [if_neg hc17] at h
        refine fr_aload_n (q := 136) F dX3_settle_135 rfl rfl ?_
        refine fr_gfR (q := 139) (j := 14) F dX3_settle_136 rfl faRX3_23 (by decide) rfl rfl ?_
        refine fr_iload_n (q := 140) F dX3_settle_139 rfl rfl ?_
        refine fr_iload_n (q := 141) F dX3_settle_140 rfl rfl ?_
        refine fr_iconst (q := 142) (v := 1) F dX3_settle_141 rfl (by decide) ?_
        refine fr_icmp_ne (q := 145) (tgt := 149) F dX3_settle_142 (by decide) rfl (fun hc18 => ?_) (fun hc18 => ?_)
        · rw [if_neg hc18] at h
          refine fr_iconst (q := 150) (v := 5) F dX3_settle_149 rfl (by decide) ?_
          exact fr_wj (tX3_settle_150 F E h) trivial
        · rw [if_pos hc18] at h
          refine fr_iconst (q := 146) (v := 4) F dX3_settle_145 rfl (by decide) ?_
          refine fr_goto (tgt := 150) F dX3_settle_146 (by decide) ?_
          exact fr_wj (tX3_settle_150 F E h) trivial
      · rw [if_pos hc17] at h
        exact fr_wj (tX3_settle_118 F E h) ⟨rfl, ⟨rfl, ⟨rfl, trivial⟩⟩⟩
  · rw [if_neg hc15] at h
    refine fr_aload_n (q := 98) F dX3_settle_97 rfl rfl ?_
    refine fr_iload_n (q := 99) F dX3_settle_98 rfl rfl ?_
    refine fr_iload (q := 101) F dX3_settle_99 rfl rfl ?_
    refine fr_iconst (q := 102) (v := 2) F dX3_settle_101 rfl (by decide) ?_
    obtain ⟨n21, hr20, h⟩ := fr_bd_some h
    refine fr_callV (q := 105) (M' := (n21, u0)) (rest := []) (st' := []) F dX3_settle_102 rfl (tX3_hold hr20) mlRX3_76 msX3_hold ⟨Nat.le_of_ble_eq_true rfl, Nat.le_of_ble_eq_true rfl⟩ (by decide) rfl rfl rfl (Nat.le_of_ble_eq_true rfl) rfl ?_
    refine fr_goto (tgt := 151) F dX3_settle_105 (by decide) ?_
    obtain rfl := Option.some.inj h
    exact fr_vret F E rfl dX3_settle_151
theorem tX3_settle_39 {K : fr_K} {u0 : fr_N} {nz : fr_N} (F : fr_F YX3_settle K) (E : fr_R YX3_settle K none (nz, u0)) {x1 : Int32} {x2 : Int32} {x3 : Int32} {n0 : fr_N} (h : fX3_settle_39 x1 x2 x3 n0 = some nz) : fr_V YX3_settle K 39 [some (.ref 11), some (.int x1), some (.int x2), some (.int x3), none, none] [] (n0, u0) := by
  rw [fX3_settle_39] at h
  refine fr_iload_n (q := 40) F dX3_settle_39 rfl rfl ?_
  refine fr_iconst (q := 41) (v := 3) F dX3_settle_40 rfl (by decide) ?_
  refine fr_icmp_le (q := 44) (tgt := 54) F dX3_settle_41 (by decide) rfl (fun hc22 => ?_) (fun hc22 => ?_)
  · rw [if_pos hc22] at h
    refine fr_iload_n (q := 55) F dX3_settle_54 rfl rfl ?_
    refine fr_iconst (q := 56) (v := 3) F dX3_settle_55 rfl (by decide) ?_
    refine fr_icmp_ne (q := 59) (tgt := 76) F dX3_settle_56 (by decide) rfl (fun hc23 => ?_) (fun hc23 => ?_)
    · rw [if_neg hc23] at h
      refine fr_iload_n (q := 77) F dX3_settle_76 rfl rfl ?_
      exact fr_wj (tX3_settle_77 F E h) ⟨rfl, ⟨rfl, ⟨rfl, ⟨rfl, trivial⟩⟩⟩⟩
    · rw [if_pos hc23] at h
      refine fr_iload_n (q := 60) F dX3_settle_59 rfl rfl ?_
      refine fr_bipush (q := 62) (v := 7) F dX3_settle_60 rfl (by decide) ?_
      refine fr_iadd (q := 63) F dX3_settle_62 rfl ?_
      refine fr_aload_n (q := 64) F dX3_settle_63 rfl rfl ?_
      refine fr_gfR (q := 67) (j := 12) F dX3_settle_64 rfl faRX3_15 (by decide) rfl rfl ?_
      refine fr_gfI (q := 70) (x := (n0 12 0)) F dX3_settle_67 rfl faRX3_80 (by decide) rfl rfl rfl ?_
      refine fr_min (q := 73) F dX3_settle_70 rfl mlRX3_83 mm_min ⟨Nat.le_of_ble_eq_true rfl, Nat.le_of_ble_eq_true rfl⟩ ?_
      refine fr_goto (tgt := 77) F dX3_settle_73 (by decide) ?_
      exact fr_wj (tX3_settle_77 F E h) ⟨rfl, ⟨rfl, ⟨rfl, ⟨rfl, trivial⟩⟩⟩⟩
  · rw [if_neg hc22] at h
    refine fr_aload_n (q := 45) F dX3_settle_44 rfl rfl ?_
    refine fr_gfR (q := 48) (j := 12) F dX3_settle_45 rfl faRX3_15 (by decide) rfl rfl ?_
    refine fr_gfI (q := 51) (x := (n0 12 0)) F dX3_settle_48 rfl faRX3_80 (by decide) rfl rfl rfl ?_
    refine fr_goto (tgt := 77) F dX3_settle_51 (by decide) ?_
    exact fr_wj (tX3_settle_77 F E h) ⟨rfl, ⟨rfl, ⟨rfl, ⟨rfl, trivial⟩⟩⟩⟩
theorem tX3_settle {l : Launch} {G : fr_G} {u0 : fr_N} {a1 : Int32} {a2 : Int32} {n0 : fr_N} {nz : fr_N} (h : fX3_settle a1 a2 n0 = some nz) : fr_Met l G YX3_settle [.ref 11, .int a1, .int a2] (n0, u0) none (nz, u0) := by
  refine fr_met (pad := List.replicate 3 none) (by decide) (Nat.le_of_ble_eq_true rfl) (fun _ h => List.eq_of_mem_replicate h) ⟨rfl, rfl⟩ (fun K F hG hL E => ?_)
  subst hG; subst hL
  rw [fX3_settle] at h
  show fr_V YX3_settle K 0 [some (.ref 11), some (.int a1), some (.int a2), none, none, none] [] (n0, u0)
  refine fr_aload_n (q := 1) F dX3_settle_0 rfl rfl ?_
  refine fr_gfR (q := 4) (j := 13) F dX3_settle_1 rfl faRX3_19 (by decide) rfl rfl ?_
  refine fr_iload_n (q := 5) F dX3_settle_4 rfl rfl ?_
  obtain ⟨hi24, h⟩ := fr_ck_some h
  refine fr_ial (q := 6) (x := (n0 13 (Int32.toNatClampNeg a1))) F dX3_settle_5 rfl hi24 (by decide) rfl rfl ?_
  refine fr_istore_n (q := 7) F dX3_settle_6 rfl (by decide) rfl ?_
  refine fr_aload_n (q := 8) F dX3_settle_7 rfl rfl ?_
  refine fr_iload_n (q := 9) F dX3_settle_8 rfl rfl ?_
  obtain ⟨r25, hr26, h⟩ := fr_bd_some h
  refine fr_callV (q := 12) (M' := (n0, u0)) (rest := []) (st' := [.int (fr_b r25)]) F dX3_settle_9 rfl (tX3_isFree hr26) mlRX3_69 msX3_isFree ⟨Nat.le_of_ble_eq_true rfl, Nat.le_of_ble_eq_true rfl⟩ (by decide) rfl rfl rfl (Nat.le_of_ble_eq_true rfl) rfl ?_
  refine fr_if_eqb (q := 15) (tgt := 39) F dX3_settle_12 (by decide) rfl (fun hc27 => ?_) (fun hc27 => ?_)
  · rw [if_neg hc27] at h
    exact fr_wj (tX3_settle_39 F E h) ⟨rfl, ⟨rfl, ⟨rfl, ⟨rfl, trivial⟩⟩⟩⟩
  · rw [if_pos hc27] at h
    refine fr_iload_n (q := 16) F dX3_settle_15 rfl rfl ?_
    refine fr_iconst (q := 17) (v := 2) F dX3_settle_16 rfl (by decide) ?_
    refine fr_icmp_gt (q := 20) (tgt := 31) F dX3_settle_17 (by decide) rfl (fun hc28 => ?_) (fun hc28 => ?_)
    · rw [if_pos hc28] at h
      exact fr_wj (tX3_settle_31 F E h) ⟨rfl, ⟨rfl, ⟨rfl, trivial⟩⟩⟩
    · rw [if_neg hc28] at h
      refine fr_aload_n (q := 21) F dX3_settle_20 rfl rfl ?_
      refine fr_gfR (q := 24) (j := 12) F dX3_settle_21 rfl faRX3_15 (by decide) rfl rfl ?_
      refine fr_iload_n (q := 25) F dX3_settle_24 rfl rfl ?_
      obtain ⟨r29, hr30, h⟩ := fr_bd_some h
      refine fr_callV (q := 28) (M' := (n0, u0)) (rest := []) (st' := [.int r29]) F dX3_settle_25 rfl (tX2_weekday hr30) mlRX3_73 msX2_weekday ⟨Nat.le_of_ble_eq_true rfl, Nat.le_of_ble_eq_true rfl⟩ (by decide) rfl rfl rfl (Nat.le_of_ble_eq_true rfl) rfl ?_
      refine fr_if_eq (q := 31) (tgt := 39) F dX3_settle_28 (by decide) rfl (fun hc31 => ?_) (fun hc31 => ?_)
      · rw [if_pos hc31] at h
        exact fr_wj (tX3_settle_39 F E h) ⟨rfl, ⟨rfl, ⟨rfl, ⟨rfl, trivial⟩⟩⟩⟩
      · rw [if_neg hc31] at h
        exact fr_wj (tX3_settle_31 F E h) ⟨rfl, ⟨rfl, ⟨rfl, trivial⟩⟩⟩
/-! FeastRota$Plan.settleAll (11, None, None) -/
def fX3_settleAll_2 : Nat → Int32 → Int32 → Int32 → fr_N → Option fr_N
  | 0, _, _, _, _ => none
  | k + 1, x1, x2, x3, n0 => if (n0 3 1) ≤ x3 then some n0 else fr_ck x3 12 (if (n0 13 (Int32.toNatClampNeg x3)) = (-1000000 : Int32) then (fX3_settleAll_2 k) x1 x2 (x3 + (1 : Int32)) n0 else fr_bd (fX1_mark_3 x3 (2 : Int32) n0) fun r4 => (if r4 = x1 then fr_bd (fX1_mark_3 x3 (0 : Int32) n0) fun r7 => (if r7 = x2 then fr_bd (fX3_settle x3 x1 n0) fun n12 => ((fX3_settleAll_2 k) x1 x2 (x3 + (1 : Int32)) n12) else (fX3_settleAll_2 k) x1 x2 (x3 + (1 : Int32)) n0) else (fX3_settleAll_2 k) x1 x2 (x3 + (1 : Int32)) n0))
def fX3_settleAll (a1 : Int32) (a2 : Int32) (n0 : fr_N) : Option fr_N := fX3_settleAll_2 2000 a1 a2 (0 : Int32) n0
theorem tX3_settleAll_2 {K : fr_K} {u0 : fr_N} {nz : fr_N} (F : fr_F YX3_settleAll K) (E : fr_R YX3_settleAll K none (nz, u0)) : ∀ (k : Nat) (x1 : Int32) (x2 : Int32) (x3 : Int32) (n0 : fr_N), fX3_settleAll_2 k x1 x2 x3 n0 = some nz → fr_V YX3_settleAll K 2 [some (.ref 11), some (.int x1), some (.int x2), some (.int x3)] [] (n0, u0) := by
  intro k
  induction k with
  | zero =>
    intro x1 x2 x3 n0 h
    rw [fX3_settleAll_2] at h
    cases h
  | succ k ih =>
    intro x1 x2 x3 n0 h
    rw [fX3_settleAll_2] at h
    refine fr_iload_n (q := 3) F dX3_settleAll_2 rfl rfl ?_
    refine fr_aload_n (q := 4) F dX3_settleAll_3 rfl rfl ?_
    refine fr_gfR (q := 7) (j := 3) F dX3_settleAll_4 rfl faRX3_9 (by decide) rfl rfl ?_
    refine fr_gfI (q := 10) (x := (n0 3 1)) F dX3_settleAll_7 rfl faRX3_44 (by decide) rfl rfl rfl ?_
    refine fr_icmp_ge (q := 13) (tgt := 62) F dX3_settleAll_10 (by decide) rfl (fun hc1 => ?_) (fun hc1 => ?_)
    · rw [if_pos hc1] at h
      obtain rfl := Option.some.inj h
      exact fr_vret F E rfl dX3_settleAll_62
    · rw [if_neg hc1] at h
      refine fr_aload_n (q := 14) F dX3_settleAll_13 rfl rfl ?_
      refine fr_gfR (q := 17) (j := 13) F dX3_settleAll_14 rfl faRX3_19 (by decide) rfl rfl ?_
      refine fr_iload_n (q := 18) F dX3_settleAll_17 rfl rfl ?_
      obtain ⟨hi2, h⟩ := fr_ck_some h
      refine fr_ial (q := 19) (x := (n0 13 (Int32.toNatClampNeg x3))) F dX3_settleAll_18 rfl hi2 (by decide) rfl rfl ?_
      refine fr_ldc (q := 21) F dX3_settleAll_19 rfl kcRX3_50 ?_
      refine fr_icmp_eq (q := 24) (tgt := 56) F dX3_settleAll_21 (by decide) rfl (fun hc3 => ?_) (fun hc3 => ?_)
      · rw [if_pos hc3] at h
        refine fr_iinc (q := 59) (v := (x3 + (1 : Int32))) F dX3_settleAll_56 rfl rfl rfl (by decide) rfl ?_
        refine fr_goto (tgt := 2) F dX3_settleAll_59 (by decide) ?_
        exact fr_wj (ih _ _ _ _ h) ⟨rfl, ⟨rfl, ⟨rfl, ⟨rfl, trivial⟩⟩⟩⟩
      · rw [if_neg hc3] at h
        refine fr_aload_n (q := 25) F dX3_settleAll_24 rfl rfl ?_
        refine fr_gfR (q := 28) (j := 3) F dX3_settleAll_25 rfl faRX3_9 (by decide) rfl rfl ?_
        refine fr_iload_n (q := 29) F dX3_settleAll_28 rfl rfl ?_
        refine fr_iconst (q := 30) (v := 2) F dX3_settleAll_29 rfl (by decide) ?_
        obtain ⟨r4, hr5, h⟩ := fr_bd_some h
        refine fr_callV (q := 33) (M' := (n0, u0)) (rest := []) (st' := [.int r4]) F dX3_settleAll_30 rfl (tX1_mark_3 hr5) mlRX3_59 msX1_mark ⟨Nat.le_of_ble_eq_true rfl, Nat.le_of_ble_eq_true rfl⟩ (by decide) rfl rfl rfl (Nat.le_of_ble_eq_true rfl) rfl ?_
        refine fr_iload_n (q := 34) F dX3_settleAll_33 rfl rfl ?_
        refine fr_icmp_ne (q := 37) (tgt := 56) F dX3_settleAll_34 (by decide) rfl (fun hc6 => ?_) (fun hc6 => ?_)
        · rw [if_neg hc6] at h
          refine fr_iinc (q := 59) (v := (x3 + (1 : Int32))) F dX3_settleAll_56 rfl rfl rfl (by decide) rfl ?_
          refine fr_goto (tgt := 2) F dX3_settleAll_59 (by decide) ?_
          exact fr_wj (ih _ _ _ _ h) ⟨rfl, ⟨rfl, ⟨rfl, ⟨rfl, trivial⟩⟩⟩⟩
        · rw [if_pos hc6] at h
          refine fr_aload_n (q := 38) F dX3_settleAll_37 rfl rfl ?_
          refine fr_gfR (q := 41) (j := 3) F dX3_settleAll_38 rfl faRX3_9 (by decide) rfl rfl ?_
          refine fr_iload_n (q := 42) F dX3_settleAll_41 rfl rfl ?_
          refine fr_iconst (q := 43) (v := 0) F dX3_settleAll_42 rfl (by decide) ?_
          obtain ⟨r7, hr8, h⟩ := fr_bd_some h
          refine fr_callV (q := 46) (M' := (n0, u0)) (rest := []) (st' := [.int r7]) F dX3_settleAll_43 rfl (tX1_mark_3 hr8) mlRX3_59 msX1_mark ⟨Nat.le_of_ble_eq_true rfl, Nat.le_of_ble_eq_true rfl⟩ (by decide) rfl rfl rfl (Nat.le_of_ble_eq_true rfl) rfl ?_
          refine fr_iload_n (q := 47) F dX3_settleAll_46 rfl rfl ?_
          refine fr_icmp_ne (q := 50) (tgt := 56) F dX3_settleAll_47 (by decide) rfl (fun hc9 => ?_) (fun hc9 => ?_)
          · rw [if_neg hc9] at h
            refine fr_iinc (q := 59) (v := (x3 + (1 : Int32))) F dX3_settleAll_56 rfl rfl rfl (by decide) rfl ?_
            refine fr_goto (tgt := 2) F dX3_settleAll_59 (by decide) ?_
            exact fr_wj (ih _ _ _ _ h) ⟨rfl, ⟨rfl, ⟨rfl, ⟨rfl, trivial⟩⟩⟩⟩
          · rw [if_pos hc9] at h
            refine fr_aload_n (q := 51) F dX3_settleAll_50 rfl rfl ?_
            refine fr_iload_n (q := 52) F dX3_settleAll_51 rfl rfl ?_
            refine fr_iload_n (q := 53) F dX3_settleAll_52 rfl rfl ?_
            obtain ⟨n12, hr11, h⟩ := fr_bd_some h
            refine fr_callV (q := 56) (M' := (n12, u0)) (rest := []) (st' := []) F dX3_settleAll_53 rfl (tX3_settle hr11) mlRX3_66 msX3_settle ⟨Nat.le_of_ble_eq_true rfl, Nat.le_of_ble_eq_true rfl⟩ (by decide) rfl rfl rfl (Nat.le_of_ble_eq_true rfl) rfl ?_
            refine fr_iinc (q := 59) (v := (x3 + (1 : Int32))) F dX3_settleAll_56 rfl rfl rfl (by decide) rfl ?_
            refine fr_goto (tgt := 2) F dX3_settleAll_59 (by decide) ?_
            exact fr_wj (ih _ _ _ _ h) ⟨rfl, ⟨rfl, ⟨rfl, ⟨rfl, trivial⟩⟩⟩⟩
theorem tX3_settleAll {l : Launch} {G : fr_G} {u0 : fr_N} {a1 : Int32} {a2 : Int32} {n0 : fr_N} {nz : fr_N} (h : fX3_settleAll a1 a2 n0 = some nz) : fr_Met l G YX3_settleAll [.ref 11, .int a1, .int a2] (n0, u0) none (nz, u0) := by
  refine fr_met (pad := List.replicate 1 none) (by decide) (Nat.le_of_ble_eq_true rfl) (fun _ h => List.eq_of_mem_replicate h) ⟨rfl, rfl⟩ (fun K F hG hL E => ?_)
  subst hG; subst hL
  rw [fX3_settleAll] at h
  show fr_V YX3_settleAll K 0 [some (.ref 11), some (.int a1), some (.int a2), none] [] (n0, u0)
  refine fr_iconst (q := 1) (v := 0) F dX3_settleAll_0 rfl (by decide) ?_
  refine fr_istore_n (q := 2) F dX3_settleAll_1 rfl (by decide) rfl ?_
  exact fr_wj (tX3_settleAll_2 F E _ _ _ _ _ h) ⟨rfl, ⟨rfl, ⟨rfl, ⟨rfl, trivial⟩⟩⟩⟩
/-! FeastRota$Calendar.unboundDay (12, None, None) -/
def fX2_unboundDay (a1 : Int32) (a2 : Int32) (n0 : fr_N) : Option Int32 := if a1 = (0 : Int32) then some ((n0 12 3) - a2) else (if a1 = (1 : Int32) then some ((n0 12 3) + a2) else (if a1 = (2 : Int32) then fr_bd (fX2_dayOfDate a2 n0) fun r4 => (fr_bd (fX2_sundayFrom r4 n0) fun r6 => (some r6)) else (fr_bd (fX2_dayOfDate a2 n0) fun r8 => (some r8))))
theorem tX2_unboundDay {l : Launch} {G : fr_G} {u0 : fr_N} {a1 : Int32} {a2 : Int32} {n0 : fr_N} {rz : Int32} (h : fX2_unboundDay a1 a2 n0 = some rz) : fr_Met l G YX2_unboundDay [.ref 12, .int a1, .int a2] (n0, u0) (some (.int rz)) (n0, u0) := by
  refine fr_met (pad := List.replicate 0 none) (by decide) (Nat.le_of_ble_eq_true rfl) (fun _ h => List.eq_of_mem_replicate h) ⟨rfl, rfl⟩ (fun K F hG hL E => ?_)
  subst hG; subst hL
  rw [fX2_unboundDay] at h
  show fr_V YX2_unboundDay K 0 [some (.ref 12), some (.int a1), some (.int a2)] [] (n0, u0)
  refine fr_iload_n (q := 1) F dX2_unboundDay_0 rfl rfl ?_
  by_cases hc1 : a1 = (0 : Int32)
  · rw [if_pos hc1] at h
    refine fr_tswI (k := 0) (off := 27) (tgt := 28) F hc1 dX2_unboundDay_1 (by decide) (by decide) (by decide) (by decide) ?_
    refine fr_aload_n (q := 29) F dX2_unboundDay_28 rfl rfl ?_
    refine fr_gfI (q := 32) (x := (n0 12 3)) F dX2_unboundDay_29 rfl faRX2_41 (by decide) rfl rfl rfl ?_
    refine fr_iload_n (q := 33) F dX2_unboundDay_32 rfl rfl ?_
    refine fr_isub (q := 34) F dX2_unboundDay_33 rfl ?_
    obtain rfl := Option.some.inj h
    exact fr_iret F E rfl dX2_unboundDay_34
  · rw [if_neg hc1] at h
    by_cases hc2 : a1 = (1 : Int32)
    · rw [if_pos hc2] at h
      refine fr_tswI (k := 1) (off := 34) (tgt := 35) F hc2 dX2_unboundDay_1 (by decide) (by decide) (by decide) (by decide) ?_
      refine fr_aload_n (q := 36) F dX2_unboundDay_35 rfl rfl ?_
      refine fr_gfI (q := 39) (x := (n0 12 3)) F dX2_unboundDay_36 rfl faRX2_41 (by decide) rfl rfl rfl ?_
      refine fr_iload_n (q := 40) F dX2_unboundDay_39 rfl rfl ?_
      refine fr_iadd (q := 41) F dX2_unboundDay_40 rfl ?_
      obtain rfl := Option.some.inj h
      exact fr_iret F E rfl dX2_unboundDay_41
    · rw [if_neg hc2] at h
      by_cases hc3 : a1 = (2 : Int32)
      · rw [if_pos hc3] at h
        refine fr_tswI (k := 2) (off := 41) (tgt := 42) F hc3 dX2_unboundDay_1 (by decide) (by decide) (by decide) (by decide) ?_
        refine fr_aload_n (q := 43) F dX2_unboundDay_42 rfl rfl ?_
        refine fr_aload_n (q := 44) F dX2_unboundDay_43 rfl rfl ?_
        refine fr_iload_n (q := 45) F dX2_unboundDay_44 rfl rfl ?_
        obtain ⟨r4, hr5, h⟩ := fr_bd_some h
        refine fr_callV (q := 48) (M' := (n0, u0)) (rest := [.ref 12]) (st' := [.int r4, .ref 12]) F dX2_unboundDay_45 rfl (tX2_dayOfDate hr5) mlRX2_31 msX2_dayOfDate ⟨Nat.le_of_ble_eq_true rfl, Nat.le_of_ble_eq_true rfl⟩ (by decide) rfl rfl rfl (Nat.le_of_ble_eq_true rfl) rfl ?_
        obtain ⟨r6, hr7, h⟩ := fr_bd_some h
        refine fr_callV (q := 51) (M' := (n0, u0)) (rest := []) (st' := [.int r6]) F dX2_unboundDay_48 rfl (tX2_sundayFrom hr7) mlRX2_38 msX2_sundayFrom ⟨Nat.le_of_ble_eq_true rfl, Nat.le_of_ble_eq_true rfl⟩ (by decide) rfl rfl rfl (Nat.le_of_ble_eq_true rfl) rfl ?_
        obtain rfl := Option.some.inj h
        exact fr_iret F E rfl dX2_unboundDay_51
      · rw [if_neg hc3] at h
        refine fr_tswO (tgt := 52) F dX2_unboundDay_1 (fr_out (n := 2) (by decide) (fun k hk => match k, hk with | 0, _ => hc1 | 1, _ => hc2 | 2, _ => hc3 | k + 3, hk => absurd hk (by omega))) (by decide) ?_
        refine fr_aload_n (q := 53) F dX2_unboundDay_52 rfl rfl ?_
        refine fr_iload_n (q := 54) F dX2_unboundDay_53 rfl rfl ?_
        obtain ⟨r8, hr9, h⟩ := fr_bd_some h
        refine fr_callV (q := 57) (M' := (n0, u0)) (rest := []) (st' := [.int r8]) F dX2_unboundDay_54 rfl (tX2_dayOfDate hr9) mlRX2_31 msX2_dayOfDate ⟨Nat.le_of_ble_eq_true rfl, Nat.le_of_ble_eq_true rfl⟩ (by decide) rfl rfl rfl (Nat.le_of_ble_eq_true rfl) rfl ?_
        obtain rfl := Option.some.inj h
        exact fr_iret F E rfl dX2_unboundDay_57
/-! FeastRota$Calendar.ownDay (12, None, None) -/
def fX2_ownDay (a1 : Int32) (a2 : Int32) (n0 : fr_N) : Option Int32 := fr_bd (fX2_unboundDay a1 a2 n0) fun r1 => (fr_bd (fX7_within r1 (1 : Int32) (n0 12 0)) fun r3 => (if r3 = true then some r1 else some (-1000000 : Int32)))
theorem tX2_ownDay {l : Launch} {G : fr_G} {u0 : fr_N} {a1 : Int32} {a2 : Int32} {n0 : fr_N} {rz : Int32} (h : fX2_ownDay a1 a2 n0 = some rz) : fr_Met l G YX2_ownDay [.ref 12, .int a1, .int a2] (n0, u0) (some (.int rz)) (n0, u0) := by
  refine fr_met (pad := List.replicate 1 none) (by decide) (Nat.le_of_ble_eq_true rfl) (fun _ h => List.eq_of_mem_replicate h) ⟨rfl, rfl⟩ (fun K F hG hL E => ?_)
  subst hG; subst hL
  rw [fX2_ownDay] at h
  show fr_V YX2_ownDay K 0 [some (.ref 12), some (.int a1), some (.int a2), none] [] (n0, u0)
  refine fr_aload_n (q := 1) F dX2_ownDay_0 rfl rfl ?_
  refine fr_iload_n (q := 2) F dX2_ownDay_1 rfl rfl ?_
  refine fr_iload_n (q := 3) F dX2_ownDay_2 rfl rfl ?_
  obtain ⟨r1, hr2, h⟩ := fr_bd_some h
  refine fr_callV (q := 6) (M' := (n0, u0)) (rest := []) (st' := [.int r1]) F dX2_ownDay_3 rfl (tX2_unboundDay hr2) mlRX2_51 msX2_unboundDay ⟨Nat.le_of_ble_eq_true rfl, Nat.le_of_ble_eq_true rfl⟩ (by decide) rfl rfl rfl (Nat.le_of_ble_eq_true rfl) rfl ?_
  refine fr_istore_n (q := 7) F dX2_ownDay_6 rfl (by decide) rfl ?_
  refine fr_iload_n (q := 8) F dX2_ownDay_7 rfl rfl ?_
  refine fr_iconst (q := 9) (v := 1) F dX2_ownDay_8 rfl (by decide) ?_
  refine fr_aload_n (q := 10) F dX2_ownDay_9 rfl rfl ?_
  refine fr_gfI (q := 13) (x := (n0 12 0)) F dX2_ownDay_10 rfl faRX2_21 (by decide) rfl rfl rfl ?_
  obtain ⟨r3, hr4, h⟩ := fr_bd_some h
  refine fr_callN (q := 16) (M' := (n0, u0)) (rest := []) (st' := [.int (fr_b r3)]) F dX2_ownDay_13 rfl (tX7_within hr4) rfl (by decide) msX7_within ⟨Nat.le_of_ble_eq_true rfl, Nat.le_of_ble_eq_true rfl⟩ rfl rfl (Nat.le_of_ble_eq_true rfl) rfl ?_
  refine fr_if_eqb (q := 19) (tgt := 23) F dX2_ownDay_16 (by decide) rfl (fun hc5 => ?_) (fun hc5 => ?_)
  · rw [if_neg hc5] at h
    refine fr_ldc (q := 25) F dX2_ownDay_23 rfl kcRX2_58 ?_
    obtain rfl := Option.some.inj h
    exact fr_iret F E rfl dX2_ownDay_25
  · rw [if_pos hc5] at h
    refine fr_iload_n (q := 20) F dX2_ownDay_19 rfl rfl ?_
    refine fr_goto (tgt := 25) F dX2_ownDay_20 (by decide) ?_
    obtain rfl := Option.some.inj h
    exact fr_iret F E rfl dX2_ownDay_25
/-! FeastRota$Plan.ownDayOf (11, None) -/
def fX3_ownDayOf (a1 : Int32) (n0 : fr_N) : Option Int32 := fr_bd (fX1_mark_3 a1 (0 : Int32) n0) fun r1 => (fr_bd (fX1_mark_3 a1 (1 : Int32) n0) fun r3 => (fr_bd (fX2_ownDay r1 r3 n0) fun r5 => (some r5)))
theorem tX3_ownDayOf {l : Launch} {G : fr_G} {u0 : fr_N} {a1 : Int32} {n0 : fr_N} {rz : Int32} (h : fX3_ownDayOf a1 n0 = some rz) : fr_Met l G YX3_ownDayOf [.ref 11, .int a1] (n0, u0) (some (.int rz)) (n0, u0) := by
  refine fr_met (pad := List.replicate 0 none) (by decide) (Nat.le_of_ble_eq_true rfl) (fun _ h => List.eq_of_mem_replicate h) ⟨rfl, rfl⟩ (fun K F hG hL E => ?_)
  subst hG; subst hL
  rw [fX3_ownDayOf] at h
  show fr_V YX3_ownDayOf K 0 [some (.ref 11), some (.int a1)] [] (n0, u0)
  refine fr_aload_n (q := 1) F dX3_ownDayOf_0 rfl rfl ?_
  refine fr_gfR (q := 4) (j := 12) F dX3_ownDayOf_1 rfl faRX3_15 (by decide) rfl rfl ?_
  refine fr_aload_n (q := 5) F dX3_ownDayOf_4 rfl rfl ?_
  refine fr_gfR (q := 8) (j := 3) F dX3_ownDayOf_5 rfl faRX3_9 (by decide) rfl rfl ?_
  refine fr_iload_n (q := 9) F dX3_ownDayOf_8 rfl rfl ?_
  refine fr_iconst (q := 10) (v := 0) F dX3_ownDayOf_9 rfl (by decide) ?_
  obtain ⟨r1, hr2, h⟩ := fr_bd_some h
  refine fr_callV (q := 13) (M' := (n0, u0)) (rest := [.ref 12]) (st' := [.int r1, .ref 12]) F dX3_ownDayOf_10 rfl (tX1_mark_3 hr2) mlRX3_59 msX1_mark ⟨Nat.le_of_ble_eq_true rfl, Nat.le_of_ble_eq_true rfl⟩ (by decide) rfl rfl rfl (Nat.le_of_ble_eq_true rfl) rfl ?_
  refine fr_aload_n (q := 14) F dX3_ownDayOf_13 rfl rfl ?_
  refine fr_gfR (q := 17) (j := 3) F dX3_ownDayOf_14 rfl faRX3_9 (by decide) rfl rfl ?_
  refine fr_iload_n (q := 18) F dX3_ownDayOf_17 rfl rfl ?_
  refine fr_iconst (q := 19) (v := 1) F dX3_ownDayOf_18 rfl (by decide) ?_
  obtain ⟨r3, hr4, h⟩ := fr_bd_some h
  refine fr_callV (q := 22) (M' := (n0, u0)) (rest := [.int r1, .ref 12]) (st' := [.int r3, .int r1, .ref 12]) F dX3_ownDayOf_19 rfl (tX1_mark_3 hr4) mlRX3_59 msX1_mark ⟨Nat.le_of_ble_eq_true rfl, Nat.le_of_ble_eq_true rfl⟩ (by decide) rfl rfl rfl (Nat.le_of_ble_eq_true rfl) rfl ?_
  obtain ⟨r5, hr6, h⟩ := fr_bd_some h
  refine fr_callV (q := 25) (M' := (n0, u0)) (rest := []) (st' := [.int r5]) F dX3_ownDayOf_22 rfl (tX2_ownDay hr6) mlRX3_63 msX2_ownDay ⟨Nat.le_of_ble_eq_true rfl, Nat.le_of_ble_eq_true rfl⟩ (by decide) rfl rfl rfl (Nat.le_of_ble_eq_true rfl) rfl ?_
  obtain rfl := Option.some.inj h
  exact fr_iret F E rfl dX3_ownDayOf_25
/-! FeastRota$Plan.lay (11, None, None) -/
def fX3_lay_53 (k22 : Int32 → Int32 → fr_N → Option fr_N) (x2 : Int32) (x3 : Int32) (s0 : Int32) (s1 : Int32) (n0 : fr_N) : Option fr_N := fr_ck s1 12 (fr_lt (fr_up n0 13 (Int32.toNatClampNeg s1) s0) fun n2 => (fr_ck x3 12 (fr_lt (fr_up n2 14 (Int32.toNatClampNeg x3) (0 : Int32)) fun n5 => (fr_ck x3 12 (fr_lt (fr_up n5 15 (Int32.toNatClampNeg x3) (-1000000 : Int32)) fun n8 => (k22 x2 (x3 + (1 : Int32)) n8))))))
def fX3_lay_85 (k77 : Int32 → fr_N → Option fr_N) : Nat → Int32 → Int32 → fr_N → Option fr_N
  | 0, _, _, _ => none
  | k + 1, x3, x4, n0 => if (3 : Int32) < x4 then k77 (x3 + (-1 : Int32)) n0 else fr_bd (fX3_settleAll x3 x4 n0) fun n13 => ((fX3_lay_85 k77 k) x3 (x4 + (1 : Int32)) n13)
def fX3_lay_77 : Nat → Int32 → fr_N → Option fr_N
  | 0, _, _ => none
  | k + 1, x3, n0 => if x3 < (1 : Int32) then some n0 else fX3_lay_85 (fX3_lay_77 k) 2000 x3 (0 : Int32) n0
def fX3_lay_22 : Nat → Int32 → Int32 → fr_N → Option fr_N
  | 0, _, _, _ => none
  | k + 1, x2, x3, n0 => if (n0 3 1) ≤ x3 then fX3_lay_77 2000 (5 : Int32) n0 else if x3 = x2 then fX3_lay_53 (fX3_lay_22 k) x2 x3 (-1000000 : Int32) x3 n0 else fr_bd (fX3_ownDayOf x3 n0) fun r17 => (fX3_lay_53 (fX3_lay_22 k) x2 x3 r17 x3 n0)
def fX3_lay (a1 : Int32) (a2 : Int32) (n0 : fr_N) : Option fr_N := fr_bd (fX2_turnTo a1 n0) fun n21 => (fr_bd (fJ7_fill_53178_16 (-1 : Int32) n21) fun n24 => (fX3_lay_22 2000 a2 (0 : Int32) n24))
theorem tX3_lay_53 {K : fr_K} {k22 : Int32 → Int32 → fr_N → Option fr_N} {u0 : fr_N} {nz : fr_N} (F : fr_F YX3_lay K) (E : fr_R YX3_lay K none (nz, u0)) (H22 : ∀ (y2 : Int32) (y3 : Int32) (n : fr_N), k22 y2 y3 n = some nz → fr_V YX3_lay K 22 [some (.ref 11), none, some (.int y2), some (.int y3), none] [] (n, u0)) {x2 : Int32} {x3 : Int32} {s0 : Int32} {s1 : Int32} {n0 : fr_N} (h : fX3_lay_53 k22 x2 x3 s0 s1 n0 = some nz) : fr_V YX3_lay K 53 [some (.ref 11), none, some (.int x2), some (.int x3), none] [.int s0, .int s1, .ref 13] (n0, u0) := by
  rw [fX3_lay_53] at h
  obtain ⟨hi1, h⟩ := fr_ck_some h
  obtain ⟨n2, hn3, h⟩ := fr_lt_some h
  refine fr_ias (q := 54) (M' := (n2, u0)) F dX3_lay_53 rfl hi1 (by decide) rfl (congrArg (fun z => (z, u0)) hn3) ?_
  refine fr_aload_n (q := 55) F dX3_lay_54 rfl rfl ?_
  refine fr_gfR (q := 58) (j := 14) F dX3_lay_55 rfl faRX3_23 (by decide) rfl rfl ?_
  refine fr_iload_n (q := 59) F dX3_lay_58 rfl rfl ?_
  refine fr_iconst (q := 60) (v := 0) F dX3_lay_59 rfl (by decide) ?_
  obtain ⟨hi4, h⟩ := fr_ck_some h
  obtain ⟨n5, hn6, h⟩ := fr_lt_some h
  refine fr_ias (q := 61) (M' := (n5, u0)) F dX3_lay_60 rfl hi4 (by decide) rfl (congrArg (fun z => (z, u0)) hn6) ?_
  refine fr_aload_n (q := 62) F dX3_lay_61 rfl rfl ?_
  refine fr_gfR (q := 65) (j := 15) F dX3_lay_62 rfl faRX3_26 (by decide) rfl rfl ?_
  refine fr_iload_n (q := 66) F dX3_lay_65 rfl rfl ?_
  refine fr_ldc (q := 68) F dX3_lay_66 rfl kcRX3_50 ?_
  obtain ⟨hi7, h⟩ := fr_ck_some h
  obtain ⟨n8, hn9, h⟩ := fr_lt_some h
  refine fr_ias (q := 69) (M' := (n8, u0)) F dX3_lay_68 rfl hi7 (by decide) rfl (congrArg (fun z => (z, u0)) hn9) ?_
  refine fr_iinc (q := 72) (v := (x3 + (1 : Int32))) F dX3_lay_69 rfl rfl rfl (by decide) rfl ?_
  refine fr_goto (tgt := 22) F dX3_lay_72 (by decide) ?_
  exact fr_wj (H22 _ _ _ h) ⟨rfl, ⟨rfl, ⟨rfl, trivial⟩⟩⟩
theorem tX3_lay_85 {K : fr_K} {k77 : Int32 → fr_N → Option fr_N} {u0 : fr_N} {nz : fr_N} (F : fr_F YX3_lay K) (E : fr_R YX3_lay K none (nz, u0)) (H77 : ∀ (y3 : Int32) (n : fr_N), k77 y3 n = some nz → fr_V YX3_lay K 77 [some (.ref 11), none, none, some (.int y3), none] [] (n, u0)) : ∀ (k : Nat) (x3 : Int32) (x4 : Int32) (n0 : fr_N), fX3_lay_85 k77 k x3 x4 n0 = some nz → fr_V YX3_lay K 85 [some (.ref 11), none, none, some (.int x3), some (.int x4)] [] (n0, u0) := by
  intro k
  induction k with
  | zero =>
    intro x3 x4 n0 h
    rw [fX3_lay_85] at h
    cases h
  | succ k ih =>
    intro x3 x4 n0 h
    rw [fX3_lay_85] at h
    refine fr_iload (q := 87) F dX3_lay_85 rfl rfl ?_
    refine fr_iconst (q := 88) (v := 3) F dX3_lay_87 rfl (by decide) ?_
    refine fr_icmp_gt (q := 91) (tgt := 104) F dX3_lay_88 (by decide) rfl (fun hc10 => ?_) (fun hc10 => ?_)
    · rw [if_pos hc10] at h
      refine fr_iinc (q := 107) (v := (x3 + (-1 : Int32))) F dX3_lay_104 rfl rfl rfl (by decide) rfl ?_
      refine fr_goto (tgt := 77) F dX3_lay_107 (by decide) ?_
      exact fr_wj (H77 _ _ h) ⟨rfl, ⟨rfl, trivial⟩⟩
    · rw [if_neg hc10] at h
      refine fr_aload_n (q := 92) F dX3_lay_91 rfl rfl ?_
      refine fr_iload_n (q := 93) F dX3_lay_92 rfl rfl ?_
      refine fr_iload (q := 95) F dX3_lay_93 rfl rfl ?_
      obtain ⟨n13, hr12, h⟩ := fr_bd_some h
      refine fr_callV (q := 98) (M' := (n13, u0)) (rest := []) (st' := []) F dX3_lay_95 rfl (tX3_settleAll hr12) mlRX3_55 msX3_settleAll ⟨Nat.le_of_ble_eq_true rfl, Nat.le_of_ble_eq_true rfl⟩ (by decide) rfl rfl rfl (Nat.le_of_ble_eq_true rfl) rfl ?_
      refine fr_iinc (q := 101) (v := (x4 + (1 : Int32))) F dX3_lay_98 rfl rfl rfl (by decide) rfl ?_
      refine fr_goto (tgt := 85) F dX3_lay_101 (by decide) ?_
      exact fr_wj (ih _ _ _ h) ⟨rfl, ⟨rfl, ⟨rfl, trivial⟩⟩⟩
theorem tX3_lay_77 {K : fr_K} {u0 : fr_N} {nz : fr_N} (F : fr_F YX3_lay K) (E : fr_R YX3_lay K none (nz, u0)) : ∀ (k : Nat) (x3 : Int32) (n0 : fr_N), fX3_lay_77 k x3 n0 = some nz → fr_V YX3_lay K 77 [some (.ref 11), none, none, some (.int x3), none] [] (n0, u0) := by
  intro k
  induction k with
  | zero =>
    intro x3 n0 h
    rw [fX3_lay_77] at h
    cases h
  | succ k ih =>
    intro x3 n0 h
    rw [fX3_lay_77] at h
    refine fr_iload_n (q := 78) F dX3_lay_77 rfl rfl ?_
    refine fr_iconst (q := 79) (v := 1) F dX3_lay_78 rfl (by decide) ?_
    refine fr_icmp_lt (q := 82) (tgt := 110) F dX3_lay_79 (by decide) rfl (fun hc14 => ?_) (fun hc14 => ?_)
    · rw [if_pos hc14] at h
      obtain rfl := Option.some.inj h
      exact fr_vret F E rfl dX3_lay_110
    · rw [if_neg hc14] at h
      refine fr_iconst (q := 83) (v := 0) F dX3_lay_82 rfl (by decide) ?_
      refine fr_istore (q := 85) F dX3_lay_83 rfl (by decide) rfl ?_
      exact fr_wj (tX3_lay_85 F E ih _ _ _ _ h) ⟨rfl, ⟨rfl, ⟨rfl, trivial⟩⟩⟩
theorem tX3_lay_22 {K : fr_K} {u0 : fr_N} {nz : fr_N} (F : fr_F YX3_lay K) (E : fr_R YX3_lay K none (nz, u0)) : ∀ (k : Nat) (x2 : Int32) (x3 : Int32) (n0 : fr_N), fX3_lay_22 k x2 x3 n0 = some nz → fr_V YX3_lay K 22 [some (.ref 11), none, some (.int x2), some (.int x3), none] [] (n0, u0) := by
  intro k
  induction k with
  | zero =>
    intro x2 x3 n0 h
    rw [fX3_lay_22] at h
    cases h
  | succ k ih =>
    intro x2 x3 n0 h
    rw [fX3_lay_22] at h
    refine fr_iload_n (q := 23) F dX3_lay_22 rfl rfl ?_
    refine fr_aload_n (q := 24) F dX3_lay_23 rfl rfl ?_
    refine fr_gfR (q := 27) (j := 3) F dX3_lay_24 rfl faRX3_9 (by decide) rfl rfl ?_
    refine fr_gfI (q := 30) (x := (n0 3 1)) F dX3_lay_27 rfl faRX3_44 (by decide) rfl rfl rfl ?_
    refine fr_icmp_ge (q := 33) (tgt := 75) F dX3_lay_30 (by decide) rfl (fun hc15 => ?_) (fun hc15 => ?_)
    · rw [if_pos hc15] at h
      refine fr_iconst (q := 76) (v := 5) F dX3_lay_75 rfl (by decide) ?_
      refine fr_istore_n (q := 77) F dX3_lay_76 rfl (by decide) rfl ?_
      exact fr_wj (tX3_lay_77 F E _ _ _ h) ⟨rfl, ⟨rfl, trivial⟩⟩
    · rw [if_neg hc15] at h
      refine fr_aload_n (q := 34) F dX3_lay_33 rfl rfl ?_
      refine fr_gfR (q := 37) (j := 13) F dX3_lay_34 rfl faRX3_19 (by decide) rfl rfl ?_
      refine fr_iload_n (q := 38) F dX3_lay_37 rfl rfl ?_
      refine fr_iload_n (q := 39) F dX3_lay_38 rfl rfl ?_
      refine fr_iload_n (q := 40) F dX3_lay_39 rfl rfl ?_
      refine fr_icmp_ne (q := 43) (tgt := 48) F dX3_lay_40 (by decide) rfl (fun hc16 => ?_) (fun hc16 => ?_)
      · rw [if_neg hc16] at h
        refine fr_aload_n (q := 49) F dX3_lay_48 rfl rfl ?_
        refine fr_iload_n (q := 50) F dX3_lay_49 rfl rfl ?_
        obtain ⟨r17, hr18, h⟩ := fr_bd_some h
        refine fr_callV (q := 53) (M' := (n0, u0)) (rest := [.int x3, .ref 13]) (st' := [.int r17, .int x3, .ref 13]) F dX3_lay_50 rfl (tX3_ownDayOf hr18) mlRX3_51 msX3_ownDayOf ⟨Nat.le_of_ble_eq_true rfl, Nat.le_of_ble_eq_true rfl⟩ (by decide) rfl rfl rfl (Nat.le_of_ble_eq_true rfl) rfl ?_
        exact fr_wj (tX3_lay_53 F E ih h) ⟨rfl, ⟨rfl, ⟨rfl, trivial⟩⟩⟩
      · rw [if_pos hc16] at h
        refine fr_ldc (q := 45) F dX3_lay_43 rfl kcRX3_50 ?_
        refine fr_goto (tgt := 53) F dX3_lay_45 (by decide) ?_
        exact fr_wj (tX3_lay_53 F E ih h) ⟨rfl, ⟨rfl, ⟨rfl, trivial⟩⟩⟩
theorem tX3_lay {l : Launch} {G : fr_G} {u0 : fr_N} {a1 : Int32} {a2 : Int32} {n0 : fr_N} {nz : fr_N} (h : fX3_lay a1 a2 n0 = some nz) : fr_Met l G YX3_lay [.ref 11, .int a1, .int a2] (n0, u0) none (nz, u0) := by
  refine fr_met (pad := List.replicate 2 none) (by decide) (Nat.le_of_ble_eq_true rfl) (fun _ h => List.eq_of_mem_replicate h) ⟨rfl, rfl⟩ (fun K F hG hL E => ?_)
  subst hG; subst hL
  rw [fX3_lay] at h
  show fr_V YX3_lay K 0 [some (.ref 11), some (.int a1), some (.int a2), none, none] [] (n0, u0)
  refine fr_aload_n (q := 1) F dX3_lay_0 rfl rfl ?_
  refine fr_gfR (q := 4) (j := 12) F dX3_lay_1 rfl faRX3_15 (by decide) rfl rfl ?_
  refine fr_aload_n (q := 5) F dX3_lay_4 rfl rfl ?_
  refine fr_gfR (q := 8) (j := 3) F dX3_lay_5 rfl faRX3_9 (by decide) rfl rfl ?_
  refine fr_iload_n (q := 9) F dX3_lay_8 rfl rfl ?_
  obtain ⟨n21, hr20, h⟩ := fr_bd_some h
  refine fr_callV (q := 12) (M' := (n21, u0)) (rest := []) (st' := []) F dX3_lay_9 rfl (tX2_turnTo hr20) mlRX3_32 msX2_turnTo ⟨Nat.le_of_ble_eq_true rfl, Nat.le_of_ble_eq_true rfl⟩ (by decide) rfl rfl rfl (Nat.le_of_ble_eq_true rfl) rfl ?_
  refine fr_aload_n (q := 13) F dX3_lay_12 rfl rfl ?_
  refine fr_gfR (q := 16) (j := 16) F dX3_lay_13 rfl faRX3_29 (by decide) rfl rfl ?_
  refine fr_iconst (q := 17) (v := (-1)) F dX3_lay_16 rfl (by decide) ?_
  obtain ⟨n24, hr23, h⟩ := fr_bd_some h
  refine fr_callS (q := 20) (M' := (n24, u0)) (rest := []) (st' := []) F dX3_lay_17 rfl (tJ7_fill_53178_16 hr23) mlRX3_38 msJ7_fill_53178 ⟨Nat.le_of_ble_eq_true rfl, Nat.le_of_ble_eq_true rfl⟩ rfl rfl (Nat.le_of_ble_eq_true rfl) rfl ?_
  refine fr_iconst (q := 21) (v := 0) F dX3_lay_20 rfl (by decide) ?_
  refine fr_istore_n (q := 22) F dX3_lay_21 rfl (by decide) rfl ?_
  exact fr_wj (tX3_lay_22 F E _ _ _ _ h) ⟨rfl, ⟨rfl, ⟨rfl, trivial⟩⟩⟩
/-! java/util/Arrays.fill (49, None) -/
def fJ7_fill_53178_49_5 : Nat → Int32 → Int32 → Int32 → fr_N → Option fr_N
  | 0, _, _, _, _ => none
  | k + 1, x1, x2, x3, n0 => if x3 ≤ x2 then some n0 else fr_ck x2 5 (fr_lt (fr_up n0 49 (Int32.toNatClampNeg x2) x1) fun n3 => ((fJ7_fill_53178_49_5 k) x1 (x2 + (1 : Int32)) x3 n3))
def fJ7_fill_53178_49 (a1 : Int32) (n0 : fr_N) : Option fr_N := fJ7_fill_53178_49_5 2000 a1 (0 : Int32) (5 : Int32) n0
theorem tJ7_fill_53178_49_5 {K : fr_K} {u0 : fr_N} {nz : fr_N} (F : fr_F YJ7_fill_53178 K) (E : fr_R YJ7_fill_53178 K none (nz, u0)) : ∀ (k : Nat) (x1 : Int32) (x2 : Int32) (x3 : Int32) (n0 : fr_N), fJ7_fill_53178_49_5 k x1 x2 x3 n0 = some nz → fr_V YJ7_fill_53178 K 5 [some (.ref 49), some (.int x1), some (.int x2), some (.int x3)] [] (n0, u0) := by
  intro k
  induction k with
  | zero =>
    intro x1 x2 x3 n0 h
    rw [fJ7_fill_53178_49_5] at h
    cases h
  | succ k ih =>
    intro x1 x2 x3 n0 h
    rw [fJ7_fill_53178_49_5] at h
    refine fr_iload_n (q := 6) F dJ7_fill_53178_5 rfl rfl ?_
    refine fr_iload_n (q := 7) F dJ7_fill_53178_6 rfl rfl ?_
    refine fr_icmp_ge (q := 10) (tgt := 20) F dJ7_fill_53178_7 (by decide) rfl (fun hc1 => ?_) (fun hc1 => ?_)
    · rw [if_pos hc1] at h
      obtain rfl := Option.some.inj h
      exact fr_vret F E rfl dJ7_fill_53178_20
    · rw [if_neg hc1] at h
      refine fr_aload_n (q := 11) F dJ7_fill_53178_10 rfl rfl ?_
      refine fr_iload_n (q := 12) F dJ7_fill_53178_11 rfl rfl ?_
      refine fr_iload_n (q := 13) F dJ7_fill_53178_12 rfl rfl ?_
      obtain ⟨hi2, h⟩ := fr_ck_some h
      obtain ⟨n3, hn4, h⟩ := fr_lt_some h
      refine fr_ias (q := 14) (M' := (n3, u0)) F dJ7_fill_53178_13 rfl hi2 (by decide) rfl (congrArg (fun z => (z, u0)) hn4) ?_
      refine fr_iinc (q := 17) (v := (x2 + (1 : Int32))) F dJ7_fill_53178_14 rfl rfl rfl (by decide) rfl ?_
      refine fr_goto (tgt := 5) F dJ7_fill_53178_17 (by decide) ?_
      exact fr_wj (ih _ _ _ _ h) ⟨rfl, ⟨rfl, ⟨rfl, ⟨rfl, trivial⟩⟩⟩⟩
theorem tJ7_fill_53178_49 {l : Launch} {G : fr_G} {u0 : fr_N} {a1 : Int32} {n0 : fr_N} {nz : fr_N} (h : fJ7_fill_53178_49 a1 n0 = some nz) : fr_Met l G YJ7_fill_53178 [.ref 49, .int a1] (n0, u0) none (nz, u0) := by
  refine fr_met (pad := List.replicate 2 none) (by decide) (Nat.le_of_ble_eq_true rfl) (fun _ h => List.eq_of_mem_replicate h) ⟨rfl, rfl⟩ (fun K F hG hL E => ?_)
  subst hG; subst hL
  rw [fJ7_fill_53178_49] at h
  show fr_V YJ7_fill_53178 K 0 [some (.ref 49), some (.int a1), none, none] [] (n0, u0)
  refine fr_iconst (q := 1) (v := 0) F dJ7_fill_53178_0 rfl (by decide) ?_
  refine fr_istore_n (q := 2) F dJ7_fill_53178_1 rfl (by decide) rfl ?_
  refine fr_aload_n (q := 3) F dJ7_fill_53178_2 rfl rfl ?_
  refine fr_len (q := 4) (kd := 0) (x := 5) F dJ7_fill_53178_3 rfl (by decide) rfl (by decide) ?_
  refine fr_istore_n (q := 5) F dJ7_fill_53178_4 rfl (by decide) rfl ?_
  exact fr_wj (tJ7_fill_53178_49_5 F E _ _ _ _ _ h) ⟨rfl, ⟨rfl, ⟨rfl, ⟨rfl, trivial⟩⟩⟩⟩
/-! java/util/Arrays.fill (50, None) -/
def fJ7_fill_53178_50_5 : Nat → Int32 → Int32 → Int32 → fr_N → Option fr_N
  | 0, _, _, _, _ => none
  | k + 1, x1, x2, x3, n0 => if x3 ≤ x2 then some n0 else fr_ck x2 5 (fr_lt (fr_up n0 50 (Int32.toNatClampNeg x2) x1) fun n3 => ((fJ7_fill_53178_50_5 k) x1 (x2 + (1 : Int32)) x3 n3))
def fJ7_fill_53178_50 (a1 : Int32) (n0 : fr_N) : Option fr_N := fJ7_fill_53178_50_5 2000 a1 (0 : Int32) (5 : Int32) n0
theorem tJ7_fill_53178_50_5 {K : fr_K} {u0 : fr_N} {nz : fr_N} (F : fr_F YJ7_fill_53178 K) (E : fr_R YJ7_fill_53178 K none (nz, u0)) : ∀ (k : Nat) (x1 : Int32) (x2 : Int32) (x3 : Int32) (n0 : fr_N), fJ7_fill_53178_50_5 k x1 x2 x3 n0 = some nz → fr_V YJ7_fill_53178 K 5 [some (.ref 50), some (.int x1), some (.int x2), some (.int x3)] [] (n0, u0) := by
  intro k
  induction k with
  | zero =>
    intro x1 x2 x3 n0 h
    rw [fJ7_fill_53178_50_5] at h
    cases h
  | succ k ih =>
    intro x1 x2 x3 n0 h
    rw [fJ7_fill_53178_50_5] at h
    refine fr_iload_n (q := 6) F dJ7_fill_53178_5 rfl rfl ?_
    refine fr_iload_n (q := 7) F dJ7_fill_53178_6 rfl rfl ?_
    refine fr_icmp_ge (q := 10) (tgt := 20) F dJ7_fill_53178_7 (by decide) rfl (fun hc1 => ?_) (fun hc1 => ?_)
    · rw [if_pos hc1] at h
      obtain rfl := Option.some.inj h
      exact fr_vret F E rfl dJ7_fill_53178_20
    · rw [if_neg hc1] at h
      refine fr_aload_n (q := 11) F dJ7_fill_53178_10 rfl rfl ?_
      refine fr_iload_n (q := 12) F dJ7_fill_53178_11 rfl rfl ?_
      refine fr_iload_n (q := 13) F dJ7_fill_53178_12 rfl rfl ?_
      obtain ⟨hi2, h⟩ := fr_ck_some h
      obtain ⟨n3, hn4, h⟩ := fr_lt_some h
      refine fr_ias (q := 14) (M' := (n3, u0)) F dJ7_fill_53178_13 rfl hi2 (by decide) rfl (congrArg (fun z => (z, u0)) hn4) ?_
      refine fr_iinc (q := 17) (v := (x2 + (1 : Int32))) F dJ7_fill_53178_14 rfl rfl rfl (by decide) rfl ?_
      refine fr_goto (tgt := 5) F dJ7_fill_53178_17 (by decide) ?_
      exact fr_wj (ih _ _ _ _ h) ⟨rfl, ⟨rfl, ⟨rfl, ⟨rfl, trivial⟩⟩⟩⟩
theorem tJ7_fill_53178_50 {l : Launch} {G : fr_G} {u0 : fr_N} {a1 : Int32} {n0 : fr_N} {nz : fr_N} (h : fJ7_fill_53178_50 a1 n0 = some nz) : fr_Met l G YJ7_fill_53178 [.ref 50, .int a1] (n0, u0) none (nz, u0) := by
  refine fr_met (pad := List.replicate 2 none) (by decide) (Nat.le_of_ble_eq_true rfl) (fun _ h => List.eq_of_mem_replicate h) ⟨rfl, rfl⟩ (fun K F hG hL E => ?_)
  subst hG; subst hL
  rw [fJ7_fill_53178_50] at h
  show fr_V YJ7_fill_53178 K 0 [some (.ref 50), some (.int a1), none, none] [] (n0, u0)
  refine fr_iconst (q := 1) (v := 0) F dJ7_fill_53178_0 rfl (by decide) ?_
  refine fr_istore_n (q := 2) F dJ7_fill_53178_1 rfl (by decide) rfl ?_
  refine fr_aload_n (q := 3) F dJ7_fill_53178_2 rfl rfl ?_
  refine fr_len (q := 4) (kd := 0) (x := 5) F dJ7_fill_53178_3 rfl (by decide) rfl (by decide) ?_
  refine fr_istore_n (q := 5) F dJ7_fill_53178_4 rfl (by decide) rfl ?_
  exact fr_wj (tJ7_fill_53178_50_5 F E _ _ _ _ _ h) ⟨rfl, ⟨rfl, ⟨rfl, ⟨rfl, trivial⟩⟩⟩⟩
/-! FeastRota$Plan.holderOf (11, None) -/
def fX3_holderOf (a1 : Int32) (n0 : fr_N) : Option Int32 := fr_bd (fX7_within a1 (1 : Int32) (n0 12 0)) fun r1 => (if r1 = true then fr_ck a1 367 (some (n0 16 (Int32.toNatClampNeg a1))) else some (-1 : Int32))
theorem tX3_holderOf {l : Launch} {G : fr_G} {u0 : fr_N} {a1 : Int32} {n0 : fr_N} {rz : Int32} (h : fX3_holderOf a1 n0 = some rz) : fr_Met l G YX3_holderOf [.ref 11, .int a1] (n0, u0) (some (.int rz)) (n0, u0) := by
  refine fr_met (pad := List.replicate 0 none) (by decide) (Nat.le_of_ble_eq_true rfl) (fun _ h => List.eq_of_mem_replicate h) ⟨rfl, rfl⟩ (fun K F hG hL E => ?_)
  subst hG; subst hL
  rw [fX3_holderOf] at h
  show fr_V YX3_holderOf K 0 [some (.ref 11), some (.int a1)] [] (n0, u0)
  refine fr_iload_n (q := 1) F dX3_holderOf_0 rfl rfl ?_
  refine fr_iconst (q := 2) (v := 1) F dX3_holderOf_1 rfl (by decide) ?_
  refine fr_aload_n (q := 3) F dX3_holderOf_2 rfl rfl ?_
  refine fr_gfR (q := 6) (j := 12) F dX3_holderOf_3 rfl faRX3_15 (by decide) rfl rfl ?_
  refine fr_gfI (q := 9) (x := (n0 12 0)) F dX3_holderOf_6 rfl faRX3_80 (by decide) rfl rfl rfl ?_
  obtain ⟨r1, hr2, h⟩ := fr_bd_some h
  refine fr_callN (q := 12) (M' := (n0, u0)) (rest := []) (st' := [.int (fr_b r1)]) F dX3_holderOf_9 rfl (tX7_within hr2) rfl (by decide) msX7_within ⟨Nat.le_of_ble_eq_true rfl, Nat.le_of_ble_eq_true rfl⟩ rfl rfl (Nat.le_of_ble_eq_true rfl) rfl ?_
  refine fr_if_eqb (q := 15) (tgt := 24) F dX3_holderOf_12 (by decide) rfl (fun hc3 => ?_) (fun hc3 => ?_)
  · rw [if_neg hc3] at h
    refine fr_iconst (q := 25) (v := (-1)) F dX3_holderOf_24 rfl (by decide) ?_
    obtain rfl := Option.some.inj h
    exact fr_iret F E rfl dX3_holderOf_25
  · rw [if_pos hc3] at h
    refine fr_aload_n (q := 16) F dX3_holderOf_15 rfl rfl ?_
    refine fr_gfR (q := 19) (j := 16) F dX3_holderOf_16 rfl faRX3_29 (by decide) rfl rfl ?_
    refine fr_iload_n (q := 20) F dX3_holderOf_19 rfl rfl ?_
    obtain ⟨hi4, h⟩ := fr_ck_some h
    refine fr_ial (q := 21) (x := (n0 16 (Int32.toNatClampNeg a1))) F dX3_holderOf_20 rfl hi4 (by decide) rfl rfl ?_
    refine fr_goto (tgt := 25) F dX3_holderOf_21 (by decide) ?_
    obtain rfl := Option.some.inj h
    exact fr_iret F E rfl dX3_holderOf_25
/-! FeastRota$Plan.rankOf (11, None) -/
def fX3_rankOf (a1 : Int32) (n0 : fr_N) : Option Int32 := fr_bd (fX3_holderOf a1 n0) fun r1 => (if r1 = (-1 : Int32) then fr_bd (fX2_weekday a1 n0) fun r4 => (if r4 = 0 then some (3 : Int32) else some (0 : Int32)) else fr_bd (fX1_mark_3 r1 (2 : Int32) n0) fun r7 => (some r7))
theorem tX3_rankOf {l : Launch} {G : fr_G} {u0 : fr_N} {a1 : Int32} {n0 : fr_N} {rz : Int32} (h : fX3_rankOf a1 n0 = some rz) : fr_Met l G YX3_rankOf [.ref 11, .int a1] (n0, u0) (some (.int rz)) (n0, u0) := by
  refine fr_met (pad := List.replicate 1 none) (by decide) (Nat.le_of_ble_eq_true rfl) (fun _ h => List.eq_of_mem_replicate h) ⟨rfl, rfl⟩ (fun K F hG hL E => ?_)
  subst hG; subst hL
  rw [fX3_rankOf] at h
  show fr_V YX3_rankOf K 0 [some (.ref 11), some (.int a1), none] [] (n0, u0)
  refine fr_aload_n (q := 1) F dX3_rankOf_0 rfl rfl ?_
  refine fr_iload_n (q := 2) F dX3_rankOf_1 rfl rfl ?_
  obtain ⟨r1, hr2, h⟩ := fr_bd_some h
  refine fr_callV (q := 5) (M' := (n0, u0)) (rest := []) (st' := [.int r1]) F dX3_rankOf_2 rfl (tX3_holderOf hr2) mlRX3_95 msX3_holderOf ⟨Nat.le_of_ble_eq_true rfl, Nat.le_of_ble_eq_true rfl⟩ (by decide) rfl rfl rfl (Nat.le_of_ble_eq_true rfl) rfl ?_
  refine fr_istore_n (q := 6) F dX3_rankOf_5 rfl (by decide) rfl ?_
  refine fr_iload_n (q := 7) F dX3_rankOf_6 rfl rfl ?_
  refine fr_iconst (q := 8) (v := (-1)) F dX3_rankOf_7 rfl (by decide) ?_
  refine fr_icmp_eq (q := 11) (tgt := 21) F dX3_rankOf_8 (by decide) rfl (fun hc3 => ?_) (fun hc3 => ?_)
  · rw [if_pos hc3] at h
    refine fr_aload_n (q := 22) F dX3_rankOf_21 rfl rfl ?_
    refine fr_gfR (q := 25) (j := 12) F dX3_rankOf_22 rfl faRX3_15 (by decide) rfl rfl ?_
    refine fr_iload_n (q := 26) F dX3_rankOf_25 rfl rfl ?_
    obtain ⟨r4, hr5, h⟩ := fr_bd_some h
    refine fr_callV (q := 29) (M' := (n0, u0)) (rest := []) (st' := [.int r4]) F dX3_rankOf_26 rfl (tX2_weekday hr5) mlRX3_73 msX2_weekday ⟨Nat.le_of_ble_eq_true rfl, Nat.le_of_ble_eq_true rfl⟩ (by decide) rfl rfl rfl (Nat.le_of_ble_eq_true rfl) rfl ?_
    refine fr_if_ne (q := 32) (tgt := 36) F dX3_rankOf_29 (by decide) rfl (fun hc6 => ?_) (fun hc6 => ?_)
    · rw [if_neg hc6] at h
      refine fr_iconst (q := 37) (v := 0) F dX3_rankOf_36 rfl (by decide) ?_
      obtain rfl := Option.some.inj h
      exact fr_iret F E rfl dX3_rankOf_37
    · rw [if_pos hc6] at h
      refine fr_iconst (q := 33) (v := 3) F dX3_rankOf_32 rfl (by decide) ?_
      refine fr_goto (tgt := 37) F dX3_rankOf_33 (by decide) ?_
      obtain rfl := Option.some.inj h
      exact fr_iret F E rfl dX3_rankOf_37
  · rw [if_neg hc3] at h
    refine fr_aload_n (q := 12) F dX3_rankOf_11 rfl rfl ?_
    refine fr_gfR (q := 15) (j := 3) F dX3_rankOf_12 rfl faRX3_9 (by decide) rfl rfl ?_
    refine fr_iload_n (q := 16) F dX3_rankOf_15 rfl rfl ?_
    refine fr_iconst (q := 17) (v := 2) F dX3_rankOf_16 rfl (by decide) ?_
    obtain ⟨r7, hr8, h⟩ := fr_bd_some h
    refine fr_callV (q := 20) (M' := (n0, u0)) (rest := []) (st' := [.int r7]) F dX3_rankOf_17 rfl (tX1_mark_3 hr8) mlRX3_59 msX1_mark ⟨Nat.le_of_ble_eq_true rfl, Nat.le_of_ble_eq_true rfl⟩ (by decide) rfl rfl rfl (Nat.le_of_ble_eq_true rfl) rfl ?_
    obtain rfl := Option.some.inj h
    exact fr_iret F E rfl dX3_rankOf_20
/-! FeastRota$Plan.servicesOf (11, None) -/
def fX3_servicesOf (a1 : Int32) (n0 : fr_N) : Option Int32 := fr_bd (fX3_rankOf a1 n0) fun r1 => (fr_bd (fX7_within r1 (0 : Int32) ((6 : Int32) - (1 : Int32))) fun r3 => (if r3 = true then fr_ck r1 6 (some (fr_tb3 (Int32.toNatClampNeg r1))) else some (0 : Int32)))
theorem tX3_servicesOf {l : Launch} {G : fr_G} {u0 : fr_N} {a1 : Int32} {n0 : fr_N} {rz : Int32} (h : fX3_servicesOf a1 n0 = some rz) : fr_Met l G YX3_servicesOf [.ref 11, .int a1] (n0, u0) (some (.int rz)) (n0, u0) := by
  refine fr_met (pad := List.replicate 1 none) (by decide) (Nat.le_of_ble_eq_true rfl) (fun _ h => List.eq_of_mem_replicate h) ⟨rfl, rfl⟩ (fun K F hG hL E => ?_)
  subst hG; subst hL
  rw [fX3_servicesOf] at h
  show fr_V YX3_servicesOf K 0 [some (.ref 11), some (.int a1), none] [] (n0, u0)
  refine fr_aload_n (q := 1) F dX3_servicesOf_0 rfl rfl ?_
  refine fr_iload_n (q := 2) F dX3_servicesOf_1 rfl rfl ?_
  obtain ⟨r1, hr2, h⟩ := fr_bd_some h
  refine fr_callV (q := 5) (M' := (n0, u0)) (rest := []) (st' := [.int r1]) F dX3_servicesOf_2 rfl (tX3_rankOf hr2) mlRX3_119 msX3_rankOf ⟨Nat.le_of_ble_eq_true rfl, Nat.le_of_ble_eq_true rfl⟩ (by decide) rfl rfl rfl (Nat.le_of_ble_eq_true rfl) rfl ?_
  refine fr_istore_n (q := 6) F dX3_servicesOf_5 rfl (by decide) rfl ?_
  refine fr_iload_n (q := 7) F dX3_servicesOf_6 rfl rfl ?_
  refine fr_iconst (q := 8) (v := 0) F dX3_servicesOf_7 rfl (by decide) ?_
  refine fr_gsN (q := 11) (k := 2) (j := 69) F dX3_servicesOf_8 rfl (by decide) (by decide) rfl ?_
  refine fr_tln (q := 12) (k := 2) F dX3_servicesOf_11 rfl (by decide) rfl ?_
  refine fr_iconst (q := 13) (v := 1) F dX3_servicesOf_12 rfl (by decide) ?_
  refine fr_isub (q := 14) F dX3_servicesOf_13 rfl ?_
  obtain ⟨r3, hr4, h⟩ := fr_bd_some h
  refine fr_callN (q := 17) (M' := (n0, u0)) (rest := []) (st' := [.int (fr_b r3)]) F dX3_servicesOf_14 rfl (tX7_within hr4) rfl (by decide) msX7_within ⟨Nat.le_of_ble_eq_true rfl, Nat.le_of_ble_eq_true rfl⟩ rfl rfl (Nat.le_of_ble_eq_true rfl) rfl ?_
  refine fr_if_eqb (q := 20) (tgt := 28) F dX3_servicesOf_17 (by decide) rfl (fun hc5 => ?_) (fun hc5 => ?_)
  · rw [if_neg hc5] at h
    refine fr_iconst (q := 29) (v := 0) F dX3_servicesOf_28 rfl (by decide) ?_
    obtain rfl := Option.some.inj h
    exact fr_iret F E rfl dX3_servicesOf_29
  · rw [if_pos hc5] at h
    refine fr_gsN (q := 23) (k := 2) (j := 69) F dX3_servicesOf_20 rfl (by decide) (by decide) rfl ?_
    refine fr_iload_n (q := 24) F dX3_servicesOf_23 rfl rfl ?_
    obtain ⟨hi6, h⟩ := fr_ck_some h
    refine fr_tal (q := 25) (k := 2) (x := (fr_tb3 (Int32.toNatClampNeg r1))) F dX3_servicesOf_24 rfl hi6 (by decide) rfl rfl ?_
    refine fr_goto (tgt := 29) F dX3_servicesOf_25 (by decide) ?_
    obtain rfl := Option.some.inj h
    exact fr_iret F E rfl dX3_servicesOf_29
/-! FeastRota$Rota.goesAheadOf (48, None, None, None) -/
def fX5_goesAheadOf (a1 : Int32) (a2 : Int32) (a3 : Int32) (n0 : fr_N) : Option Bool := fr_ck a1 5 (fr_ck a2 5 (if (n0 49 (Int32.toNatClampNeg a1)) = (n0 49 (Int32.toNatClampNeg a2)) then if a3 = (1 : Int32) then fr_ck a1 5 (fr_ck a2 5 (if (n0 50 (Int32.toNatClampNeg a2)) ≤ (n0 50 (Int32.toNatClampNeg a1)) then some false else some true)) else if a3 = (2 : Int32) then some true else some false else fr_ck a1 5 (fr_ck a2 5 (if (n0 49 (Int32.toNatClampNeg a2)) ≤ (n0 49 (Int32.toNatClampNeg a1)) then some false else some true))))
theorem tX5_goesAheadOf {l : Launch} {G : fr_G} {u0 : fr_N} {a1 : Int32} {a2 : Int32} {a3 : Int32} {n0 : fr_N} {rz : Bool} (h : fX5_goesAheadOf a1 a2 a3 n0 = some rz) : fr_Met l G YX5_goesAheadOf [.ref 48, .int a1, .int a2, .int a3] (n0, u0) (some (.int (fr_b rz))) (n0, u0) := by
  refine fr_met (pad := List.replicate 0 none) (by decide) (Nat.le_of_ble_eq_true rfl) (fun _ h => List.eq_of_mem_replicate h) ⟨rfl, rfl⟩ (fun K F hG hL E => ?_)
  subst hG; subst hL
  rw [fX5_goesAheadOf] at h
  show fr_V YX5_goesAheadOf K 0 [some (.ref 48), some (.int a1), some (.int a2), some (.int a3)] [] (n0, u0)
  refine fr_aload_n (q := 1) F dX5_goesAheadOf_0 rfl rfl ?_
  refine fr_gfR (q := 4) (j := 49) F dX5_goesAheadOf_1 rfl faRX5_19 (by decide) rfl rfl ?_
  refine fr_iload_n (q := 5) F dX5_goesAheadOf_4 rfl rfl ?_
  obtain ⟨hi1, h⟩ := fr_ck_some h
  refine fr_ial (q := 6) (x := (n0 49 (Int32.toNatClampNeg a1))) F dX5_goesAheadOf_5 rfl hi1 (by decide) rfl rfl ?_
  refine fr_aload_n (q := 7) F dX5_goesAheadOf_6 rfl rfl ?_
  refine fr_gfR (q := 10) (j := 49) F dX5_goesAheadOf_7 rfl faRX5_19 (by decide) rfl rfl ?_
  refine fr_iload_n (q := 11) F dX5_goesAheadOf_10 rfl rfl ?_
  obtain ⟨hi2, h⟩ := fr_ck_some h
  refine fr_ial (q := 12) (x := (n0 49 (Int32.toNatClampNeg a2))) F dX5_goesAheadOf_11 rfl hi2 (by decide) rfl rfl ?_
  refine fr_icmp_eq (q := 15) (tgt := 36) F dX5_goesAheadOf_12 (by decide) rfl (fun hc3 => ?_) (fun hc3 => ?_)
  · rw [if_pos hc3] at h
    refine fr_iload_n (q := 37) F dX5_goesAheadOf_36 rfl rfl ?_
    refine fr_iconst (q := 38) (v := 1) F dX5_goesAheadOf_37 rfl (by decide) ?_
    refine fr_icmp_ne (q := 41) (tgt := 62) F dX5_goesAheadOf_38 (by decide) rfl (fun hc4 => ?_) (fun hc4 => ?_)
    · rw [if_neg hc4] at h
      refine fr_iload_n (q := 63) F dX5_goesAheadOf_62 rfl rfl ?_
      refine fr_iconst (q := 64) (v := 2) F dX5_goesAheadOf_63 rfl (by decide) ?_
      refine fr_icmp_ne (q := 67) (tgt := 71) F dX5_goesAheadOf_64 (by decide) rfl (fun hc5 => ?_) (fun hc5 => ?_)
      · rw [if_neg hc5] at h
        refine fr_iconst (q := 72) (v := 0) F dX5_goesAheadOf_71 rfl (by decide) ?_
        obtain rfl := Option.some.inj h
        exact fr_zret F E rfl dX5_goesAheadOf_72
      · rw [if_pos hc5] at h
        refine fr_iconst (q := 68) (v := 1) F dX5_goesAheadOf_67 rfl (by decide) ?_
        refine fr_goto (tgt := 72) F dX5_goesAheadOf_68 (by decide) ?_
        obtain rfl := Option.some.inj h
        exact fr_zret F E rfl dX5_goesAheadOf_72
    · rw [if_pos hc4] at h
      refine fr_aload_n (q := 42) F dX5_goesAheadOf_41 rfl rfl ?_
      refine fr_gfR (q := 45) (j := 50) F dX5_goesAheadOf_42 rfl faRX5_23 (by decide) rfl rfl ?_
      refine fr_iload_n (q := 46) F dX5_goesAheadOf_45 rfl rfl ?_
      obtain ⟨hi6, h⟩ := fr_ck_some h
      refine fr_ial (q := 47) (x := (n0 50 (Int32.toNatClampNeg a1))) F dX5_goesAheadOf_46 rfl hi6 (by decide) rfl rfl ?_
      refine fr_aload_n (q := 48) F dX5_goesAheadOf_47 rfl rfl ?_
      refine fr_gfR (q := 51) (j := 50) F dX5_goesAheadOf_48 rfl faRX5_23 (by decide) rfl rfl ?_
      refine fr_iload_n (q := 52) F dX5_goesAheadOf_51 rfl rfl ?_
      obtain ⟨hi7, h⟩ := fr_ck_some h
      refine fr_ial (q := 53) (x := (n0 50 (Int32.toNatClampNeg a2))) F dX5_goesAheadOf_52 rfl hi7 (by decide) rfl rfl ?_
      refine fr_icmp_ge (q := 56) (tgt := 60) F dX5_goesAheadOf_53 (by decide) rfl (fun hc8 => ?_) (fun hc8 => ?_)
      · rw [if_pos hc8] at h
        refine fr_iconst (q := 61) (v := 0) F dX5_goesAheadOf_60 rfl (by decide) ?_
        obtain rfl := Option.some.inj h
        exact fr_zret F E rfl dX5_goesAheadOf_61
      · rw [if_neg hc8] at h
        refine fr_iconst (q := 57) (v := 1) F dX5_goesAheadOf_56 rfl (by decide) ?_
        refine fr_goto (tgt := 61) F dX5_goesAheadOf_57 (by decide) ?_
        obtain rfl := Option.some.inj h
        exact fr_zret F E rfl dX5_goesAheadOf_61
  · rw [if_neg hc3] at h
    refine fr_aload_n (q := 16) F dX5_goesAheadOf_15 rfl rfl ?_
    refine fr_gfR (q := 19) (j := 49) F dX5_goesAheadOf_16 rfl faRX5_19 (by decide) rfl rfl ?_
    refine fr_iload_n (q := 20) F dX5_goesAheadOf_19 rfl rfl ?_
    obtain ⟨hi9, h⟩ := fr_ck_some h
    refine fr_ial (q := 21) (x := (n0 49 (Int32.toNatClampNeg a1))) F dX5_goesAheadOf_20 rfl hi9 (by decide) rfl rfl ?_
    refine fr_aload_n (q := 22) F dX5_goesAheadOf_21 rfl rfl ?_
    refine fr_gfR (q := 25) (j := 49) F dX5_goesAheadOf_22 rfl faRX5_19 (by decide) rfl rfl ?_
    refine fr_iload_n (q := 26) F dX5_goesAheadOf_25 rfl rfl ?_
    obtain ⟨hi10, h⟩ := fr_ck_some h
    refine fr_ial (q := 27) (x := (n0 49 (Int32.toNatClampNeg a2))) F dX5_goesAheadOf_26 rfl hi10 (by decide) rfl rfl ?_
    refine fr_icmp_ge (q := 30) (tgt := 34) F dX5_goesAheadOf_27 (by decide) rfl (fun hc11 => ?_) (fun hc11 => ?_)
    · rw [if_pos hc11] at h
      refine fr_iconst (q := 35) (v := 0) F dX5_goesAheadOf_34 rfl (by decide) ?_
      obtain rfl := Option.some.inj h
      exact fr_zret F E rfl dX5_goesAheadOf_35
    · rw [if_neg hc11] at h
      refine fr_iconst (q := 31) (v := 1) F dX5_goesAheadOf_30 rfl (by decide) ?_
      refine fr_goto (tgt := 35) F dX5_goesAheadOf_31 (by decide) ?_
      obtain rfl := Option.some.inj h
      exact fr_zret F E rfl dX5_goesAheadOf_35
/-! FeastRota$Book.isAway (3, None, None) -/
def fX1_isAway_3 (a1 : Int32) (a2 : Int32) (n0 : fr_N) : Option Bool := fr_bd (fX1_hasChoir_3 a1 n0) fun r1 => (if r1 = true then fr_ck a1 5 (fr_ck a1 5 (fr_bd (fX7_within a2 (n0 9 (Int32.toNatClampNeg a1)) (n0 10 (Int32.toNatClampNeg a1))) fun r6 => (if r6 = true then some true else some false))) else some false)
theorem tX1_isAway_3 {l : Launch} {G : fr_G} {u0 : fr_N} {a1 : Int32} {a2 : Int32} {n0 : fr_N} {rz : Bool} (h : fX1_isAway_3 a1 a2 n0 = some rz) : fr_Met l G YX1_isAway [.ref 3, .int a1, .int a2] (n0, u0) (some (.int (fr_b rz))) (n0, u0) := by
  refine fr_met (pad := List.replicate 0 none) (by decide) (Nat.le_of_ble_eq_true rfl) (fun _ h => List.eq_of_mem_replicate h) ⟨rfl, rfl⟩ (fun K F hG hL E => ?_)
  subst hG; subst hL
  rw [fX1_isAway_3] at h
  show fr_V YX1_isAway K 0 [some (.ref 3), some (.int a1), some (.int a2)] [] (n0, u0)
  refine fr_aload_n (q := 1) F dX1_isAway_0 rfl rfl ?_
  refine fr_iload_n (q := 2) F dX1_isAway_1 rfl rfl ?_
  obtain ⟨r1, hr2, h⟩ := fr_bd_some h
  refine fr_callV (q := 5) (M' := (n0, u0)) (rest := []) (st' := [.int (fr_b r1)]) F dX1_isAway_2 rfl (tX1_hasChoir_3 hr2) mlRX1_74 msX1_hasChoir ⟨Nat.le_of_ble_eq_true rfl, Nat.le_of_ble_eq_true rfl⟩ (by decide) rfl rfl rfl (Nat.le_of_ble_eq_true rfl) rfl ?_
  refine fr_if_eqb (q := 8) (tgt := 31) F dX1_isAway_5 (by decide) rfl (fun hc3 => ?_) (fun hc3 => ?_)
  · rw [if_neg hc3] at h
    refine fr_iconst (q := 32) (v := 0) F dX1_isAway_31 rfl (by decide) ?_
    obtain rfl := Option.some.inj h
    exact fr_zret F E rfl dX1_isAway_32
  · rw [if_pos hc3] at h
    refine fr_iload_n (q := 9) F dX1_isAway_8 rfl rfl ?_
    refine fr_aload_n (q := 10) F dX1_isAway_9 rfl rfl ?_
    refine fr_gfR (q := 13) (j := 9) F dX1_isAway_10 rfl faRX1_27 (by decide) rfl rfl ?_
    refine fr_iload_n (q := 14) F dX1_isAway_13 rfl rfl ?_
    obtain ⟨hi4, h⟩ := fr_ck_some h
    refine fr_ial (q := 15) (x := (n0 9 (Int32.toNatClampNeg a1))) F dX1_isAway_14 rfl hi4 (by decide) rfl rfl ?_
    refine fr_aload_n (q := 16) F dX1_isAway_15 rfl rfl ?_
    refine fr_gfR (q := 19) (j := 10) F dX1_isAway_16 rfl faRX1_30 (by decide) rfl rfl ?_
    refine fr_iload_n (q := 20) F dX1_isAway_19 rfl rfl ?_
    obtain ⟨hi5, h⟩ := fr_ck_some h
    refine fr_ial (q := 21) (x := (n0 10 (Int32.toNatClampNeg a1))) F dX1_isAway_20 rfl hi5 (by decide) rfl rfl ?_
    obtain ⟨r6, hr7, h⟩ := fr_bd_some h
    refine fr_callN (q := 24) (M' := (n0, u0)) (rest := []) (st' := [.int (fr_b r6)]) F dX1_isAway_21 rfl (tX7_within hr7) rfl (by decide) msX7_within ⟨Nat.le_of_ble_eq_true rfl, Nat.le_of_ble_eq_true rfl⟩ rfl rfl (Nat.le_of_ble_eq_true rfl) rfl ?_
    refine fr_if_eqb (q := 27) (tgt := 31) F dX1_isAway_24 (by decide) rfl (fun hc8 => ?_) (fun hc8 => ?_)
    · rw [if_neg hc8] at h
      refine fr_iconst (q := 32) (v := 0) F dX1_isAway_31 rfl (by decide) ?_
      obtain rfl := Option.some.inj h
      exact fr_zret F E rfl dX1_isAway_32
    · rw [if_pos hc8] at h
      refine fr_iconst (q := 28) (v := 1) F dX1_isAway_27 rfl (by decide) ?_
      refine fr_goto (tgt := 32) F dX1_isAway_28 (by decide) ?_
      obtain rfl := Option.some.inj h
      exact fr_zret F E rfl dX1_isAway_32
/-! FeastRota$Rota.choose (48, None, None, None) -/
def fX5_choose_45 (k6 : Int32 → Int32 → Int32 → Int32 → Int32 → Option Int32) (n0 : fr_N) (x1 : Int32) (x2 : Int32) (x3 : Int32) (x4 : Int32) (x5 : Int32) (s0 : Bool) : Option Int32 := if s0 = true then if x4 = (-1 : Int32) then k6 x1 x2 x3 x5 (x5 + (1 : Int32)) else fr_bd (fX5_goesAheadOf x5 x4 x1 n0) fun r3 => (if r3 = true then k6 x1 x2 x3 x5 (x5 + (1 : Int32)) else k6 x1 x2 x3 x4 (x5 + (1 : Int32))) else k6 x1 x2 x3 x4 (x5 + (1 : Int32))
def fX5_choose_6 (n0 : fr_N) : Nat → Int32 → Int32 → Int32 → Int32 → Int32 → Option Int32
  | 0, _, _, _, _, _ => none
  | k + 1, x1, x2, x3, x4, x5 => if (n0 3 3) ≤ x5 then some x4 else if ((x3 >>> (x5 &&& 31)) &&& (1 : Int32)) = 0 then fr_bd (fX1_isAway_3 x5 x2 n0) fun r8 => (if r8 = true then fX5_choose_45 (fX5_choose_6 n0 k) n0 x1 x2 x3 x4 x5 false else fX5_choose_45 (fX5_choose_6 n0 k) n0 x1 x2 x3 x4 x5 true) else fX5_choose_45 (fX5_choose_6 n0 k) n0 x1 x2 x3 x4 x5 false
def fX5_choose (a1 : Int32) (a2 : Int32) (a3 : Int32) (n0 : fr_N) : Option Int32 := fX5_choose_6 n0 2000 a1 a2 a3 (-1 : Int32) (0 : Int32)
theorem tX5_choose_45 {K : fr_K} {k6 : Int32 → Int32 → Int32 → Int32 → Int32 → Option Int32} {u0 : fr_N} {n0 : fr_N} {rz : Int32} (F : fr_F YX5_choose K) (E : fr_R YX5_choose K (some (.int rz)) (n0, u0)) (H6 : ∀ (y1 : Int32) (y2 : Int32) (y3 : Int32) (y4 : Int32) (y5 : Int32), k6 y1 y2 y3 y4 y5 = some rz → fr_V YX5_choose K 6 [some (.ref 48), some (.int y1), some (.int y2), some (.int y3), some (.int y4), some (.int y5), none] [] (n0, u0)) {x1 : Int32} {x2 : Int32} {x3 : Int32} {x4 : Int32} {x5 : Int32} {s0 : Bool} (h : fX5_choose_45 k6 n0 x1 x2 x3 x4 x5 s0 = some rz) : fr_V YX5_choose K 45 [some (.ref 48), some (.int x1), some (.int x2), some (.int x3), some (.int x4), some (.int x5), none] [.int (fr_b s0)] (n0, u0) := by
  rw [fX5_choose_45] at h
  refine fr_istore (q := 47) F dX5_choose_45 rfl (by decide) rfl ?_
  refine fr_iload (q := 49) F dX5_choose_47 rfl rfl ?_
  refine fr_if_eqb (q := 52) (tgt := 74) F dX5_choose_49 (by decide) rfl (fun hc1 => ?_) (fun hc1 => ?_)
  · rw [if_neg hc1] at h
    refine fr_iinc (q := 77) (v := (x5 + (1 : Int32))) F dX5_choose_74 rfl rfl rfl (by decide) rfl ?_
    refine fr_goto (tgt := 6) F dX5_choose_77 (by decide) ?_
    exact fr_wj (H6 _ _ _ _ _ h) ⟨rfl, ⟨rfl, ⟨rfl, ⟨rfl, ⟨rfl, ⟨rfl, trivial⟩⟩⟩⟩⟩⟩
  · rw [if_pos hc1] at h
    refine fr_iload (q := 54) F dX5_choose_52 rfl rfl ?_
    refine fr_iconst (q := 55) (v := (-1)) F dX5_choose_54 rfl (by decide) ?_
    refine fr_icmp_eq (q := 58) (tgt := 70) F dX5_choose_55 (by decide) rfl (fun hc2 => ?_) (fun hc2 => ?_)
    · rw [if_pos hc2] at h
      refine fr_iload (q := 72) F dX5_choose_70 rfl rfl ?_
      refine fr_istore (q := 74) F dX5_choose_72 rfl (by decide) rfl ?_
      refine fr_iinc (q := 77) (v := (x5 + (1 : Int32))) F dX5_choose_74 rfl rfl rfl (by decide) rfl ?_
      refine fr_goto (tgt := 6) F dX5_choose_77 (by decide) ?_
      exact fr_wj (H6 _ _ _ _ _ h) ⟨rfl, ⟨rfl, ⟨rfl, ⟨rfl, ⟨rfl, ⟨rfl, trivial⟩⟩⟩⟩⟩⟩
    · rw [if_neg hc2] at h
      refine fr_aload_n (q := 59) F dX5_choose_58 rfl rfl ?_
      refine fr_iload (q := 61) F dX5_choose_59 rfl rfl ?_
      refine fr_iload (q := 63) F dX5_choose_61 rfl rfl ?_
      refine fr_iload_n (q := 64) F dX5_choose_63 rfl rfl ?_
      obtain ⟨r3, hr4, h⟩ := fr_bd_some h
      refine fr_callV (q := 67) (M' := (n0, u0)) (rest := []) (st' := [.int (fr_b r3)]) F dX5_choose_64 rfl (tX5_goesAheadOf hr4) mlRX5_78 msX5_goesAheadOf ⟨Nat.le_of_ble_eq_true rfl, Nat.le_of_ble_eq_true rfl⟩ (by decide) rfl rfl rfl (Nat.le_of_ble_eq_true rfl) rfl ?_
      refine fr_if_eqb (q := 70) (tgt := 74) F dX5_choose_67 (by decide) rfl (fun hc5 => ?_) (fun hc5 => ?_)
      · rw [if_neg hc5] at h
        refine fr_iinc (q := 77) (v := (x5 + (1 : Int32))) F dX5_choose_74 rfl rfl rfl (by decide) rfl ?_
        refine fr_goto (tgt := 6) F dX5_choose_77 (by decide) ?_
        exact fr_wj (H6 _ _ _ _ _ h) ⟨rfl, ⟨rfl, ⟨rfl, ⟨rfl, ⟨rfl, ⟨rfl, trivial⟩⟩⟩⟩⟩⟩
      · rw [if_pos hc5] at h
        refine fr_iload (q := 72) F dX5_choose_70 rfl rfl ?_
        refine fr_istore (q := 74) F dX5_choose_72 rfl (by decide) rfl ?_
        refine fr_iinc (q := 77) (v := (x5 + (1 : Int32))) F dX5_choose_74 rfl rfl rfl (by decide) rfl ?_
        refine fr_goto (tgt := 6) F dX5_choose_77 (by decide) ?_
        exact fr_wj (H6 _ _ _ _ _ h) ⟨rfl, ⟨rfl, ⟨rfl, ⟨rfl, ⟨rfl, ⟨rfl, trivial⟩⟩⟩⟩⟩⟩
theorem tX5_choose_6 {K : fr_K} {u0 : fr_N} {n0 : fr_N} {rz : Int32} (F : fr_F YX5_choose K) (E : fr_R YX5_choose K (some (.int rz)) (n0, u0)) : ∀ (k : Nat) (x1 : Int32) (x2 : Int32) (x3 : Int32) (x4 : Int32) (x5 : Int32), fX5_choose_6 n0 k x1 x2 x3 x4 x5 = some rz → fr_V YX5_choose K 6 [some (.ref 48), some (.int x1), some (.int x2), some (.int x3), some (.int x4), some (.int x5), none] [] (n0, u0) := by
  intro k
  induction k with
  | zero =>
    intro x1 x2 x3 x4 x5 h
    rw [fX5_choose_6] at h
    cases h
  | succ k ih =>
    intro x1 x2 x3 x4 x5 h
    rw [fX5_choose_6] at h
    refine fr_iload (q := 8) F dX5_choose_6 rfl rfl ?_
    refine fr_aload_n (q := 9) F dX5_choose_8 rfl rfl ?_
    refine fr_gfR (q := 12) (j := 3) F dX5_choose_9 rfl faRX5_9 (by decide) rfl rfl ?_
    refine fr_gfI (q := 15) (x := (n0 3 3)) F dX5_choose_12 rfl faRX5_69 (by decide) rfl rfl rfl ?_
    refine fr_icmp_ge (q := 18) (tgt := 80) F dX5_choose_15 (by decide) rfl (fun hc6 => ?_) (fun hc6 => ?_)
    · rw [if_pos hc6] at h
      refine fr_iload (q := 82) F dX5_choose_80 rfl rfl ?_
      obtain rfl := Option.some.inj h
      exact fr_iret F E rfl dX5_choose_82
    · rw [if_neg hc6] at h
      refine fr_iload_n (q := 19) F dX5_choose_18 rfl rfl ?_
      refine fr_iload (q := 21) F dX5_choose_19 rfl rfl ?_
      refine fr_ishr (q := 22) F dX5_choose_21 rfl ?_
      refine fr_iconst (q := 23) (v := 1) F dX5_choose_22 rfl (by decide) ?_
      refine fr_iand (q := 24) F dX5_choose_23 rfl ?_
      refine fr_if_ne (q := 27) (tgt := 44) F dX5_choose_24 (by decide) rfl (fun hc7 => ?_) (fun hc7 => ?_)
      · rw [if_neg hc7] at h
        refine fr_iconst (q := 45) (v := 0) F dX5_choose_44 rfl (by decide) ?_
        exact fr_wj (tX5_choose_45 F E ih h) ⟨rfl, ⟨rfl, ⟨rfl, ⟨rfl, ⟨rfl, ⟨rfl, trivial⟩⟩⟩⟩⟩⟩
      · rw [if_pos hc7] at h
        refine fr_aload_n (q := 28) F dX5_choose_27 rfl rfl ?_
        refine fr_gfR (q := 31) (j := 3) F dX5_choose_28 rfl faRX5_9 (by decide) rfl rfl ?_
        refine fr_iload (q := 33) F dX5_choose_31 rfl rfl ?_
        refine fr_iload_n (q := 34) F dX5_choose_33 rfl rfl ?_
        obtain ⟨r8, hr9, h⟩ := fr_bd_some h
        refine fr_callV (q := 37) (M' := (n0, u0)) (rest := []) (st' := [.int (fr_b r8)]) F dX5_choose_34 rfl (tX1_isAway_3 hr9) mlRX5_74 msX1_isAway ⟨Nat.le_of_ble_eq_true rfl, Nat.le_of_ble_eq_true rfl⟩ (by decide) rfl rfl rfl (Nat.le_of_ble_eq_true rfl) rfl ?_
        refine fr_if_neb (q := 40) (tgt := 44) F dX5_choose_37 (by decide) rfl (fun hc10 => ?_) (fun hc10 => ?_)
        · rw [if_pos hc10] at h
          refine fr_iconst (q := 45) (v := 0) F dX5_choose_44 rfl (by decide) ?_
          exact fr_wj (tX5_choose_45 F E ih h) ⟨rfl, ⟨rfl, ⟨rfl, ⟨rfl, ⟨rfl, ⟨rfl, trivial⟩⟩⟩⟩⟩⟩
        · rw [if_neg hc10] at h
          refine fr_iconst (q := 41) (v := 1) F dX5_choose_40 rfl (by decide) ?_
          refine fr_goto (tgt := 45) F dX5_choose_41 (by decide) ?_
          exact fr_wj (tX5_choose_45 F E ih h) ⟨rfl, ⟨rfl, ⟨rfl, ⟨rfl, ⟨rfl, ⟨rfl, trivial⟩⟩⟩⟩⟩⟩
theorem tX5_choose {l : Launch} {G : fr_G} {u0 : fr_N} {a1 : Int32} {a2 : Int32} {a3 : Int32} {n0 : fr_N} {rz : Int32} (h : fX5_choose a1 a2 a3 n0 = some rz) : fr_Met l G YX5_choose [.ref 48, .int a1, .int a2, .int a3] (n0, u0) (some (.int rz)) (n0, u0) := by
  refine fr_met (pad := List.replicate 3 none) (by decide) (Nat.le_of_ble_eq_true rfl) (fun _ h => List.eq_of_mem_replicate h) ⟨rfl, rfl⟩ (fun K F hG hL E => ?_)
  subst hG; subst hL
  rw [fX5_choose] at h
  show fr_V YX5_choose K 0 [some (.ref 48), some (.int a1), some (.int a2), some (.int a3), none, none, none] [] (n0, u0)
  refine fr_iconst (q := 1) (v := (-1)) F dX5_choose_0 rfl (by decide) ?_
  refine fr_istore (q := 3) F dX5_choose_1 rfl (by decide) rfl ?_
  refine fr_iconst (q := 4) (v := 0) F dX5_choose_3 rfl (by decide) ?_
  refine fr_istore (q := 6) F dX5_choose_4 rfl (by decide) rfl ?_
  exact fr_wj (tX5_choose_6 F E _ _ _ _ _ _ h) ⟨rfl, ⟨rfl, ⟨rfl, ⟨rfl, ⟨rfl, ⟨rfl, trivial⟩⟩⟩⟩⟩⟩
