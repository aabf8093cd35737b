/-! FeastRotaModel.readings (52, None) -/
def fX8_readings_4 (n0 : fr_N) : Nat → Int32 → Int32 → Int32 → Option Int32
  | 0, _, _, _ => none
  | k + 1, x1, x2, x3 => if x1 < x3 then some x2 else fr_bd (fX8_rankOf x3 n0) fun r2 => (if (3 : Int32) < r2 then (fX8_readings_4 n0 k) x1 (x2 + (0 : Int32)) (x3 + (1 : Int32)) else (fX8_readings_4 n0 k) x1 (x2 + (1 : Int32)) (x3 + (1 : Int32)))
def fX8_readings (a1 : Int32) (n0 : fr_N) : Option Int32 := fX8_readings_4 n0 2000 a1 (0 : Int32) (1 : Int32)
theorem tX8_readings_4 {K : fr_K} {u0 : fr_N} {n0 : fr_N} {rz : Int32} (F : fr_F YX8_readings K) (E : fr_R YX8_readings K (some (.int rz)) (u0, n0)) : ∀ (k : Nat) (x1 : Int32) (x2 : Int32) (x3 : Int32), fX8_readings_4 n0 k x1 x2 x3 = some rz → fr_V YX8_readings K 4 [some (.ref 52), some (.int x1), some (.int x2), some (.int x3)] [] (u0, n0) := by
  intro k
  induction k with
  | zero =>
    intro x1 x2 x3 h
    rw [fX8_readings_4] at h
    cases h
  | succ k ih =>
    intro x1 x2 x3 h
    rw [fX8_readings_4] at h
    refine fr_iload_n (q := 5) F dX8_readings_4 rfl rfl ?_
    refine fr_iload_n (q := 6) F dX8_readings_5 rfl rfl ?_
    refine fr_icmp_gt (q := 9) (tgt := 32) F dX8_readings_6 (by decide) rfl (fun hc1 => ?_) (fun hc1 => ?_)
    · rw [if_pos hc1] at h
      refine fr_iload_n (q := 33) F dX8_readings_32 rfl rfl ?_
      obtain rfl := Option.some.inj h
      exact fr_iret F E rfl dX8_readings_33
    · rw [if_neg hc1] at h
      refine fr_iload_n (q := 10) F dX8_readings_9 rfl rfl ?_
      refine fr_aload_n (q := 11) F dX8_readings_10 rfl rfl ?_
      refine fr_iload_n (q := 12) F dX8_readings_11 rfl rfl ?_
      obtain ⟨r2, hr3, h⟩ := fr_bd_some h
      refine fr_callV (q := 15) (M' := (u0, n0)) (rest := [.int x2]) (st' := [.int r2, .int x2]) F dX8_readings_12 rfl (tX8_rankOf hr3) mlRX8_122 msX8_rankOf ⟨Nat.le_of_ble_eq_true rfl, Nat.le_of_ble_eq_true rfl⟩ (by decide) rfl rfl rfl (Nat.le_of_ble_eq_true rfl) rfl ?_
      refine fr_iconst (q := 16) (v := 3) F dX8_readings_15 rfl (by decide) ?_
      refine fr_icmp_gt (q := 19) (tgt := 23) F dX8_readings_16 (by decide) rfl (fun hc4 => ?_) (fun hc4 => ?_)
      · rw [if_pos hc4] at h
        refine fr_iconst (q := 24) (v := 0) F dX8_readings_23 rfl (by decide) ?_
        refine fr_iadd (q := 25) F dX8_readings_24 rfl ?_
        refine fr_istore_n (q := 26) F dX8_readings_25 rfl (by decide) rfl ?_
        refine fr_iinc (q := 29) (v := (x3 + (1 : Int32))) F dX8_readings_26 rfl rfl rfl (by decide) rfl ?_
        refine fr_goto (tgt := 4) F dX8_readings_29 (by decide) ?_
        exact fr_wj (ih _ _ _ h) ⟨rfl, ⟨rfl, ⟨rfl, ⟨rfl, trivial⟩⟩⟩⟩
      · rw [if_neg hc4] at h
        refine fr_iconst (q := 20) (v := 1) F dX8_readings_19 rfl (by decide) ?_
        refine fr_goto (tgt := 24) F dX8_readings_20 (by decide) ?_
        refine fr_iadd (q := 25) F dX8_readings_24 rfl ?_
        refine fr_istore_n (q := 26) F dX8_readings_25 rfl (by decide) rfl ?_
        refine fr_iinc (q := 29) (v := (x3 + (1 : Int32))) F dX8_readings_26 rfl rfl rfl (by decide) rfl ?_
        refine fr_goto (tgt := 4) F dX8_readings_29 (by decide) ?_
        exact fr_wj (ih _ _ _ h) ⟨rfl, ⟨rfl, ⟨rfl, ⟨rfl, trivial⟩⟩⟩⟩
theorem tX8_readings {l : Launch} {G : fr_G} {u0 : fr_N} {a1 : Int32} {n0 : fr_N} {rz : Int32} (h : fX8_readings a1 n0 = some rz) : fr_Met l G YX8_readings [.ref 52, .int a1] (u0, n0) (some (.int rz)) (u0, n0) := by
  refine fr_met (pad := List.replicate 2 none) (by decide) (Nat.le_of_ble_eq_true rfl) (fun _ h => List.eq_of_mem_replicate h) ⟨rfl, rfl⟩ (fun K F hG hL E => ?_)
  subst hG; subst hL
  rw [fX8_readings] at h
  show fr_V YX8_readings K 0 [some (.ref 52), some (.int a1), none, none] [] (u0, n0)
  refine fr_iconst (q := 1) (v := 0) F dX8_readings_0 rfl (by decide) ?_
  refine fr_istore_n (q := 2) F dX8_readings_1 rfl (by decide) rfl ?_
  refine fr_iconst (q := 3) (v := 1) F dX8_readings_2 rfl (by decide) ?_
  refine fr_istore_n (q := 4) F dX8_readings_3 rfl (by decide) rfl ?_
  exact fr_wj (tX8_readings_4 F E _ _ _ _ h) ⟨rfl, ⟨rfl, ⟨rfl, ⟨rfl, trivial⟩⟩⟩⟩
/-! FeastRotaModel.psalm (52, None, None, None) -/
def fX8_psalm_97 (s0 : Int32) (s1 : Bool) (n0 : fr_N) : Option (Int32 × fr_N) := fr_nz (n0 1 3) (some (((fr_b s1) + (fr_rem s0 (n0 1 3))), n0))
def fX8_psalm (a1 : Int32) (a2 : Int32) (a3 : Int32) (n0 : fr_N) : Option (Int32 × fr_N) := fr_bd (fX8_isBook n0) fun r2 => (if r2 = true then fr_bd (fX8_in (Int32.toInt64 a3) (0 : Int64) (2 : Int64)) fun r5 => (if r5 = true then fr_bd2 (fX8_hasDay a1 a2 (1 : Int32) n0) fun r8 n10 => (if r8 = true then fr_bd (fX8_readings a2 n10) fun r12 => (if a3 = (2 : Int32) then fr_nz (n10 1 3) (some ((((n10 1 4) * r12) / (n10 1 3)), n10)) else fr_bd (fX8_rankOf a2 n10) fun r15 => (if r15 ≤ (3 : Int32) then if a3 = 0 then fX8_psalm_97 (((n10 1 4) * r12) - (n10 1 4)) true n10 else fX8_psalm_97 (((n10 1 4) * r12) - (1 : Int32)) true n10 else some ((-1000000 : Int32), n10))) else some ((-1000001 : Int32), n10)) else some ((-1000001 : Int32), n0)) else some ((-1000002 : Int32), n0))
theorem tX8_psalm_97 {K : fr_K} {u0 : fr_N} {rz : Int32} {nz : fr_N} (F : fr_F YX8_psalm K) (E : fr_R YX8_psalm K (some (.int rz)) (u0, nz)) {s0 : Int32} {s1 : Bool} {n0 : fr_N} (h : fX8_psalm_97 s0 s1 n0 = some (rz, nz)) : fr_V YX8_psalm K 97 [some (.ref 52), none, none, none, none] [.int s0, .int (fr_b s1)] (u0, n0) := by
  rw [fX8_psalm_97] at h
  refine fr_aload_n (q := 98) F dX8_psalm_97 rfl rfl ?_
  refine fr_gfR (q := 101) (j := 53) F dX8_psalm_98 rfl faRX8_7 (by decide) rfl rfl ?_
  refine fr_iconst (q := 102) (v := 3) F dX8_psalm_101 rfl (by decide) ?_
  refine fr_ial (q := 103) (x := (n0 1 3)) F dX8_psalm_102 rfl (fr_vin rfl) (by decide) rfl rfl ?_
  obtain ⟨hz1, h⟩ := fr_nz_some h
  refine fr_irem (q := 104) F dX8_psalm_103 rfl hz1 ?_
  refine fr_iadd (q := 105) F dX8_psalm_104 rfl ?_
  obtain ⟨rfl, rfl⟩ := Prod.mk.inj (Option.some.inj h)
  exact fr_iret F E rfl dX8_psalm_105
theorem tX8_psalm {l : Launch} {G : fr_G} {u0 : fr_N} {a1 : Int32} {a2 : Int32} {a3 : Int32} {n0 : fr_N} {rz : Int32} {nz : fr_N} (h : fX8_psalm a1 a2 a3 n0 = some (rz, nz)) : fr_Met l G YX8_psalm [.ref 52, .int a1, .int a2, .int a3] (u0, n0) (some (.int rz)) (u0, nz) := by
  refine fr_met (pad := List.replicate 1 none) (by decide) (Nat.le_of_ble_eq_true rfl) (fun _ h => List.eq_of_mem_replicate h) ⟨rfl, rfl⟩ (fun K F hG hL E => ?_)
  subst hG; subst hL
  rw [fX8_psalm] at h
  show fr_V YX8_psalm K 0 [some (.ref 52), some (.int a1), some (.int a2), some (.int a3), none] [] (u0, n0)
  refine fr_aload_n (q := 1) F dX8_psalm_0 rfl rfl ?_
  obtain ⟨r2, hr3, h⟩ := fr_bd_some h
  refine fr_callV (q := 4) (M' := (u0, n0)) (rest := []) (st' := [.int (fr_b r2)]) F dX8_psalm_1 rfl (tX8_isBook hr3) mlRX8_261 msX8_isBook ⟨Nat.le_of_ble_eq_true rfl, Nat.le_of_ble_eq_true rfl⟩ (by decide) rfl rfl rfl (Nat.le_of_ble_eq_true rfl) rfl ?_
  refine fr_if_neb (q := 7) (tgt := 10) F dX8_psalm_4 (by decide) rfl (fun hc4 => ?_) (fun hc4 => ?_)
  · rw [if_pos hc4] at h
    refine fr_iload_n (q := 11) F dX8_psalm_10 rfl rfl ?_
    refine fr_i2l (q := 12) F dX8_psalm_11 rfl ?_
    refine fr_lconst (q := 13) (v := 0) F dX8_psalm_12 rfl (by decide) ?_
    refine fr_ldc2 (q := 16) F dX8_psalm_13 rfl klRX8_265 ?_
    obtain ⟨r5, hr6, h⟩ := fr_bd_some h
    refine fr_callS (q := 19) (M' := (u0, n0)) (rest := []) (st' := [.int (fr_b r5)]) F dX8_psalm_16 rfl (tX8_in hr6) mlRX8_55 msX8_in ⟨Nat.le_of_ble_eq_true rfl, Nat.le_of_ble_eq_true rfl⟩ rfl rfl (Nat.le_of_ble_eq_true rfl) rfl ?_
    refine fr_if_eqb (q := 22) (tgt := 32) F dX8_psalm_19 (by decide) rfl (fun hc7 => ?_) (fun hc7 => ?_)
    · rw [if_neg hc7] at h
      refine fr_ldc (q := 34) F dX8_psalm_32 rfl kcRX8_209 ?_
      obtain ⟨rfl, rfl⟩ := Prod.mk.inj (Option.some.inj h)
      exact fr_iret F E rfl dX8_psalm_34
    · rw [if_pos hc7] at h
      refine fr_aload_n (q := 23) F dX8_psalm_22 rfl rfl ?_
      refine fr_iload_n (q := 24) F dX8_psalm_23 rfl rfl ?_
      refine fr_iload_n (q := 25) F dX8_psalm_24 rfl rfl ?_
      refine fr_iconst (q := 26) (v := 1) F dX8_psalm_25 rfl (by decide) ?_
      obtain ⟨r8, n10, hr9, h⟩ := fr_bd2_some h
      refine fr_callV (q := 29) (M' := (u0, n10)) (rest := []) (st' := [.int (fr_b r8)]) F dX8_psalm_26 rfl (tX8_hasDay hr9) mlRX8_298 msX8_hasDay ⟨Nat.le_of_ble_eq_true rfl, Nat.le_of_ble_eq_true rfl⟩ (by decide) rfl rfl rfl (Nat.le_of_ble_eq_true rfl) rfl ?_
      refine fr_if_neb (q := 32) (tgt := 35) F dX8_psalm_29 (by decide) rfl (fun hc11 => ?_) (fun hc11 => ?_)
      · rw [if_pos hc11] at h
        refine fr_aload_n (q := 36) F dX8_psalm_35 rfl rfl ?_
        refine fr_gfR (q := 39) (j := 53) F dX8_psalm_36 rfl faRX8_7 (by decide) rfl rfl ?_
        refine fr_iconst (q := 40) (v := 4) F dX8_psalm_39 rfl (by decide) ?_
        refine fr_ial (q := 41) (x := (n10 1 4)) F dX8_psalm_40 rfl (fr_vin rfl) (by decide) rfl rfl ?_
        refine fr_aload_n (q := 42) F dX8_psalm_41 rfl rfl ?_
        refine fr_iload_n (q := 43) F dX8_psalm_42 rfl rfl ?_
        obtain ⟨r12, hr13, h⟩ := fr_bd_some h
        refine fr_callV (q := 46) (M' := (u0, n10)) (rest := [.int (n10 1 4)]) (st' := [.int r12, .int (n10 1 4)]) F dX8_psalm_43 rfl (tX8_readings hr13) mlRX8_307 msX8_readings ⟨Nat.le_of_ble_eq_true rfl, Nat.le_of_ble_eq_true rfl⟩ (by decide) rfl rfl rfl (Nat.le_of_ble_eq_true rfl) rfl ?_
        refine fr_imul (q := 47) F dX8_psalm_46 rfl ?_
        refine fr_istore (q := 49) F dX8_psalm_47 rfl (by decide) rfl ?_
        refine fr_iload_n (q := 50) F dX8_psalm_49 rfl rfl ?_
        refine fr_iconst (q := 51) (v := 2) F dX8_psalm_50 rfl (by decide) ?_
        refine fr_icmp_ne (q := 54) (tgt := 64) F dX8_psalm_51 (by decide) rfl (fun hc14 => ?_) (fun hc14 => ?_)
        · rw [if_neg hc14] at h
          refine fr_aload_n (q := 65) F dX8_psalm_64 rfl rfl ?_
          refine fr_iload_n (q := 66) F dX8_psalm_65 rfl rfl ?_
          obtain ⟨r15, hr16, h⟩ := fr_bd_some h
          refine fr_callV (q := 69) (M' := (u0, n10)) (rest := []) (st' := [.int r15]) F dX8_psalm_66 rfl (tX8_rankOf hr16) mlRX8_122 msX8_rankOf ⟨Nat.le_of_ble_eq_true rfl, Nat.le_of_ble_eq_true rfl⟩ (by decide) rfl rfl rfl (Nat.le_of_ble_eq_true rfl) rfl ?_
          refine fr_iconst (q := 70) (v := 3) F dX8_psalm_69 rfl (by decide) ?_
          refine fr_icmp_le (q := 73) (tgt := 76) F dX8_psalm_70 (by decide) rfl (fun hc17 => ?_) (fun hc17 => ?_)
          · rw [if_pos hc17] at h
            refine fr_iconst (q := 77) (v := 1) F dX8_psalm_76 rfl (by decide) ?_
            refine fr_iload_n (q := 78) F dX8_psalm_77 rfl rfl ?_
            refine fr_if_ne (q := 81) (tgt := 93) F dX8_psalm_78 (by decide) rfl (fun hc18 => ?_) (fun hc18 => ?_)
            · rw [if_neg hc18] at h
              refine fr_iload (q := 95) F dX8_psalm_93 rfl rfl ?_
              refine fr_iconst (q := 96) (v := 1) F dX8_psalm_95 rfl (by decide) ?_
              refine fr_isub (q := 97) F dX8_psalm_96 rfl ?_
              exact fr_wj (tX8_psalm_97 F E h) ⟨rfl, trivial⟩
            · rw [if_pos hc18] at h
              refine fr_iload (q := 83) F dX8_psalm_81 rfl rfl ?_
              refine fr_aload_n (q := 84) F dX8_psalm_83 rfl rfl ?_
              refine fr_gfR (q := 87) (j := 53) F dX8_psalm_84 rfl faRX8_7 (by decide) rfl rfl ?_
              refine fr_iconst (q := 88) (v := 4) F dX8_psalm_87 rfl (by decide) ?_
              refine fr_ial (q := 89) (x := (n10 1 4)) F dX8_psalm_88 rfl (fr_vin rfl) (by decide) rfl rfl ?_
              refine fr_isub (q := 90) F dX8_psalm_89 rfl ?_
              refine fr_goto (tgt := 97) F dX8_psalm_90 (by decide) ?_
              exact fr_wj (tX8_psalm_97 F E h) ⟨rfl, trivial⟩
          · rw [if_neg hc17] at h
            refine fr_ldc (q := 75) F dX8_psalm_73 rfl kcRX8_90 ?_
            obtain ⟨rfl, rfl⟩ := Prod.mk.inj (Option.some.inj h)
            exact fr_iret F E rfl dX8_psalm_75
        · rw [if_pos hc14] at h
          refine fr_iload (q := 56) F dX8_psalm_54 rfl rfl ?_
          refine fr_aload_n (q := 57) F dX8_psalm_56 rfl rfl ?_
          refine fr_gfR (q := 60) (j := 53) F dX8_psalm_57 rfl faRX8_7 (by decide) rfl rfl ?_
          refine fr_iconst (q := 61) (v := 3) F dX8_psalm_60 rfl (by decide) ?_
          refine fr_ial (q := 62) (x := (n10 1 3)) F dX8_psalm_61 rfl (fr_vin rfl) (by decide) rfl rfl ?_
          obtain ⟨hz19, h⟩ := fr_nz_some h
          refine fr_idiv (q := 63) F dX8_psalm_62 rfl hz19 ?_
          obtain ⟨rfl, rfl⟩ := Prod.mk.inj (Option.some.inj h)
          exact fr_iret F E rfl dX8_psalm_63
      · rw [if_neg hc11] at h
        refine fr_ldc (q := 34) F dX8_psalm_32 rfl kcRX8_209 ?_
        obtain ⟨rfl, rfl⟩ := Prod.mk.inj (Option.some.inj h)
        exact fr_iret F E rfl dX8_psalm_34
  · rw [if_neg hc4] at h
    refine fr_ldc (q := 9) F dX8_psalm_7 rfl kcRX8_238 ?_
    obtain ⟨rfl, rfl⟩ := Prod.mk.inj (Option.some.inj h)
    exact fr_iret F E rfl dX8_psalm_9
/-! FeastRota$Plan.dayOfReading (11, None) -/
def fX3_dayOfReading_41 (k5 : Int64 → Int64 → Int32 → Option Int32) (n0 : fr_N) (x1 : Int64) (x5 : Int32) (s0 : Int64) (s1 : Int64) : Option Int32 := if (lg_cmp (s1 + s0) x1) < 0 then k5 x1 (s1 + s0) (x5 + (1 : Int32)) else some x5
def fX3_dayOfReading_5 (n0 : fr_N) : Nat → Int64 → Int64 → Int32 → Option Int32
  | 0, _, _, _ => none
  | k + 1, x1, x3, x5 => if (n0 12 0) < x5 then some (-1000000 : Int32) else fr_bd (fX3_isReadingDay x5 n0) fun r3 => (if r3 = true then fX3_dayOfReading_41 (fX3_dayOfReading_5 n0 k) n0 x1 x5 (Int32.toInt64 (n0 4 4)) x3 else fX3_dayOfReading_41 (fX3_dayOfReading_5 n0 k) n0 x1 x5 (0 : Int64) x3)
def fX3_dayOfReading (a1 : Int64) (n0 : fr_N) : Option Int32 := fX3_dayOfReading_5 n0 2000 a1 (0 : Int64) (1 : Int32)
theorem tX3_dayOfReading_41 {K : fr_K} {k5 : Int64 → Int64 → Int32 → Option Int32} {u0 : fr_N} {n0 : fr_N} {rz : Int32} (F : fr_F YX3_dayOfReading K) (E : fr_R YX3_dayOfReading K (some (.int rz)) (n0, u0)) (H5 : ∀ (y1 : Int64) (y3 : Int64) (y5 : Int32), k5 y1 y3 y5 = some rz → fr_V YX3_dayOfReading K 5 [some (.ref 11), some (.long y1), none, some (.long y3), none, some (.int y5)] [] (n0, u0)) {x1 : Int64} {x5 : Int32} {s0 : Int64} {s1 : Int64} (h : fX3_dayOfReading_41 k5 n0 x1 x5 s0 s1 = some rz) : fr_V YX3_dayOfReading K 41 [some (.ref 11), some (.long x1), none, none, none, some (.int x5)] [.long s0, .long s1] (n0, u0) := by
  rw [fX3_dayOfReading_41] at h
  refine fr_ladd (q := 42) F dX3_dayOfReading_41 rfl ?_
  refine fr_lstore_n (q := 43) F dX3_dayOfReading_42 rfl (by decide) rfl ?_
  refine fr_lload_n (q := 44) F dX3_dayOfReading_43 rfl rfl ?_
  refine fr_lload_n (q := 45) F dX3_dayOfReading_44 rfl rfl ?_
  refine fr_lcmp (q := 46) F dX3_dayOfReading_45 rfl ?_
  refine fr_if_lt (q := 49) (tgt := 52) F dX3_dayOfReading_46 (by decide) rfl (fun hc1 => ?_) (fun hc1 => ?_)
  · rw [if_pos hc1] at h
    refine fr_iinc (q := 55) (v := (x5 + (1 : Int32))) F dX3_dayOfReading_52 rfl rfl rfl (by decide) rfl ?_
    refine fr_goto (tgt := 5) F dX3_dayOfReading_55 (by decide) ?_
    exact fr_wj (H5 _ _ _ h) ⟨rfl, ⟨rfl, ⟨rfl, ⟨rfl, trivial⟩⟩⟩⟩
  · rw [if_neg hc1] at h
    refine fr_iload (q := 51) F dX3_dayOfReading_49 rfl rfl ?_
    obtain rfl := Option.some.inj h
    exact fr_iret F E rfl dX3_dayOfReading_51
theorem tX3_dayOfReading_5 {K : fr_K} {u0 : fr_N} {n0 : fr_N} {rz : Int32} (F : fr_F YX3_dayOfReading K) (E : fr_R YX3_dayOfReading K (some (.int rz)) (n0, u0)) : ∀ (k : Nat) (x1 : Int64) (x3 : Int64) (x5 : Int32), fX3_dayOfReading_5 n0 k x1 x3 x5 = some rz → fr_V YX3_dayOfReading K 5 [some (.ref 11), some (.long x1), none, some (.long x3), none, some (.int x5)] [] (n0, u0) := by
  intro k
  induction k with
  | zero =>
    intro x1 x3 x5 h
    rw [fX3_dayOfReading_5] at h
    cases h
  | succ k ih =>
    intro x1 x3 x5 h
    rw [fX3_dayOfReading_5] at h
    refine fr_iload (q := 7) F dX3_dayOfReading_5 rfl rfl ?_
    refine fr_aload_n (q := 8) F dX3_dayOfReading_7 rfl rfl ?_
    refine fr_gfR (q := 11) (j := 12) F dX3_dayOfReading_8 rfl faRX3_15 (by decide) rfl rfl ?_
    refine fr_gfI (q := 14) (x := (n0 12 0)) F dX3_dayOfReading_11 rfl faRX3_80 (by decide) rfl rfl rfl ?_
    refine fr_icmp_gt (q := 17) (tgt := 58) F dX3_dayOfReading_14 (by decide) rfl (fun hc2 => ?_) (fun hc2 => ?_)
    · rw [if_pos hc2] at h
      refine fr_ldc (q := 60) F dX3_dayOfReading_58 rfl kcRX3_50 ?_
      obtain rfl := Option.some.inj h
      exact fr_iret F E rfl dX3_dayOfReading_60
    · rw [if_neg hc2] at h
      refine fr_lload_n (q := 18) F dX3_dayOfReading_17 rfl rfl ?_
      refine fr_aload_n (q := 19) F dX3_dayOfReading_18 rfl rfl ?_
      refine fr_iload (q := 21) F dX3_dayOfReading_19 rfl rfl ?_
      obtain ⟨r3, hr4, h⟩ := fr_bd_some h
      refine fr_callV (q := 24) (M' := (n0, u0)) (rest := [.long x3]) (st' := [.int (fr_b r3), .long x3]) F dX3_dayOfReading_21 rfl (tX3_isReadingDay hr4) mlRX3_128 msX3_isReadingDay ⟨Nat.le_of_ble_eq_true rfl, Nat.le_of_ble_eq_true rfl⟩ (by decide) rfl rfl rfl (Nat.le_of_ble_eq_true rfl) rfl ?_
      refine fr_if_eqb (q := 27) (tgt := 40) F dX3_dayOfReading_24 (by decide) rfl (fun hc5 => ?_) (fun hc5 => ?_)
      · rw [if_neg hc5] at h
        refine fr_lconst (q := 41) (v := 0) F dX3_dayOfReading_40 rfl (by decide) ?_
        exact fr_wj (tX3_dayOfReading_41 F E ih h) ⟨rfl, ⟨rfl, ⟨rfl, trivial⟩⟩⟩
      · rw [if_pos hc5] at h
        refine fr_aload_n (q := 28) F dX3_dayOfReading_27 rfl rfl ?_
        refine fr_gfR (q := 31) (j := 3) F dX3_dayOfReading_28 rfl faRX3_9 (by decide) rfl rfl ?_
        refine fr_gfR (q := 34) (j := 4) F dX3_dayOfReading_31 rfl faRX3_131 (by decide) rfl rfl ?_
        refine fr_iconst (q := 35) (v := 4) F dX3_dayOfReading_34 rfl (by decide) ?_
        refine fr_ial (q := 36) (x := (n0 4 4)) F dX3_dayOfReading_35 rfl (fr_vin rfl) (by decide) rfl rfl ?_
        refine fr_i2l (q := 37) F dX3_dayOfReading_36 rfl ?_
        refine fr_goto (tgt := 41) F dX3_dayOfReading_37 (by decide) ?_
        exact fr_wj (tX3_dayOfReading_41 F E ih h) ⟨rfl, ⟨rfl, ⟨rfl, trivial⟩⟩⟩
theorem tX3_dayOfReading {l : Launch} {G : fr_G} {u0 : fr_N} {a1 : Int64} {n0 : fr_N} {rz : Int32} (h : fX3_dayOfReading a1 n0 = some rz) : fr_Met l G YX3_dayOfReading [.ref 11, .long a1] (n0, u0) (some (.int rz)) (n0, u0) := by
  refine fr_met (pad := List.replicate 3 none) (by decide) (Nat.le_of_ble_eq_true rfl) (fun _ h => List.eq_of_mem_replicate h) ⟨rfl, rfl⟩ (fun K F hG hL E => ?_)
  subst hG; subst hL
  rw [fX3_dayOfReading] at h
  show fr_V YX3_dayOfReading K 0 [some (.ref 11), some (.long a1), none, none, none, none] [] (n0, u0)
  refine fr_lconst (q := 1) (v := 0) F dX3_dayOfReading_0 rfl (by decide) ?_
  refine fr_lstore_n (q := 2) F dX3_dayOfReading_1 rfl (by decide) rfl ?_
  refine fr_iconst (q := 3) (v := 1) F dX3_dayOfReading_2 rfl (by decide) ?_
  refine fr_istore (q := 5) F dX3_dayOfReading_3 rfl (by decide) rfl ?_
  exact fr_wj (tX3_dayOfReading_5 F E _ _ _ _ h) ⟨rfl, ⟨rfl, ⟨rfl, ⟨rfl, trivial⟩⟩⟩⟩
/-! FeastRota.read (0, None, None, None) -/
def fX7_read (a1 : Int32) (a2 : Int32) (a3 : Int32) (n0 : fr_N) : Option (Int32 × fr_N) := if (n0 3 0) = 0 then some ((-1000002 : Int32), n0) else fr_bd (fX7_isYear a1) fun r2 => (if r2 = true then fr_bd (fX7_within a2 (1 : Int32) (n0 4 3)) fun r5 => (if r5 = true then if (1 : Int32) ≤ a3 then fr_bd (fX3_lay a1 (-1 : Int32) n0) fun n11 => (fr_bd (fX3_dayOfReading ((((Int32.toInt64 a3) - (1 : Int64)) * (Int32.toInt64 (n11 4 3))) + (Int32.toInt64 a2)) n11) fun r12 => (some (r12, n11))) else some ((-1000001 : Int32), n0) else some ((-1000001 : Int32), n0)) else some ((-1000001 : Int32), n0))
theorem tX7_read {l : Launch} {G : fr_G} {u0 : fr_N} {a1 : Int32} {a2 : Int32} {a3 : Int32} {n0 : fr_N} {rz : Int32} {nz : fr_N} (h : fX7_read a1 a2 a3 n0 = some (rz, nz)) : fr_Met l G YX7_read [.ref 0, .int a1, .int a2, .int a3] (n0, u0) (some (.int rz)) (nz, u0) := by
  refine fr_met (pad := List.replicate 2 none) (by decide) (Nat.le_of_ble_eq_true rfl) (fun _ h => List.eq_of_mem_replicate h) ⟨rfl, rfl⟩ (fun K F hG hL E => ?_)
  subst hG; subst hL
  rw [fX7_read] at h
  show fr_V YX7_read K 0 [some (.ref 0), some (.int a1), some (.int a2), some (.int a3), none, none] [] (n0, u0)
  refine fr_aload_n (q := 1) F dX7_read_0 rfl rfl ?_
  refine fr_gfR (q := 4) (j := 3) F dX7_read_1 rfl faRX7_36 (by decide) rfl rfl ?_
  refine fr_gfI (q := 7) (x := (n0 3 0)) F dX7_read_4 rfl faRX7_128 (by decide) rfl rfl rfl ?_
  refine fr_if_ne (q := 10) (tgt := 13) F dX7_read_7 (by decide) rfl (fun hc1 => ?_) (fun hc1 => ?_)
  · rw [if_neg hc1] at h
    refine fr_iload_n (q := 14) F dX7_read_13 rfl rfl ?_
    obtain ⟨r2, hr3, h⟩ := fr_bd_some h
    refine fr_callS (q := 17) (M' := (n0, u0)) (rest := []) (st' := [.int (fr_b r2)]) F dX7_read_14 rfl (tX7_isYear hr3) mlRX7_153 msX7_isYear ⟨Nat.le_of_ble_eq_true rfl, Nat.le_of_ble_eq_true rfl⟩ rfl rfl (Nat.le_of_ble_eq_true rfl) rfl ?_
    refine fr_if_eqb (q := 20) (tgt := 42) F dX7_read_17 (by decide) rfl (fun hc4 => ?_) (fun hc4 => ?_)
    · rw [if_neg hc4] at h
      refine fr_ldc (q := 44) F dX7_read_42 rfl kcRX7_72 ?_
      obtain ⟨rfl, rfl⟩ := Prod.mk.inj (Option.some.inj h)
      exact fr_iret F E rfl dX7_read_44
    · rw [if_pos hc4] at h
      refine fr_iload_n (q := 21) F dX7_read_20 rfl rfl ?_
      refine fr_iconst (q := 22) (v := 1) F dX7_read_21 rfl (by decide) ?_
      refine fr_aload_n (q := 23) F dX7_read_22 rfl rfl ?_
      refine fr_gfR (q := 26) (j := 3) F dX7_read_23 rfl faRX7_36 (by decide) rfl rfl ?_
      refine fr_gfR (q := 29) (j := 4) F dX7_read_26 rfl faRX7_141 (by decide) rfl rfl ?_
      refine fr_iconst (q := 30) (v := 3) F dX7_read_29 rfl (by decide) ?_
      refine fr_ial (q := 31) (x := (n0 4 3)) F dX7_read_30 rfl (fr_vin rfl) (by decide) rfl rfl ?_
      obtain ⟨r5, hr6, h⟩ := fr_bd_some h
      refine fr_callS (q := 34) (M' := (n0, u0)) (rest := []) (st' := [.int (fr_b r5)]) F dX7_read_31 rfl (tX7_within hr6) mlRX7_68 msX7_within ⟨Nat.le_of_ble_eq_true rfl, Nat.le_of_ble_eq_true rfl⟩ rfl rfl (Nat.le_of_ble_eq_true rfl) rfl ?_
      refine fr_if_eqb (q := 37) (tgt := 42) F dX7_read_34 (by decide) rfl (fun hc7 => ?_) (fun hc7 => ?_)
      · rw [if_neg hc7] at h
        refine fr_ldc (q := 44) F dX7_read_42 rfl kcRX7_72 ?_
        obtain ⟨rfl, rfl⟩ := Prod.mk.inj (Option.some.inj h)
        exact fr_iret F E rfl dX7_read_44
      · rw [if_pos hc7] at h
        refine fr_iload_n (q := 38) F dX7_read_37 rfl rfl ?_
        refine fr_iconst (q := 39) (v := 1) F dX7_read_38 rfl (by decide) ?_
        refine fr_icmp_ge (q := 42) (tgt := 45) F dX7_read_39 (by decide) rfl (fun hc8 => ?_) (fun hc8 => ?_)
        · rw [if_pos hc8] at h
          refine fr_aload_n (q := 46) F dX7_read_45 rfl rfl ?_
          refine fr_gfR (q := 49) (j := 11) F dX7_read_46 rfl faRX7_51 (by decide) rfl rfl ?_
          refine fr_iload_n (q := 50) F dX7_read_49 rfl rfl ?_
          refine fr_iconst (q := 51) (v := (-1)) F dX7_read_50 rfl (by decide) ?_
          obtain ⟨n11, hr10, h⟩ := fr_bd_some h
          refine fr_callV (q := 54) (M' := (n11, u0)) (rest := []) (st' := []) F dX7_read_51 rfl (tX3_lay hr10) mlRX7_156 msX3_lay ⟨Nat.le_of_ble_eq_true rfl, Nat.le_of_ble_eq_true rfl⟩ (by decide) rfl rfl rfl (Nat.le_of_ble_eq_true rfl) rfl ?_
          refine fr_iload_n (q := 55) F dX7_read_54 rfl rfl ?_
          refine fr_i2l (q := 56) F dX7_read_55 rfl ?_
          refine fr_lconst (q := 57) (v := 1) F dX7_read_56 rfl (by decide) ?_
          refine fr_lsub (q := 58) F dX7_read_57 rfl ?_
          refine fr_aload_n (q := 59) F dX7_read_58 rfl rfl ?_
          refine fr_gfR (q := 62) (j := 3) F dX7_read_59 rfl faRX7_36 (by decide) rfl rfl ?_
          refine fr_gfR (q := 65) (j := 4) F dX7_read_62 rfl faRX7_141 (by decide) rfl rfl ?_
          refine fr_iconst (q := 66) (v := 3) F dX7_read_65 rfl (by decide) ?_
          refine fr_ial (q := 67) (x := (n11 4 3)) F dX7_read_66 rfl (fr_vin rfl) (by decide) rfl rfl ?_
          refine fr_i2l (q := 68) F dX7_read_67 rfl ?_
          refine fr_lmul (q := 69) F dX7_read_68 rfl ?_
          refine fr_iload_n (q := 70) F dX7_read_69 rfl rfl ?_
          refine fr_i2l (q := 71) F dX7_read_70 rfl ?_
          refine fr_ladd (q := 72) F dX7_read_71 rfl ?_
          refine fr_lstore (q := 74) F dX7_read_72 rfl (by decide) rfl ?_
          refine fr_aload_n (q := 75) F dX7_read_74 rfl rfl ?_
          refine fr_gfR (q := 78) (j := 11) F dX7_read_75 rfl faRX7_51 (by decide) rfl rfl ?_
          refine fr_lload (q := 80) F dX7_read_78 rfl rfl ?_
          obtain ⟨r12, hr13, h⟩ := fr_bd_some h
          refine fr_callV (q := 83) (M' := (n11, u0)) (rest := []) (st' := [.int r12]) F dX7_read_80 rfl (tX3_dayOfReading hr13) mlRX7_236 msX3_dayOfReading ⟨Nat.le_of_ble_eq_true rfl, Nat.le_of_ble_eq_true rfl⟩ (by decide) rfl rfl rfl (Nat.le_of_ble_eq_true rfl) rfl ?_
          obtain ⟨rfl, rfl⟩ := Prod.mk.inj (Option.some.inj h)
          exact fr_iret F E rfl dX7_read_83
        · rw [if_neg hc8] at h
          refine fr_ldc (q := 44) F dX7_read_42 rfl kcRX7_72 ?_
          obtain ⟨rfl, rfl⟩ := Prod.mk.inj (Option.some.inj h)
          exact fr_iret F E rfl dX7_read_44
  · rw [if_pos hc1] at h
    refine fr_ldc (q := 12) F dX7_read_10 rfl kcRX7_105 ?_
    obtain ⟨rfl, rfl⟩ := Prod.mk.inj (Option.some.inj h)
    exact fr_iret F E rfl dX7_read_12
/-! FeastRotaModel.read (52, None, None, None) -/
def fX8_read_100 (k68 : Int64 → Int32 → fr_N → Option (Int32 × fr_N)) (x6 : Int32) (s0 : Int64) (s1 : Int64) (n0 : fr_N) : Option (Int32 × fr_N) := if 0 < (lg_cmp (s1 - s0) (0 : Int64)) then k68 (s1 - s0) (x6 + (1 : Int32)) n0 else some (x6, n0)
def fX8_read_68 : Nat → Int64 → Int32 → fr_N → Option (Int32 × fr_N)
  | 0, _, _, _ => none
  | k + 1, x4, x6, n0 => if (n0 0 20) < x6 then some ((-1000000 : Int32), n0) else fr_bd (fX8_rankOf x6 n0) fun r3 => (if (3 : Int32) < r3 then fX8_read_100 (fX8_read_68 k) x6 (0 : Int64) x4 n0 else fX8_read_100 (fX8_read_68 k) x6 (Int32.toInt64 (n0 1 4)) x4 n0)
def fX8_read (a1 : Int32) (a2 : Int32) (a3 : Int32) (n0 : fr_N) : Option (Int32 × fr_N) := fr_bd (fX8_isBook n0) fun r6 => (if r6 = true then fr_bd (fX8_isYear a1) fun r9 => (if r9 = true then fr_bd (fX8_in (Int32.toInt64 a2) (1 : Int64) (Int32.toInt64 (n0 1 3))) fun r12 => (if r12 = true then if (1 : Int32) ≤ a3 then fr_bd (fX8_lays a1 (-1000000 : Int32) n0) fun n18 => (fX8_read_68 2000 ((((Int32.toInt64 a3) - (1 : Int64)) * (Int32.toInt64 (n18 1 3))) + (Int32.toInt64 a2)) (1 : Int32) n18) else some ((-1000001 : Int32), n0) else some ((-1000001 : Int32), n0)) else some ((-1000001 : Int32), n0)) else some ((-1000002 : Int32), n0))
theorem tX8_read_100 {K : fr_K} {k68 : Int64 → Int32 → fr_N → Option (Int32 × fr_N)} {u0 : fr_N} {rz : Int32} {nz : fr_N} (F : fr_F YX8_read K) (E : fr_R YX8_read K (some (.int rz)) (u0, nz)) (H68 : ∀ (y4 : Int64) (y6 : Int32) (n : fr_N), k68 y4 y6 n = some (rz, nz) → fr_V YX8_read K 68 [some (.ref 52), none, none, none, some (.long y4), none, some (.int y6)] [] (u0, n)) {x6 : Int32} {s0 : Int64} {s1 : Int64} {n0 : fr_N} (h : fX8_read_100 k68 x6 s0 s1 n0 = some (rz, nz)) : fr_V YX8_read K 100 [some (.ref 52), none, none, none, none, none, some (.int x6)] [.long s0, .long s1] (u0, n0) := by
  rw [fX8_read_100] at h
  refine fr_lsub (q := 101) F dX8_read_100 rfl ?_
  refine fr_lstore (q := 103) F dX8_read_101 rfl (by decide) rfl ?_
  refine fr_lload (q := 105) F dX8_read_103 rfl rfl ?_
  refine fr_lconst (q := 106) (v := 0) F dX8_read_105 rfl (by decide) ?_
  refine fr_lcmp (q := 107) F dX8_read_106 rfl ?_
  refine fr_if_gt (q := 110) (tgt := 113) F dX8_read_107 (by decide) rfl (fun hc1 => ?_) (fun hc1 => ?_)
  · rw [if_pos hc1] at h
    refine fr_iinc (q := 116) (v := (x6 + (1 : Int32))) F dX8_read_113 rfl rfl rfl (by decide) rfl ?_
    refine fr_goto (tgt := 68) F dX8_read_116 (by decide) ?_
    exact fr_wj (H68 _ _ _ h) ⟨rfl, ⟨rfl, ⟨rfl, trivial⟩⟩⟩
  · rw [if_neg hc1] at h
    refine fr_iload (q := 112) F dX8_read_110 rfl rfl ?_
    obtain ⟨rfl, rfl⟩ := Prod.mk.inj (Option.some.inj h)
    exact fr_iret F E rfl dX8_read_112
theorem tX8_read_68 {K : fr_K} {u0 : fr_N} {rz : Int32} {nz : fr_N} (F : fr_F YX8_read K) (E : fr_R YX8_read K (some (.int rz)) (u0, nz)) : ∀ (k : Nat) (x4 : Int64) (x6 : Int32) (n0 : fr_N), fX8_read_68 k x4 x6 n0 = some (rz, nz) → fr_V YX8_read K 68 [some (.ref 52), none, none, none, some (.long x4), none, some (.int x6)] [] (u0, n0) := by
  intro k
  induction k with
  | zero =>
    intro x4 x6 n0 h
    rw [fX8_read_68] at h
    cases h
  | succ k ih =>
    intro x4 x6 n0 h
    rw [fX8_read_68] at h
    refine fr_iload (q := 70) F dX8_read_68 rfl rfl ?_
    refine fr_aload_n (q := 71) F dX8_read_70 rfl rfl ?_
    refine fr_gfI (q := 74) (x := (n0 0 20)) F dX8_read_71 rfl faRX8_71 (by decide) rfl rfl rfl ?_
    refine fr_icmp_gt (q := 77) (tgt := 119) F dX8_read_74 (by decide) rfl (fun hc2 => ?_) (fun hc2 => ?_)
    · rw [if_pos hc2] at h
      refine fr_ldc (q := 121) F dX8_read_119 rfl kcRX8_90 ?_
      obtain ⟨rfl, rfl⟩ := Prod.mk.inj (Option.some.inj h)
      exact fr_iret F E rfl dX8_read_121
    · rw [if_neg hc2] at h
      refine fr_lload (q := 79) F dX8_read_77 rfl rfl ?_
      refine fr_aload_n (q := 80) F dX8_read_79 rfl rfl ?_
      refine fr_iload (q := 82) F dX8_read_80 rfl rfl ?_
      obtain ⟨r3, hr4, h⟩ := fr_bd_some h
      refine fr_callV (q := 85) (M' := (u0, n0)) (rest := [.long x4]) (st' := [.int r3, .long x4]) F dX8_read_82 rfl (tX8_rankOf hr4) mlRX8_122 msX8_rankOf ⟨Nat.le_of_ble_eq_true rfl, Nat.le_of_ble_eq_true rfl⟩ (by decide) rfl rfl rfl (Nat.le_of_ble_eq_true rfl) rfl ?_
      refine fr_iconst (q := 86) (v := 3) F dX8_read_85 rfl (by decide) ?_
      refine fr_icmp_gt (q := 89) (tgt := 99) F dX8_read_86 (by decide) rfl (fun hc5 => ?_) (fun hc5 => ?_)
      · rw [if_pos hc5] at h
        refine fr_lconst (q := 100) (v := 0) F dX8_read_99 rfl (by decide) ?_
        exact fr_wj (tX8_read_100 F E ih h) ⟨rfl, ⟨rfl, trivial⟩⟩
      · rw [if_neg hc5] at h
        refine fr_aload_n (q := 90) F dX8_read_89 rfl rfl ?_
        refine fr_gfR (q := 93) (j := 53) F dX8_read_90 rfl faRX8_7 (by decide) rfl rfl ?_
        refine fr_iconst (q := 94) (v := 4) F dX8_read_93 rfl (by decide) ?_
        refine fr_ial (q := 95) (x := (n0 1 4)) F dX8_read_94 rfl (fr_vin rfl) (by decide) rfl rfl ?_
        refine fr_i2l (q := 96) F dX8_read_95 rfl ?_
        refine fr_goto (tgt := 100) F dX8_read_96 (by decide) ?_
        exact fr_wj (tX8_read_100 F E ih h) ⟨rfl, ⟨rfl, trivial⟩⟩
theorem tX8_read {l : Launch} {G : fr_G} {u0 : fr_N} {a1 : Int32} {a2 : Int32} {a3 : Int32} {n0 : fr_N} {rz : Int32} {nz : fr_N} (h : fX8_read a1 a2 a3 n0 = some (rz, nz)) : fr_Met l G YX8_read [.ref 52, .int a1, .int a2, .int a3] (u0, n0) (some (.int rz)) (u0, nz) := by
  refine fr_met (pad := List.replicate 3 none) (by decide) (Nat.le_of_ble_eq_true rfl) (fun _ h => List.eq_of_mem_replicate h) ⟨rfl, rfl⟩ (fun K F hG hL E => ?_)
  subst hG; subst hL
  rw [fX8_read] at h
  show fr_V YX8_read K 0 [some (.ref 52), some (.int a1), some (.int a2), some (.int a3), none, none, none] [] (u0, n0)
  refine fr_aload_n (q := 1) F dX8_read_0 rfl rfl ?_
  obtain ⟨r6, hr7, h⟩ := fr_bd_some h
  refine fr_callV (q := 4) (M' := (u0, n0)) (rest := []) (st' := [.int (fr_b r6)]) F dX8_read_1 rfl (tX8_isBook hr7) mlRX8_261 msX8_isBook ⟨Nat.le_of_ble_eq_true rfl, Nat.le_of_ble_eq_true rfl⟩ (by decide) rfl rfl rfl (Nat.le_of_ble_eq_true rfl) rfl ?_
  refine fr_if_neb (q := 7) (tgt := 10) F dX8_read_4 (by decide) rfl (fun hc8 => ?_) (fun hc8 => ?_)
  · rw [if_pos hc8] at h
    refine fr_iload_n (q := 11) F dX8_read_10 rfl rfl ?_
    obtain ⟨r9, hr10, h⟩ := fr_bd_some h
    refine fr_callS (q := 14) (M' := (u0, n0)) (rest := []) (st' := [.int (fr_b r9)]) F dX8_read_11 rfl (tX8_isYear hr10) mlRX8_283 msX8_isYear ⟨Nat.le_of_ble_eq_true rfl, Nat.le_of_ble_eq_true rfl⟩ rfl rfl (Nat.le_of_ble_eq_true rfl) rfl ?_
    refine fr_if_eqb (q := 17) (tgt := 38) F dX8_read_14 (by decide) rfl (fun hc11 => ?_) (fun hc11 => ?_)
    · rw [if_neg hc11] at h
      refine fr_ldc (q := 40) F dX8_read_38 rfl kcRX8_209 ?_
      obtain ⟨rfl, rfl⟩ := Prod.mk.inj (Option.some.inj h)
      exact fr_iret F E rfl dX8_read_40
    · rw [if_pos hc11] at h
      refine fr_iload_n (q := 18) F dX8_read_17 rfl rfl ?_
      refine fr_i2l (q := 19) F dX8_read_18 rfl ?_
      refine fr_lconst (q := 20) (v := 1) F dX8_read_19 rfl (by decide) ?_
      refine fr_aload_n (q := 21) F dX8_read_20 rfl rfl ?_
      refine fr_gfR (q := 24) (j := 53) F dX8_read_21 rfl faRX8_7 (by decide) rfl rfl ?_
      refine fr_iconst (q := 25) (v := 3) F dX8_read_24 rfl (by decide) ?_
      refine fr_ial (q := 26) (x := (n0 1 3)) F dX8_read_25 rfl (fr_vin rfl) (by decide) rfl rfl ?_
      refine fr_i2l (q := 27) F dX8_read_26 rfl ?_
      obtain ⟨r12, hr13, h⟩ := fr_bd_some h
      refine fr_callS (q := 30) (M' := (u0, n0)) (rest := []) (st' := [.int (fr_b r12)]) F dX8_read_27 rfl (tX8_in hr13) mlRX8_55 msX8_in ⟨Nat.le_of_ble_eq_true rfl, Nat.le_of_ble_eq_true rfl⟩ rfl rfl (Nat.le_of_ble_eq_true rfl) rfl ?_
      refine fr_if_eqb (q := 33) (tgt := 38) F dX8_read_30 (by decide) rfl (fun hc14 => ?_) (fun hc14 => ?_)
      · rw [if_neg hc14] at h
        refine fr_ldc (q := 40) F dX8_read_38 rfl kcRX8_209 ?_
        obtain ⟨rfl, rfl⟩ := Prod.mk.inj (Option.some.inj h)
        exact fr_iret F E rfl dX8_read_40
      · rw [if_pos hc14] at h
        refine fr_iload_n (q := 34) F dX8_read_33 rfl rfl ?_
        refine fr_iconst (q := 35) (v := 1) F dX8_read_34 rfl (by decide) ?_
        refine fr_icmp_ge (q := 38) (tgt := 41) F dX8_read_35 (by decide) rfl (fun hc15 => ?_) (fun hc15 => ?_)
        · rw [if_pos hc15] at h
          refine fr_aload_n (q := 42) F dX8_read_41 rfl rfl ?_
          refine fr_iload_n (q := 43) F dX8_read_42 rfl rfl ?_
          refine fr_ldc (q := 45) F dX8_read_43 rfl kcRX8_90 ?_
          obtain ⟨n18, hr17, h⟩ := fr_bd_some h
          refine fr_callV (q := 48) (M' := (u0, n18)) (rest := []) (st' := []) F dX8_read_45 rfl (tX8_lays hr17) mlRX8_288 msX8_lays ⟨Nat.le_of_ble_eq_true rfl, Nat.le_of_ble_eq_true rfl⟩ (by decide) rfl rfl rfl (Nat.le_of_ble_eq_true rfl) rfl ?_
          refine fr_iload_n (q := 49) F dX8_read_48 rfl rfl ?_
          refine fr_i2l (q := 50) F dX8_read_49 rfl ?_
          refine fr_lconst (q := 51) (v := 1) F dX8_read_50 rfl (by decide) ?_
          refine fr_lsub (q := 52) F dX8_read_51 rfl ?_
          refine fr_aload_n (q := 53) F dX8_read_52 rfl rfl ?_
          refine fr_gfR (q := 56) (j := 53) F dX8_read_53 rfl faRX8_7 (by decide) rfl rfl ?_
          refine fr_iconst (q := 57) (v := 3) F dX8_read_56 rfl (by decide) ?_
          refine fr_ial (q := 58) (x := (n18 1 3)) F dX8_read_57 rfl (fr_vin rfl) (by decide) rfl rfl ?_
          refine fr_i2l (q := 59) F dX8_read_58 rfl ?_
          refine fr_lmul (q := 60) F dX8_read_59 rfl ?_
          refine fr_iload_n (q := 61) F dX8_read_60 rfl rfl ?_
          refine fr_i2l (q := 62) F dX8_read_61 rfl ?_
          refine fr_ladd (q := 63) F dX8_read_62 rfl ?_
          refine fr_lstore (q := 65) F dX8_read_63 rfl (by decide) rfl ?_
          refine fr_iconst (q := 66) (v := 1) F dX8_read_65 rfl (by decide) ?_
          refine fr_istore (q := 68) F dX8_read_66 rfl (by decide) rfl ?_
          exact fr_wj (tX8_read_68 F E _ _ _ _ h) ⟨rfl, ⟨rfl, ⟨rfl, trivial⟩⟩⟩
        · rw [if_neg hc15] at h
          refine fr_ldc (q := 40) F dX8_read_38 rfl kcRX8_209 ?_
          obtain ⟨rfl, rfl⟩ := Prod.mk.inj (Option.some.inj h)
          exact fr_iret F E rfl dX8_read_40
  · rw [if_neg hc8] at h
    refine fr_ldc (q := 9) F dX8_read_7 rfl kcRX8_238 ?_
    obtain ⟨rfl, rfl⟩ := Prod.mk.inj (Option.some.inj h)
    exact fr_iret F E rfl dX8_read_9
/-! FeastRota.sings (0, None, None, None) -/
def fX7_sings (a1 : Int32) (a2 : Int32) (a3 : Int32) (n0 : fr_N) : Option (Int32 × fr_N) := if (n0 3 0) = 0 then some ((-1000002 : Int32), n0) else fr_bd (fX7_isDay a1 a2 n0) fun r2 => (if r2 = true then if 0 ≤ a3 then fr_bd (fX3_lay a1 (-1 : Int32) n0) fun n8 => (fr_bd (fX3_servicesOf a2 n8) fun r9 => (if r9 ≤ a3 then some ((-1000000 : Int32), n8) else if a3 < (4 : Int32) then fr_bd (fX5_go (n8 4 5) a2 n8) fun n15 => (fr_ck a3 4 (if (n15 51 (Int32.toNatClampNeg a3)) = (-1 : Int32) then some ((-1000000 : Int32), n15) else fr_ck a3 4 (some ((n15 51 (Int32.toNatClampNeg a3)), n15)))) else some ((-1000000 : Int32), n8))) else some ((-1000001 : Int32), n0) else some ((-1000001 : Int32), n0))
theorem tX7_sings {l : Launch} {G : fr_G} {u0 : fr_N} {a1 : Int32} {a2 : Int32} {a3 : Int32} {n0 : fr_N} {rz : Int32} {nz : fr_N} (h : fX7_sings a1 a2 a3 n0 = some (rz, nz)) : fr_Met l G YX7_sings [.ref 0, .int a1, .int a2, .int a3] (n0, u0) (some (.int rz)) (nz, u0) := by
  refine fr_met (pad := List.replicate 0 none) (by decide) (Nat.le_of_ble_eq_true rfl) (fun _ h => List.eq_of_mem_replicate h) ⟨rfl, rfl⟩ (fun K F hG hL E => ?_)
  subst hG; subst hL
  rw [fX7_sings] at h
  show fr_V YX7_sings K 0 [some (.ref 0), some (.int a1), some (.int a2), some (.int a3)] [] (n0, u0)
  refine fr_aload_n (q := 1) F dX7_sings_0 rfl rfl ?_
  refine fr_gfR (q := 4) (j := 3) F dX7_sings_1 rfl faRX7_36 (by decide) rfl rfl ?_
  refine fr_gfI (q := 7) (x := (n0 3 0)) F dX7_sings_4 rfl faRX7_128 (by decide) rfl rfl rfl ?_
  refine fr_if_ne (q := 10) (tgt := 13) F dX7_sings_7 (by decide) rfl (fun hc1 => ?_) (fun hc1 => ?_)
  · rw [if_neg hc1] at h
    refine fr_aload_n (q := 14) F dX7_sings_13 rfl rfl ?_
    refine fr_iload_n (q := 15) F dX7_sings_14 rfl rfl ?_
    refine fr_iload_n (q := 16) F dX7_sings_15 rfl rfl ?_
    obtain ⟨r2, hr3, h⟩ := fr_bd_some h
    refine fr_callV (q := 19) (M' := (n0, u0)) (rest := []) (st' := [.int (fr_b r2)]) F dX7_sings_16 rfl (tX7_isDay hr3) mlRX7_193 msX7_isDay ⟨Nat.le_of_ble_eq_true rfl, Nat.le_of_ble_eq_true rfl⟩ (by decide) rfl rfl rfl (Nat.le_of_ble_eq_true rfl) rfl ?_
    refine fr_if_eqb (q := 22) (tgt := 26) F dX7_sings_19 (by decide) rfl (fun hc4 => ?_) (fun hc4 => ?_)
    · rw [if_neg hc4] at h
      refine fr_ldc (q := 28) F dX7_sings_26 rfl kcRX7_72 ?_
      obtain ⟨rfl, rfl⟩ := Prod.mk.inj (Option.some.inj h)
      exact fr_iret F E rfl dX7_sings_28
    · rw [if_pos hc4] at h
      refine fr_iload_n (q := 23) F dX7_sings_22 rfl rfl ?_
      refine fr_if_ge (q := 26) (tgt := 29) F dX7_sings_23 (by decide) rfl (fun hc5 => ?_) (fun hc5 => ?_)
      · rw [if_pos hc5] at h
        refine fr_aload_n (q := 30) F dX7_sings_29 rfl rfl ?_
        refine fr_gfR (q := 33) (j := 11) F dX7_sings_30 rfl faRX7_51 (by decide) rfl rfl ?_
        refine fr_iload_n (q := 34) F dX7_sings_33 rfl rfl ?_
        refine fr_iconst (q := 35) (v := (-1)) F dX7_sings_34 rfl (by decide) ?_
        obtain ⟨n8, hr7, h⟩ := fr_bd_some h
        refine fr_callV (q := 38) (M' := (n8, u0)) (rest := []) (st' := []) F dX7_sings_35 rfl (tX3_lay hr7) mlRX7_156 msX3_lay ⟨Nat.le_of_ble_eq_true rfl, Nat.le_of_ble_eq_true rfl⟩ (by decide) rfl rfl rfl (Nat.le_of_ble_eq_true rfl) rfl ?_
        refine fr_iload_n (q := 39) F dX7_sings_38 rfl rfl ?_
        refine fr_aload_n (q := 40) F dX7_sings_39 rfl rfl ?_
        refine fr_gfR (q := 43) (j := 11) F dX7_sings_40 rfl faRX7_51 (by decide) rfl rfl ?_
        refine fr_iload_n (q := 44) F dX7_sings_43 rfl rfl ?_
        obtain ⟨r9, hr10, h⟩ := fr_bd_some h
        refine fr_callV (q := 47) (M' := (n8, u0)) (rest := [.int a3]) (st' := [.int r9, .int a3]) F dX7_sings_44 rfl (tX3_servicesOf hr10) mlRX7_210 msX3_servicesOf ⟨Nat.le_of_ble_eq_true rfl, Nat.le_of_ble_eq_true rfl⟩ (by decide) rfl rfl rfl (Nat.le_of_ble_eq_true rfl) rfl ?_
        refine fr_icmp_ge (q := 50) (tgt := 55) F dX7_sings_47 (by decide) rfl (fun hc11 => ?_) (fun hc11 => ?_)
        · rw [if_pos hc11] at h
          refine fr_ldc (q := 57) F dX7_sings_55 rfl kcRX7_203 ?_
          obtain ⟨rfl, rfl⟩ := Prod.mk.inj (Option.some.inj h)
          exact fr_iret F E rfl dX7_sings_57
        · rw [if_neg hc11] at h
          refine fr_iload_n (q := 51) F dX7_sings_50 rfl rfl ?_
          refine fr_iconst (q := 52) (v := 4) F dX7_sings_51 rfl (by decide) ?_
          refine fr_icmp_lt (q := 55) (tgt := 58) F dX7_sings_52 (by decide) rfl (fun hc12 => ?_) (fun hc12 => ?_)
          · rw [if_pos hc12] at h
            refine fr_aload_n (q := 59) F dX7_sings_58 rfl rfl ?_
            refine fr_gfR (q := 62) (j := 48) F dX7_sings_59 rfl faRX7_60 (by decide) rfl rfl ?_
            refine fr_aload_n (q := 63) F dX7_sings_62 rfl rfl ?_
            refine fr_gfR (q := 66) (j := 3) F dX7_sings_63 rfl faRX7_36 (by decide) rfl rfl ?_
            refine fr_gfR (q := 69) (j := 4) F dX7_sings_66 rfl faRX7_141 (by decide) rfl rfl ?_
            refine fr_iconst (q := 70) (v := 5) F dX7_sings_69 rfl (by decide) ?_
            refine fr_ial (q := 71) (x := (n8 4 5)) F dX7_sings_70 rfl (fr_vin rfl) (by decide) rfl rfl ?_
            refine fr_iload_n (q := 72) F dX7_sings_71 rfl rfl ?_
            obtain ⟨n15, hr14, h⟩ := fr_bd_some h
            refine fr_callV (q := 75) (M' := (n15, u0)) (rest := []) (st' := []) F dX7_sings_72 rfl (tX5_go hr14) mlRX7_187 msX5_go ⟨Nat.le_of_ble_eq_true rfl, Nat.le_of_ble_eq_true rfl⟩ (by decide) rfl rfl rfl (Nat.le_of_ble_eq_true rfl) rfl ?_
            refine fr_aload_n (q := 76) F dX7_sings_75 rfl rfl ?_
            refine fr_gfR (q := 79) (j := 48) F dX7_sings_76 rfl faRX7_60 (by decide) rfl rfl ?_
            refine fr_gfR (q := 82) (j := 51) F dX7_sings_79 rfl faRX7_240 (by decide) rfl rfl ?_
            refine fr_iload_n (q := 83) F dX7_sings_82 rfl rfl ?_
            obtain ⟨hi16, h⟩ := fr_ck_some h
            refine fr_ial (q := 84) (x := (n15 51 (Int32.toNatClampNeg a3))) F dX7_sings_83 rfl hi16 (by decide) rfl rfl ?_
            refine fr_iconst (q := 85) (v := (-1)) F dX7_sings_84 rfl (by decide) ?_
            refine fr_icmp_ne (q := 88) (tgt := 93) F dX7_sings_85 (by decide) rfl (fun hc17 => ?_) (fun hc17 => ?_)
            · rw [if_neg hc17] at h
              refine fr_aload_n (q := 94) F dX7_sings_93 rfl rfl ?_
              refine fr_gfR (q := 97) (j := 48) F dX7_sings_94 rfl faRX7_60 (by decide) rfl rfl ?_
              refine fr_gfR (q := 100) (j := 51) F dX7_sings_97 rfl faRX7_240 (by decide) rfl rfl ?_
              refine fr_iload_n (q := 101) F dX7_sings_100 rfl rfl ?_
              obtain ⟨hi18, h⟩ := fr_ck_some h
              refine fr_ial (q := 102) (x := (n15 51 (Int32.toNatClampNeg a3))) F dX7_sings_101 rfl hi18 (by decide) rfl rfl ?_
              obtain ⟨rfl, rfl⟩ := Prod.mk.inj (Option.some.inj h)
              exact fr_iret F E rfl dX7_sings_102
            · rw [if_pos hc17] at h
              refine fr_ldc (q := 90) F dX7_sings_88 rfl kcRX7_203 ?_
              refine fr_goto (tgt := 102) F dX7_sings_90 (by decide) ?_
              obtain ⟨rfl, rfl⟩ := Prod.mk.inj (Option.some.inj h)
              exact fr_iret F E rfl dX7_sings_102
          · rw [if_neg hc12] at h
            refine fr_ldc (q := 57) F dX7_sings_55 rfl kcRX7_203 ?_
            obtain ⟨rfl, rfl⟩ := Prod.mk.inj (Option.some.inj h)
            exact fr_iret F E rfl dX7_sings_57
      · rw [if_neg hc5] at h
        refine fr_ldc (q := 28) F dX7_sings_26 rfl kcRX7_72 ?_
        obtain ⟨rfl, rfl⟩ := Prod.mk.inj (Option.some.inj h)
        exact fr_iret F E rfl dX7_sings_28
  · rw [if_pos hc1] at h
    refine fr_ldc (q := 12) F dX7_sings_10 rfl kcRX7_105 ?_
    obtain ⟨rfl, rfl⟩ := Prod.mk.inj (Option.some.inj h)
    exact fr_iret F E rfl dX7_sings_12
/-! FeastRotaModel.sings (52, None, None, None) -/
def fX8_sings (a1 : Int32) (a2 : Int32) (a3 : Int32) (n0 : fr_N) : Option (Int32 × fr_N) := fr_bd (fX8_isBook n0) fun r1 => (if r1 = true then if a3 < 0 then some ((-1000001 : Int32), n0) else fr_bd2 (fX8_hasDay a1 a2 (1 : Int32) n0) fun r5 n7 => (if r5 = true then fr_bd (fX8_servicesOf a2 n7) fun r9 => (if a3 < r9 then fr_bd (fX8_laysRota (n7 1 5) a2 n7) fun n14 => (fr_ck a3 4 (some ((n14 14 (Int32.toNatClampNeg a3)), n14))) else some ((-1000000 : Int32), n7)) else some ((-1000001 : Int32), n7)) else some ((-1000002 : Int32), n0))
theorem tX8_sings {l : Launch} {G : fr_G} {u0 : fr_N} {a1 : Int32} {a2 : Int32} {a3 : Int32} {n0 : fr_N} {rz : Int32} {nz : fr_N} (h : fX8_sings a1 a2 a3 n0 = some (rz, nz)) : fr_Met l G YX8_sings [.ref 52, .int a1, .int a2, .int a3] (u0, n0) (some (.int rz)) (u0, nz) := by
  refine fr_met (pad := List.replicate 0 none) (by decide) (Nat.le_of_ble_eq_true rfl) (fun _ h => List.eq_of_mem_replicate h) ⟨rfl, rfl⟩ (fun K F hG hL E => ?_)
  subst hG; subst hL
  rw [fX8_sings] at h
  show fr_V YX8_sings K 0 [some (.ref 52), some (.int a1), some (.int a2), some (.int a3)] [] (u0, n0)
  refine fr_aload_n (q := 1) F dX8_sings_0 rfl rfl ?_
  obtain ⟨r1, hr2, h⟩ := fr_bd_some h
  refine fr_callV (q := 4) (M' := (u0, n0)) (rest := []) (st' := [.int (fr_b r1)]) F dX8_sings_1 rfl (tX8_isBook hr2) mlRX8_261 msX8_isBook ⟨Nat.le_of_ble_eq_true rfl, Nat.le_of_ble_eq_true rfl⟩ (by decide) rfl rfl rfl (Nat.le_of_ble_eq_true rfl) rfl ?_
  refine fr_if_neb (q := 7) (tgt := 10) F dX8_sings_4 (by decide) rfl (fun hc3 => ?_) (fun hc3 => ?_)
  · rw [if_pos hc3] at h
    refine fr_iload_n (q := 11) F dX8_sings_10 rfl rfl ?_
    refine fr_if_lt (q := 14) (tgt := 24) F dX8_sings_11 (by decide) rfl (fun hc4 => ?_) (fun hc4 => ?_)
    · rw [if_pos hc4] at h
      refine fr_ldc (q := 26) F dX8_sings_24 rfl kcRX8_209 ?_
      obtain ⟨rfl, rfl⟩ := Prod.mk.inj (Option.some.inj h)
      exact fr_iret F E rfl dX8_sings_26
    · rw [if_neg hc4] at h
      refine fr_aload_n (q := 15) F dX8_sings_14 rfl rfl ?_
      refine fr_iload_n (q := 16) F dX8_sings_15 rfl rfl ?_
      refine fr_iload_n (q := 17) F dX8_sings_16 rfl rfl ?_
      refine fr_iconst (q := 18) (v := 1) F dX8_sings_17 rfl (by decide) ?_
      obtain ⟨r5, n7, hr6, h⟩ := fr_bd2_some h
      refine fr_callV (q := 21) (M' := (u0, n7)) (rest := []) (st' := [.int (fr_b r5)]) F dX8_sings_18 rfl (tX8_hasDay hr6) mlRX8_298 msX8_hasDay ⟨Nat.le_of_ble_eq_true rfl, Nat.le_of_ble_eq_true rfl⟩ (by decide) rfl rfl rfl (Nat.le_of_ble_eq_true rfl) rfl ?_
      refine fr_if_neb (q := 24) (tgt := 27) F dX8_sings_21 (by decide) rfl (fun hc8 => ?_) (fun hc8 => ?_)
      · rw [if_pos hc8] at h
        refine fr_iload_n (q := 28) F dX8_sings_27 rfl rfl ?_
        refine fr_aload_n (q := 29) F dX8_sings_28 rfl rfl ?_
        refine fr_iload_n (q := 30) F dX8_sings_29 rfl rfl ?_
        obtain ⟨r9, hr10, h⟩ := fr_bd_some h
        refine fr_callV (q := 33) (M' := (u0, n7)) (rest := [.int a3]) (st' := [.int r9, .int a3]) F dX8_sings_30 rfl (tX8_servicesOf hr10) mlRX8_141 msX8_servicesOf ⟨Nat.le_of_ble_eq_true rfl, Nat.le_of_ble_eq_true rfl⟩ (by decide) rfl rfl rfl (Nat.le_of_ble_eq_true rfl) rfl ?_
        refine fr_icmp_lt (q := 36) (tgt := 39) F dX8_sings_33 (by decide) rfl (fun hc11 => ?_) (fun hc11 => ?_)
        · rw [if_pos hc11] at h
          refine fr_aload_n (q := 40) F dX8_sings_39 rfl rfl ?_
          refine fr_aload_n (q := 41) F dX8_sings_40 rfl rfl ?_
          refine fr_gfR (q := 44) (j := 53) F dX8_sings_41 rfl faRX8_7 (by decide) rfl rfl ?_
          refine fr_iconst (q := 45) (v := 5) F dX8_sings_44 rfl (by decide) ?_
          refine fr_ial (q := 46) (x := (n7 1 5)) F dX8_sings_45 rfl (fr_vin rfl) (by decide) rfl rfl ?_
          refine fr_iload_n (q := 47) F dX8_sings_46 rfl rfl ?_
          obtain ⟨n14, hr13, h⟩ := fr_bd_some h
          refine fr_callV (q := 50) (M' := (u0, n14)) (rest := []) (st' := []) F dX8_sings_47 rfl (tX8_laysRota hr13) mlRX8_148 msX8_laysRota ⟨Nat.le_of_ble_eq_true rfl, Nat.le_of_ble_eq_true rfl⟩ (by decide) rfl rfl rfl (Nat.le_of_ble_eq_true rfl) rfl ?_
          refine fr_aload_n (q := 51) F dX8_sings_50 rfl rfl ?_
          refine fr_gfR (q := 54) (j := 66) F dX8_sings_51 rfl faRX8_50 (by decide) rfl rfl ?_
          refine fr_iload_n (q := 55) F dX8_sings_54 rfl rfl ?_
          obtain ⟨hi15, h⟩ := fr_ck_some h
          refine fr_ial (q := 56) (x := (n14 14 (Int32.toNatClampNeg a3))) F dX8_sings_55 rfl hi15 (by decide) rfl rfl ?_
          obtain ⟨rfl, rfl⟩ := Prod.mk.inj (Option.some.inj h)
          exact fr_iret F E rfl dX8_sings_56
        · rw [if_neg hc11] at h
          refine fr_ldc (q := 38) F dX8_sings_36 rfl kcRX8_90 ?_
          obtain ⟨rfl, rfl⟩ := Prod.mk.inj (Option.some.inj h)
          exact fr_iret F E rfl dX8_sings_38
      · rw [if_neg hc8] at h
        refine fr_ldc (q := 26) F dX8_sings_24 rfl kcRX8_209 ?_
        obtain ⟨rfl, rfl⟩ := Prod.mk.inj (Option.some.inj h)
        exact fr_iret F E rfl dX8_sings_26
  · rw [if_neg hc3] at h
    refine fr_ldc (q := 9) F dX8_sings_7 rfl kcRX8_238 ?_
    obtain ⟨rfl, rfl⟩ := Prod.mk.inj (Option.some.inj h)
    exact fr_iret F E rfl dX8_sings_9
/-! FeastRota.duties (0, None, None, None) -/
def fX7_duties_34 (x1 : Int32) (x2 : Int32) (x3 : Int32) (n0 : fr_N) : Option (Int32 × fr_N) := fr_bd (fX3_lay x2 (-1 : Int32) n0) fun n3 => (fr_bd (fX5_go (n3 4 5) x3 n3) fun n6 => (fr_ck x1 5 (some ((n6 49 (Int32.toNatClampNeg x1)), n6))))
def fX7_duties_22 (x1 : Int32) (x2 : Int32) (x3 : Int32) (n0 : fr_N) : Option (Int32 × fr_N) := fr_bd (fX7_isDay x2 x3 n0) fun r8 => (if r8 = true then fX7_duties_34 x1 x2 x3 n0 else some ((-1000001 : Int32), n0))
def fX7_duties (a1 : Int32) (a2 : Int32) (a3 : Int32) (n0 : fr_N) : Option (Int32 × fr_N) := fr_bd (fX1_hasChoir_3 a1 n0) fun r11 => (if r11 = true then if a3 = 0 then fr_bd (fX7_isYear a2) fun r15 => (if r15 = true then fX7_duties_34 a1 a2 a3 n0 else fX7_duties_22 a1 a2 a3 n0) else fX7_duties_22 a1 a2 a3 n0 else some ((-1000001 : Int32), n0))
theorem tX7_duties_34 {K : fr_K} {u0 : fr_N} {rz : Int32} {nz : fr_N} (F : fr_F YX7_duties K) (E : fr_R YX7_duties K (some (.int rz)) (nz, u0)) {x1 : Int32} {x2 : Int32} {x3 : Int32} {n0 : fr_N} (h : fX7_duties_34 x1 x2 x3 n0 = some (rz, nz)) : fr_V YX7_duties K 34 [some (.ref 0), some (.int x1), some (.int x2), some (.int x3)] [] (n0, u0) := by
  rw [fX7_duties_34] at h
  refine fr_aload_n (q := 35) F dX7_duties_34 rfl rfl ?_
  refine fr_gfR (q := 38) (j := 11) F dX7_duties_35 rfl faRX7_51 (by decide) rfl rfl ?_
  refine fr_iload_n (q := 39) F dX7_duties_38 rfl rfl ?_
  refine fr_iconst (q := 40) (v := (-1)) F dX7_duties_39 rfl (by decide) ?_
  obtain ⟨n3, hr2, h⟩ := fr_bd_some h
  refine fr_callV (q := 43) (M' := (n3, u0)) (rest := []) (st' := []) F dX7_duties_40 rfl (tX3_lay hr2) mlRX7_156 msX3_lay ⟨Nat.le_of_ble_eq_true rfl, Nat.le_of_ble_eq_true rfl⟩ (by decide) rfl rfl rfl (Nat.le_of_ble_eq_true rfl) rfl ?_
  refine fr_aload_n (q := 44) F dX7_duties_43 rfl rfl ?_
  refine fr_gfR (q := 47) (j := 48) F dX7_duties_44 rfl faRX7_60 (by decide) rfl rfl ?_
  refine fr_aload_n (q := 48) F dX7_duties_47 rfl rfl ?_
  refine fr_gfR (q := 51) (j := 3) F dX7_duties_48 rfl faRX7_36 (by decide) rfl rfl ?_
  refine fr_gfR (q := 54) (j := 4) F dX7_duties_51 rfl faRX7_141 (by decide) rfl rfl ?_
  refine fr_iconst (q := 55) (v := 5) F dX7_duties_54 rfl (by decide) ?_
  refine fr_ial (q := 56) (x := (n3 4 5)) F dX7_duties_55 rfl (fr_vin rfl) (by decide) rfl rfl ?_
  refine fr_iload_n (q := 57) F dX7_duties_56 rfl rfl ?_
  obtain ⟨n6, hr5, h⟩ := fr_bd_some h
  refine fr_callV (q := 60) (M' := (n6, u0)) (rest := []) (st' := []) F dX7_duties_57 rfl (tX5_go hr5) mlRX7_187 msX5_go ⟨Nat.le_of_ble_eq_true rfl, Nat.le_of_ble_eq_true rfl⟩ (by decide) rfl rfl rfl (Nat.le_of_ble_eq_true rfl) rfl ?_
  refine fr_aload_n (q := 61) F dX7_duties_60 rfl rfl ?_
  refine fr_gfR (q := 64) (j := 48) F dX7_duties_61 rfl faRX7_60 (by decide) rfl rfl ?_
  refine fr_gfR (q := 67) (j := 49) F dX7_duties_64 rfl faRX7_243 (by decide) rfl rfl ?_
  refine fr_iload_n (q := 68) F dX7_duties_67 rfl rfl ?_
  obtain ⟨hi7, h⟩ := fr_ck_some h
  refine fr_ial (q := 69) (x := (n6 49 (Int32.toNatClampNeg x1))) F dX7_duties_68 rfl hi7 (by decide) rfl rfl ?_
  obtain ⟨rfl, rfl⟩ := Prod.mk.inj (Option.some.inj h)
  exact fr_iret F E rfl dX7_duties_69
theorem tX7_duties_22 {K : fr_K} {u0 : fr_N} {rz : Int32} {nz : fr_N} (F : fr_F YX7_duties K) (E : fr_R YX7_duties K (some (.int rz)) (nz, u0)) {x1 : Int32} {x2 : Int32} {x3 : Int32} {n0 : fr_N} (h : fX7_duties_22 x1 x2 x3 n0 = some (rz, nz)) : fr_V YX7_duties K 22 [some (.ref 0), some (.int x1), some (.int x2), some (.int x3)] [] (n0, u0) := by
  rw [fX7_duties_22] at h
  refine fr_aload_n (q := 23) F dX7_duties_22 rfl rfl ?_
  refine fr_iload_n (q := 24) F dX7_duties_23 rfl rfl ?_
  refine fr_iload_n (q := 25) F dX7_duties_24 rfl rfl ?_
  obtain ⟨r8, hr9, h⟩ := fr_bd_some h
  refine fr_callV (q := 28) (M' := (n0, u0)) (rest := []) (st' := [.int (fr_b r8)]) F dX7_duties_25 rfl (tX7_isDay hr9) mlRX7_193 msX7_isDay ⟨Nat.le_of_ble_eq_true rfl, Nat.le_of_ble_eq_true rfl⟩ (by decide) rfl rfl rfl (Nat.le_of_ble_eq_true rfl) rfl ?_
  refine fr_if_neb (q := 31) (tgt := 34) F dX7_duties_28 (by decide) rfl (fun hc10 => ?_) (fun hc10 => ?_)
  · rw [if_pos hc10] at h
    exact fr_wj (tX7_duties_34 F E h) ⟨rfl, ⟨rfl, ⟨rfl, ⟨rfl, trivial⟩⟩⟩⟩
  · rw [if_neg hc10] at h
    refine fr_ldc (q := 33) F dX7_duties_31 rfl kcRX7_72 ?_
    obtain ⟨rfl, rfl⟩ := Prod.mk.inj (Option.some.inj h)
    exact fr_iret F E rfl dX7_duties_33
theorem tX7_duties {l : Launch} {G : fr_G} {u0 : fr_N} {a1 : Int32} {a2 : Int32} {a3 : Int32} {n0 : fr_N} {rz : Int32} {nz : fr_N} (h : fX7_duties a1 a2 a3 n0 = some (rz, nz)) : fr_Met l G YX7_duties [.ref 0, .int a1, .int a2, .int a3] (n0, u0) (some (.int rz)) (nz, u0) := by
  refine fr_met (pad := List.replicate 0 none) (by decide) (Nat.le_of_ble_eq_true rfl) (fun _ h => List.eq_of_mem_replicate h) ⟨rfl, rfl⟩ (fun K F hG hL E => ?_)
  subst hG; subst hL
  rw [fX7_duties] at h
  show fr_V YX7_duties K 0 [some (.ref 0), some (.int a1), some (.int a2), some (.int a3)] [] (n0, u0)
  refine fr_aload_n (q := 1) F dX7_duties_0 rfl rfl ?_
  refine fr_gfR (q := 4) (j := 3) F dX7_duties_1 rfl faRX7_36 (by decide) rfl rfl ?_
  refine fr_iload_n (q := 5) F dX7_duties_4 rfl rfl ?_
  obtain ⟨r11, hr12, h⟩ := fr_bd_some h
  refine fr_callV (q := 8) (M' := (n0, u0)) (rest := []) (st' := [.int (fr_b r11)]) F dX7_duties_5 rfl (tX1_hasChoir_3 hr12) mlRX7_144 msX1_hasChoir ⟨Nat.le_of_ble_eq_true rfl, Nat.le_of_ble_eq_true rfl⟩ (by decide) rfl rfl rfl (Nat.le_of_ble_eq_true rfl) rfl ?_
  refine fr_if_eqb (q := 11) (tgt := 31) F dX7_duties_8 (by decide) rfl (fun hc13 => ?_) (fun hc13 => ?_)
  · rw [if_neg hc13] at h
    refine fr_ldc (q := 33) F dX7_duties_31 rfl kcRX7_72 ?_
    obtain ⟨rfl, rfl⟩ := Prod.mk.inj (Option.some.inj h)
    exact fr_iret F E rfl dX7_duties_33
  · rw [if_pos hc13] at h
    refine fr_iload_n (q := 12) F dX7_duties_11 rfl rfl ?_
    refine fr_if_ne (q := 15) (tgt := 22) F dX7_duties_12 (by decide) rfl (fun hc14 => ?_) (fun hc14 => ?_)
    · rw [if_neg hc14] at h
      exact fr_wj (tX7_duties_22 F E h) ⟨rfl, ⟨rfl, ⟨rfl, ⟨rfl, trivial⟩⟩⟩⟩
    · rw [if_pos hc14] at h
      refine fr_iload_n (q := 16) F dX7_duties_15 rfl rfl ?_
      obtain ⟨r15, hr16, h⟩ := fr_bd_some h
      refine fr_callS (q := 19) (M' := (n0, u0)) (rest := []) (st' := [.int (fr_b r15)]) F dX7_duties_16 rfl (tX7_isYear hr16) mlRX7_153 msX7_isYear ⟨Nat.le_of_ble_eq_true rfl, Nat.le_of_ble_eq_true rfl⟩ rfl rfl (Nat.le_of_ble_eq_true rfl) rfl ?_
      refine fr_if_neb (q := 22) (tgt := 34) F dX7_duties_19 (by decide) rfl (fun hc17 => ?_) (fun hc17 => ?_)
      · rw [if_pos hc17] at h
        exact fr_wj (tX7_duties_34 F E h) ⟨rfl, ⟨rfl, ⟨rfl, ⟨rfl, trivial⟩⟩⟩⟩
      · rw [if_neg hc17] at h
        exact fr_wj (tX7_duties_22 F E h) ⟨rfl, ⟨rfl, ⟨rfl, ⟨rfl, trivial⟩⟩⟩⟩
/-! FeastRotaModel.duties (52, None, None, None) -/
def fX8_duties (a1 : Int32) (a2 : Int32) (a3 : Int32) (n0 : fr_N) : Option (Int32 × fr_N) := fr_bd (fX8_isChoir a1 n0) fun r1 => (if r1 = true then fr_bd2 (fX8_hasDay a2 a3 (0 : Int32) n0) fun r4 n6 => (if r4 = true then fr_bd (fX8_laysRota (n6 1 5) a3 n6) fun n10 => (fr_ck a1 5 (some ((n10 12 (Int32.toNatClampNeg a1)), n10))) else some ((-1000001 : Int32), n6)) else some ((-1000001 : Int32), n0))
theorem tX8_duties {l : Launch} {G : fr_G} {u0 : fr_N} {a1 : Int32} {a2 : Int32} {a3 : Int32} {n0 : fr_N} {rz : Int32} {nz : fr_N} (h : fX8_duties a1 a2 a3 n0 = some (rz, nz)) : fr_Met l G YX8_duties [.ref 52, .int a1, .int a2, .int a3] (u0, n0) (some (.int rz)) (u0, nz) := by
  refine fr_met (pad := List.replicate 0 none) (by decide) (Nat.le_of_ble_eq_true rfl) (fun _ h => List.eq_of_mem_replicate h) ⟨rfl, rfl⟩ (fun K F hG hL E => ?_)
  subst hG; subst hL
  rw [fX8_duties] at h
  show fr_V YX8_duties K 0 [some (.ref 52), some (.int a1), some (.int a2), some (.int a3)] [] (u0, n0)
  refine fr_aload_n (q := 1) F dX8_duties_0 rfl rfl ?_
  refine fr_iload_n (q := 2) F dX8_duties_1 rfl rfl ?_
  obtain ⟨r1, hr2, h⟩ := fr_bd_some h
  refine fr_callV (q := 5) (M' := (u0, n0)) (rest := []) (st' := [.int (fr_b r1)]) F dX8_duties_2 rfl (tX8_isChoir hr2) mlRX8_278 msX8_isChoir ⟨Nat.le_of_ble_eq_true rfl, Nat.le_of_ble_eq_true rfl⟩ (by decide) rfl rfl rfl (Nat.le_of_ble_eq_true rfl) rfl ?_
  refine fr_if_eqb (q := 8) (tgt := 18) F dX8_duties_5 (by decide) rfl (fun hc3 => ?_) (fun hc3 => ?_)
  · rw [if_neg hc3] at h
    refine fr_ldc (q := 20) F dX8_duties_18 rfl kcRX8_209 ?_
    obtain ⟨rfl, rfl⟩ := Prod.mk.inj (Option.some.inj h)
    exact fr_iret F E rfl dX8_duties_20
  · rw [if_pos hc3] at h
    refine fr_aload_n (q := 9) F dX8_duties_8 rfl rfl ?_
    refine fr_iload_n (q := 10) F dX8_duties_9 rfl rfl ?_
    refine fr_iload_n (q := 11) F dX8_duties_10 rfl rfl ?_
    refine fr_iconst (q := 12) (v := 0) F dX8_duties_11 rfl (by decide) ?_
    obtain ⟨r4, n6, hr5, h⟩ := fr_bd2_some h
    refine fr_callV (q := 15) (M' := (u0, n6)) (rest := []) (st' := [.int (fr_b r4)]) F dX8_duties_12 rfl (tX8_hasDay hr5) mlRX8_298 msX8_hasDay ⟨Nat.le_of_ble_eq_true rfl, Nat.le_of_ble_eq_true rfl⟩ (by decide) rfl rfl rfl (Nat.le_of_ble_eq_true rfl) rfl ?_
    refine fr_if_neb (q := 18) (tgt := 21) F dX8_duties_15 (by decide) rfl (fun hc7 => ?_) (fun hc7 => ?_)
    · rw [if_pos hc7] at h
      refine fr_aload_n (q := 22) F dX8_duties_21 rfl rfl ?_
      refine fr_aload_n (q := 23) F dX8_duties_22 rfl rfl ?_
      refine fr_gfR (q := 26) (j := 53) F dX8_duties_23 rfl faRX8_7 (by decide) rfl rfl ?_
      refine fr_iconst (q := 27) (v := 5) F dX8_duties_26 rfl (by decide) ?_
      refine fr_ial (q := 28) (x := (n6 1 5)) F dX8_duties_27 rfl (fr_vin rfl) (by decide) rfl rfl ?_
      refine fr_iload_n (q := 29) F dX8_duties_28 rfl rfl ?_
      obtain ⟨n10, hr9, h⟩ := fr_bd_some h
      refine fr_callV (q := 32) (M' := (u0, n10)) (rest := []) (st' := []) F dX8_duties_29 rfl (tX8_laysRota hr9) mlRX8_148 msX8_laysRota ⟨Nat.le_of_ble_eq_true rfl, Nat.le_of_ble_eq_true rfl⟩ (by decide) rfl rfl rfl (Nat.le_of_ble_eq_true rfl) rfl ?_
      refine fr_aload_n (q := 33) F dX8_duties_32 rfl rfl ?_
      refine fr_gfR (q := 36) (j := 64) F dX8_duties_33 rfl faRX8_44 (by decide) rfl rfl ?_
      refine fr_iload_n (q := 37) F dX8_duties_36 rfl rfl ?_
      obtain ⟨hi11, h⟩ := fr_ck_some h
      refine fr_ial (q := 38) (x := (n10 12 (Int32.toNatClampNeg a1))) F dX8_duties_37 rfl hi11 (by decide) rfl rfl ?_
      obtain ⟨rfl, rfl⟩ := Prod.mk.inj (Option.some.inj h)
      exact fr_iret F E rfl dX8_duties_38
    · rw [if_neg hc7] at h
      refine fr_ldc (q := 20) F dX8_duties_18 rfl kcRX8_209 ?_
      obtain ⟨rfl, rfl⟩ := Prod.mk.inj (Option.some.inj h)
      exact fr_iret F E rfl dX8_duties_20
/-! FeastRota$Rota.gap (48,) -/
def fX5_gap_16 (n0 : fr_N) : Nat → Int32 → Int32 → Int32 → Option Int32
  | 0, _, _, _ => none
  | k + 1, x1, x2, x3 => if (n0 3 3) ≤ x3 then some (x1 - x2) else fr_ck x3 5 (fr_ck x3 5 ((fX5_gap_16 n0 k) (if x1 < (n0 49 (Int32.toNatClampNeg x3)) then (n0 49 (Int32.toNatClampNeg x3)) else x1) (if (n0 49 (Int32.toNatClampNeg x3)) < x2 then (n0 49 (Int32.toNatClampNeg x3)) else x2) (x3 + (1 : Int32))))
def fX5_gap (n0 : fr_N) : Option Int32 := fX5_gap_16 n0 2000 (n0 49 0) (n0 49 0) (1 : Int32)
theorem tX5_gap_16 {K : fr_K} {u0 : fr_N} {n0 : fr_N} {rz : Int32} (F : fr_F YX5_gap K) (E : fr_R YX5_gap K (some (.int rz)) (n0, u0)) : ∀ (k : Nat) (x1 : Int32) (x2 : Int32) (x3 : Int32), fX5_gap_16 n0 k x1 x2 x3 = some rz → fr_V YX5_gap K 16 [some (.ref 48), some (.int x1), some (.int x2), some (.int x3)] [] (n0, u0) := by
  intro k
  induction k with
  | zero =>
    intro x1 x2 x3 h
    rw [fX5_gap_16] at h
    cases h
  | succ k ih =>
    intro x1 x2 x3 h
    rw [fX5_gap_16] at h
    refine fr_iload_n (q := 17) F dX5_gap_16 rfl rfl ?_
    refine fr_aload_n (q := 18) F dX5_gap_17 rfl rfl ?_
    refine fr_gfR (q := 21) (j := 3) F dX5_gap_18 rfl faRX5_9 (by decide) rfl rfl ?_
    refine fr_gfI (q := 24) (x := (n0 3 3)) F dX5_gap_21 rfl faRX5_69 (by decide) rfl rfl rfl ?_
    refine fr_icmp_ge (q := 27) (tgt := 55) F dX5_gap_24 (by decide) rfl (fun hc1 => ?_) (fun hc1 => ?_)
    · rw [if_pos hc1] at h
      refine fr_iload_n (q := 56) F dX5_gap_55 rfl rfl ?_
      refine fr_iload_n (q := 57) F dX5_gap_56 rfl rfl ?_
      refine fr_isub (q := 58) F dX5_gap_57 rfl ?_
      obtain rfl := Option.some.inj h
      exact fr_iret F E rfl dX5_gap_58
    · rw [if_neg hc1] at h
      refine fr_iload_n (q := 28) F dX5_gap_27 rfl rfl ?_
      refine fr_aload_n (q := 29) F dX5_gap_28 rfl rfl ?_
      refine fr_gfR (q := 32) (j := 49) F dX5_gap_29 rfl faRX5_19 (by decide) rfl rfl ?_
      refine fr_iload_n (q := 33) F dX5_gap_32 rfl rfl ?_
      obtain ⟨hi2, h⟩ := fr_ck_some h
      refine fr_ial (q := 34) (x := (n0 49 (Int32.toNatClampNeg x3))) F dX5_gap_33 rfl hi2 (by decide) rfl rfl ?_
      refine fr_max (q := 37) F dX5_gap_34 rfl mlRX5_82 mm_max ⟨Nat.le_of_ble_eq_true rfl, Nat.le_of_ble_eq_true rfl⟩ ?_
      refine fr_istore_n (q := 38) F dX5_gap_37 rfl (by decide) rfl ?_
      refine fr_iload_n (q := 39) F dX5_gap_38 rfl rfl ?_
      refine fr_aload_n (q := 40) F dX5_gap_39 rfl rfl ?_
      refine fr_gfR (q := 43) (j := 49) F dX5_gap_40 rfl faRX5_19 (by decide) rfl rfl ?_
      refine fr_iload_n (q := 44) F dX5_gap_43 rfl rfl ?_
      obtain ⟨hi3, h⟩ := fr_ck_some h
      refine fr_ial (q := 45) (x := (n0 49 (Int32.toNatClampNeg x3))) F dX5_gap_44 rfl hi3 (by decide) rfl rfl ?_
      refine fr_min (q := 48) F dX5_gap_45 rfl mlRX5_55 mm_min ⟨Nat.le_of_ble_eq_true rfl, Nat.le_of_ble_eq_true rfl⟩ ?_
      refine fr_istore_n (q := 49) F dX5_gap_48 rfl (by decide) rfl ?_
      refine fr_iinc (q := 52) (v := (x3 + (1 : Int32))) F dX5_gap_49 rfl rfl rfl (by decide) rfl ?_
      refine fr_goto (tgt := 16) F dX5_gap_52 (by decide) ?_
      exact fr_wj (ih _ _ _ h) ⟨rfl, ⟨rfl, ⟨rfl, ⟨rfl, trivial⟩⟩⟩⟩
theorem tX5_gap {l : Launch} {G : fr_G} {u0 : fr_N} {n0 : fr_N} {rz : Int32} (h : fX5_gap n0 = some rz) : fr_Met l G YX5_gap [.ref 48] (n0, u0) (some (.int rz)) (n0, u0) := by
  refine fr_met (pad := List.replicate 3 none) (by decide) (Nat.le_of_ble_eq_true rfl) (fun _ h => List.eq_of_mem_replicate h) ⟨rfl, rfl⟩ (fun K F hG hL E => ?_)
  subst hG; subst hL
  rw [fX5_gap] at h
  show fr_V YX5_gap K 0 [some (.ref 48), none, none, none] [] (n0, u0)
  refine fr_aload_n (q := 1) F dX5_gap_0 rfl rfl ?_
  refine fr_gfR (q := 4) (j := 49) F dX5_gap_1 rfl faRX5_19 (by decide) rfl rfl ?_
  refine fr_iconst (q := 5) (v := 0) F dX5_gap_4 rfl (by decide) ?_
  refine fr_ial (q := 6) (x := (n0 49 0)) F dX5_gap_5 rfl (fr_vin rfl) (by decide) rfl rfl ?_
  refine fr_istore_n (q := 7) F dX5_gap_6 rfl (by decide) rfl ?_
  refine fr_aload_n (q := 8) F dX5_gap_7 rfl rfl ?_
  refine fr_gfR (q := 11) (j := 49) F dX5_gap_8 rfl faRX5_19 (by decide) rfl rfl ?_
  refine fr_iconst (q := 12) (v := 0) F dX5_gap_11 rfl (by decide) ?_
  refine fr_ial (q := 13) (x := (n0 49 0)) F dX5_gap_12 rfl (fr_vin rfl) (by decide) rfl rfl ?_
  refine fr_istore_n (q := 14) F dX5_gap_13 rfl (by decide) rfl ?_
  refine fr_iconst (q := 15) (v := 1) F dX5_gap_14 rfl (by decide) ?_
  refine fr_istore_n (q := 16) F dX5_gap_15 rfl (by decide) rfl ?_
  exact fr_wj (tX5_gap_16 F E _ _ _ _ h) ⟨rfl, ⟨rfl, ⟨rfl, ⟨rfl, trivial⟩⟩⟩⟩
/-! FeastRota.fair (0, None) -/
def fX7_fair (a1 : Int32) (n0 : fr_N) : Option (Int32 × fr_N) := if (n0 3 0) = 0 then some ((-1000002 : Int32), n0) else fr_bd (fX7_isYear a1) fun r2 => (if r2 = true then fr_bd (fX3_lay a1 (-1 : Int32) n0) fun n7 => (fr_bd (fX5_go (n7 4 5) (n7 12 0) n7) fun n10 => (fr_bd (fX5_gap n10) fun r11 => (some (r11, n10)))) else some ((-1000001 : Int32), n0))
theorem tX7_fair {l : Launch} {G : fr_G} {u0 : fr_N} {a1 : Int32} {n0 : fr_N} {rz : Int32} {nz : fr_N} (h : fX7_fair a1 n0 = some (rz, nz)) : fr_Met l G YX7_fair [.ref 0, .int a1] (n0, u0) (some (.int rz)) (nz, u0) := by
  refine fr_met (pad := List.replicate 0 none) (by decide) (Nat.le_of_ble_eq_true rfl) (fun _ h => List.eq_of_mem_replicate h) ⟨rfl, rfl⟩ (fun K F hG hL E => ?_)
  subst hG; subst hL
  rw [fX7_fair] at h
  show fr_V YX7_fair K 0 [some (.ref 0), some (.int a1)] [] (n0, u0)
  refine fr_aload_n (q := 1) F dX7_fair_0 rfl rfl ?_
  refine fr_gfR (q := 4) (j := 3) F dX7_fair_1 rfl faRX7_36 (by decide) rfl rfl ?_
  refine fr_gfI (q := 7) (x := (n0 3 0)) F dX7_fair_4 rfl faRX7_128 (by decide) rfl rfl rfl ?_
  refine fr_if_ne (q := 10) (tgt := 13) F dX7_fair_7 (by decide) rfl (fun hc1 => ?_) (fun hc1 => ?_)
  · rw [if_neg hc1] at h
    refine fr_iload_n (q := 14) F dX7_fair_13 rfl rfl ?_
    obtain ⟨r2, hr3, h⟩ := fr_bd_some h
    refine fr_callS (q := 17) (M' := (n0, u0)) (rest := []) (st' := [.int (fr_b r2)]) F dX7_fair_14 rfl (tX7_isYear hr3) mlRX7_153 msX7_isYear ⟨Nat.le_of_ble_eq_true rfl, Nat.le_of_ble_eq_true rfl⟩ rfl rfl (Nat.le_of_ble_eq_true rfl) rfl ?_
    refine fr_if_neb (q := 20) (tgt := 23) F dX7_fair_17 (by decide) rfl (fun hc4 => ?_) (fun hc4 => ?_)
    · rw [if_pos hc4] at h
      refine fr_aload_n (q := 24) F dX7_fair_23 rfl rfl ?_
      refine fr_gfR (q := 27) (j := 11) F dX7_fair_24 rfl faRX7_51 (by decide) rfl rfl ?_
      refine fr_iload_n (q := 28) F dX7_fair_27 rfl rfl ?_
      refine fr_iconst (q := 29) (v := (-1)) F dX7_fair_28 rfl (by decide) ?_
      obtain ⟨n7, hr6, h⟩ := fr_bd_some h
      refine fr_callV (q := 32) (M' := (n7, u0)) (rest := []) (st' := []) F dX7_fair_29 rfl (tX3_lay hr6) mlRX7_156 msX3_lay ⟨Nat.le_of_ble_eq_true rfl, Nat.le_of_ble_eq_true rfl⟩ (by decide) rfl rfl rfl (Nat.le_of_ble_eq_true rfl) rfl ?_
      refine fr_aload_n (q := 33) F dX7_fair_32 rfl rfl ?_
      refine fr_gfR (q := 36) (j := 48) F dX7_fair_33 rfl faRX7_60 (by decide) rfl rfl ?_
      refine fr_aload_n (q := 37) F dX7_fair_36 rfl rfl ?_
      refine fr_gfR (q := 40) (j := 3) F dX7_fair_37 rfl faRX7_36 (by decide) rfl rfl ?_
      refine fr_gfR (q := 43) (j := 4) F dX7_fair_40 rfl faRX7_141 (by decide) rfl rfl ?_
      refine fr_iconst (q := 44) (v := 5) F dX7_fair_43 rfl (by decide) ?_
      refine fr_ial (q := 45) (x := (n7 4 5)) F dX7_fair_44 rfl (fr_vin rfl) (by decide) rfl rfl ?_
      refine fr_aload_n (q := 46) F dX7_fair_45 rfl rfl ?_
      refine fr_gfR (q := 49) (j := 11) F dX7_fair_46 rfl faRX7_51 (by decide) rfl rfl ?_
      refine fr_gfR (q := 52) (j := 12) F dX7_fair_49 rfl faRX7_160 (by decide) rfl rfl ?_
      refine fr_gfI (q := 55) (x := (n7 12 0)) F dX7_fair_52 rfl faRX7_164 (by decide) rfl rfl rfl ?_
      obtain ⟨n10, hr9, h⟩ := fr_bd_some h
      refine fr_callV (q := 58) (M' := (n10, u0)) (rest := []) (st' := []) F dX7_fair_55 rfl (tX5_go hr9) mlRX7_187 msX5_go ⟨Nat.le_of_ble_eq_true rfl, Nat.le_of_ble_eq_true rfl⟩ (by decide) rfl rfl rfl (Nat.le_of_ble_eq_true rfl) rfl ?_
      refine fr_aload_n (q := 59) F dX7_fair_58 rfl rfl ?_
      refine fr_gfR (q := 62) (j := 48) F dX7_fair_59 rfl faRX7_60 (by decide) rfl rfl ?_
      obtain ⟨r11, hr12, h⟩ := fr_bd_some h
      refine fr_callV (q := 65) (M' := (n10, u0)) (rest := []) (st' := [.int r11]) F dX7_fair_62 rfl (tX5_gap hr12) mlRX7_246 msX5_gap ⟨Nat.le_of_ble_eq_true rfl, Nat.le_of_ble_eq_true rfl⟩ (by decide) rfl rfl rfl (Nat.le_of_ble_eq_true rfl) rfl ?_
      obtain ⟨rfl, rfl⟩ := Prod.mk.inj (Option.some.inj h)
      exact fr_iret F E rfl dX7_fair_65
    · rw [if_neg hc4] at h
      refine fr_ldc (q := 22) F dX7_fair_20 rfl kcRX7_72 ?_
      obtain ⟨rfl, rfl⟩ := Prod.mk.inj (Option.some.inj h)
      exact fr_iret F E rfl dX7_fair_22
  · rw [if_pos hc1] at h
    refine fr_ldc (q := 12) F dX7_fair_10 rfl kcRX7_105 ?_
    obtain ⟨rfl, rfl⟩ := Prod.mk.inj (Option.some.inj h)
    exact fr_iret F E rfl dX7_fair_12
/-! FeastRotaModel.unfair (52, None) -/
def fX8_unfair_60 (k26 : Int32 → Int32 → Int32 → fr_N → Option (Int32 × fr_N)) (x3 : Int32) (x4 : Int32) (s0 : Int32) (n0 : fr_N) : Option (Int32 × fr_N) := fr_ck x4 5 (if x3 ≤ (n0 12 (Int32.toNatClampNeg x4)) then k26 s0 x3 (x4 + (1 : Int32)) n0 else fr_ck x4 5 (k26 s0 (n0 12 (Int32.toNatClampNeg x4)) (x4 + (1 : Int32)) n0))
def fX8_unfair_26 : Nat → Int32 → Int32 → Int32 → fr_N → Option (Int32 × fr_N)
  | 0, _, _, _, _ => none
  | k + 1, x2, x3, x4, n0 => if (n0 1 8) ≤ x4 then some ((x2 - x3), n0) else fr_ck x4 5 (if (n0 12 (Int32.toNatClampNeg x4)) ≤ x2 then fX8_unfair_60 (fX8_unfair_26 k) x3 x4 x2 n0 else fr_ck x4 5 (fX8_unfair_60 (fX8_unfair_26 k) x3 x4 (n0 12 (Int32.toNatClampNeg x4)) n0))
def fX8_unfair (a1 : Int32) (n0 : fr_N) : Option (Int32 × fr_N) := fr_bd (fX8_laysRota a1 (n0 0 20) n0) fun n10 => (fX8_unfair_26 2000 (n10 12 0) (n10 12 0) (1 : Int32) n10)
theorem tX8_unfair_60 {K : fr_K} {k26 : Int32 → Int32 → Int32 → fr_N → Option (Int32 × fr_N)} {u0 : fr_N} {rz : Int32} {nz : fr_N} (F : fr_F YX8_unfair K) (E : fr_R YX8_unfair K (some (.int rz)) (u0, nz)) (H26 : ∀ (y2 : Int32) (y3 : Int32) (y4 : Int32) (n : fr_N), k26 y2 y3 y4 n = some (rz, nz) → fr_V YX8_unfair K 26 [some (.ref 52), none, some (.int y2), some (.int y3), some (.int y4)] [] (u0, n)) {x3 : Int32} {x4 : Int32} {s0 : Int32} {n0 : fr_N} (h : fX8_unfair_60 k26 x3 x4 s0 n0 = some (rz, nz)) : fr_V YX8_unfair K 60 [some (.ref 52), none, none, some (.int x3), some (.int x4)] [.int s0] (u0, n0) := by
  rw [fX8_unfair_60] at h
  refine fr_istore_n (q := 61) F dX8_unfair_60 rfl (by decide) rfl ?_
  refine fr_aload_n (q := 62) F dX8_unfair_61 rfl rfl ?_
  refine fr_gfR (q := 65) (j := 64) F dX8_unfair_62 rfl faRX8_44 (by decide) rfl rfl ?_
  refine fr_iload (q := 67) F dX8_unfair_65 rfl rfl ?_
  obtain ⟨hi1, h⟩ := fr_ck_some h
  refine fr_ial (q := 68) (x := (n0 12 (Int32.toNatClampNeg x4))) F dX8_unfair_67 rfl hi1 (by decide) rfl rfl ?_
  refine fr_iload_n (q := 69) F dX8_unfair_68 rfl rfl ?_
  refine fr_icmp_ge (q := 72) (tgt := 82) F dX8_unfair_69 (by decide) rfl (fun hc2 => ?_) (fun hc2 => ?_)
  · rw [if_pos hc2] at h
    refine fr_iload_n (q := 83) F dX8_unfair_82 rfl rfl ?_
    refine fr_istore_n (q := 84) F dX8_unfair_83 rfl (by decide) rfl ?_
    refine fr_iinc (q := 87) (v := (x4 + (1 : Int32))) F dX8_unfair_84 rfl rfl rfl (by decide) rfl ?_
    refine fr_goto (tgt := 26) F dX8_unfair_87 (by decide) ?_
    exact fr_wj (H26 _ _ _ _ h) ⟨rfl, ⟨rfl, ⟨rfl, ⟨rfl, trivial⟩⟩⟩⟩
  · rw [if_neg hc2] at h
    refine fr_aload_n (q := 73) F dX8_unfair_72 rfl rfl ?_
    refine fr_gfR (q := 76) (j := 64) F dX8_unfair_73 rfl faRX8_44 (by decide) rfl rfl ?_
    refine fr_iload (q := 78) F dX8_unfair_76 rfl rfl ?_
    obtain ⟨hi3, h⟩ := fr_ck_some h
    refine fr_ial (q := 79) (x := (n0 12 (Int32.toNatClampNeg x4))) F dX8_unfair_78 rfl hi3 (by decide) rfl rfl ?_
    refine fr_goto (tgt := 83) F dX8_unfair_79 (by decide) ?_
    refine fr_istore_n (q := 84) F dX8_unfair_83 rfl (by decide) rfl ?_
    refine fr_iinc (q := 87) (v := (x4 + (1 : Int32))) F dX8_unfair_84 rfl rfl rfl (by decide) rfl ?_
    refine fr_goto (tgt := 26) F dX8_unfair_87 (by decide) ?_
    exact fr_wj (H26 _ _ _ _ h) ⟨rfl, ⟨rfl, ⟨rfl, ⟨rfl, trivial⟩⟩⟩⟩
theorem tX8_unfair_26 {K : fr_K} {u0 : fr_N} {rz : Int32} {nz : fr_N} (F : fr_F YX8_unfair K) (E : fr_R YX8_unfair K (some (.int rz)) (u0, nz)) : ∀ (k : Nat) (x2 : Int32) (x3 : Int32) (x4 : Int32) (n0 : fr_N), fX8_unfair_26 k x2 x3 x4 n0 = some (rz, nz) → fr_V YX8_unfair K 26 [some (.ref 52), none, some (.int x2), some (.int x3), some (.int x4)] [] (u0, n0) := by
  intro k
  induction k with
  | zero =>
    intro x2 x3 x4 n0 h
    rw [fX8_unfair_26] at h
    cases h
  | succ k ih =>
    intro x2 x3 x4 n0 h
    rw [fX8_unfair_26] at h
    refine fr_iload (q := 28) F dX8_unfair_26 rfl rfl ?_
    refine fr_aload_n (q := 29) F dX8_unfair_28 rfl rfl ?_
    refine fr_gfR (q := 32) (j := 53) F dX8_unfair_29 rfl faRX8_7 (by decide) rfl rfl ?_
    refine fr_bipush (q := 34) (v := 8) F dX8_unfair_32 rfl (by decide) ?_
    refine fr_ial (q := 35) (x := (n0 1 8)) F dX8_unfair_34 rfl (fr_vin rfl) (by decide) rfl rfl ?_
    refine fr_icmp_ge (q := 38) (tgt := 90) F dX8_unfair_35 (by decide) rfl (fun hc4 => ?_) (fun hc4 => ?_)
    · rw [if_pos hc4] at h
      refine fr_iload_n (q := 91) F dX8_unfair_90 rfl rfl ?_
      refine fr_iload_n (q := 92) F dX8_unfair_91 rfl rfl ?_
      refine fr_isub (q := 93) F dX8_unfair_92 rfl ?_
      obtain ⟨rfl, rfl⟩ := Prod.mk.inj (Option.some.inj h)
      exact fr_iret F E rfl dX8_unfair_93
    · rw [if_neg hc4] at h
      refine fr_aload_n (q := 39) F dX8_unfair_38 rfl rfl ?_
      refine fr_gfR (q := 42) (j := 64) F dX8_unfair_39 rfl faRX8_44 (by decide) rfl rfl ?_
      refine fr_iload (q := 44) F dX8_unfair_42 rfl rfl ?_
      obtain ⟨hi5, h⟩ := fr_ck_some h
      refine fr_ial (q := 45) (x := (n0 12 (Int32.toNatClampNeg x4))) F dX8_unfair_44 rfl hi5 (by decide) rfl rfl ?_
      refine fr_iload_n (q := 46) F dX8_unfair_45 rfl rfl ?_
      refine fr_icmp_le (q := 49) (tgt := 59) F dX8_unfair_46 (by decide) rfl (fun hc6 => ?_) (fun hc6 => ?_)
      · rw [if_pos hc6] at h
        refine fr_iload_n (q := 60) F dX8_unfair_59 rfl rfl ?_
        exact fr_wj (tX8_unfair_60 F E ih h) ⟨rfl, ⟨rfl, ⟨rfl, trivial⟩⟩⟩
      · rw [if_neg hc6] at h
        refine fr_aload_n (q := 50) F dX8_unfair_49 rfl rfl ?_
        refine fr_gfR (q := 53) (j := 64) F dX8_unfair_50 rfl faRX8_44 (by decide) rfl rfl ?_
        refine fr_iload (q := 55) F dX8_unfair_53 rfl rfl ?_
        obtain ⟨hi7, h⟩ := fr_ck_some h
        refine fr_ial (q := 56) (x := (n0 12 (Int32.toNatClampNeg x4))) F dX8_unfair_55 rfl hi7 (by decide) rfl rfl ?_
        refine fr_goto (tgt := 60) F dX8_unfair_56 (by decide) ?_
        exact fr_wj (tX8_unfair_60 F E ih h) ⟨rfl, ⟨rfl, ⟨rfl, trivial⟩⟩⟩
theorem tX8_unfair {l : Launch} {G : fr_G} {u0 : fr_N} {a1 : Int32} {n0 : fr_N} {rz : Int32} {nz : fr_N} (h : fX8_unfair a1 n0 = some (rz, nz)) : fr_Met l G YX8_unfair [.ref 52, .int a1] (u0, n0) (some (.int rz)) (u0, nz) := by
  refine fr_met (pad := List.replicate 3 none) (by decide) (Nat.le_of_ble_eq_true rfl) (fun _ h => List.eq_of_mem_replicate h) ⟨rfl, rfl⟩ (fun K F hG hL E => ?_)
  subst hG; subst hL
  rw [fX8_unfair] at h
  show fr_V YX8_unfair K 0 [some (.ref 52), some (.int a1), none, none, none] [] (u0, n0)
  refine fr_aload_n (q := 1) F dX8_unfair_0 rfl rfl ?_
  refine fr_iload_n (q := 2) F dX8_unfair_1 rfl rfl ?_
  refine fr_aload_n (q := 3) F dX8_unfair_2 rfl rfl ?_
  refine fr_gfI (q := 6) (x := (n0 0 20)) F dX8_unfair_3 rfl faRX8_71 (by decide) rfl rfl rfl ?_
  obtain ⟨n10, hr9, h⟩ := fr_bd_some h
  refine fr_callV (q := 9) (M' := (u0, n10)) (rest := []) (st' := []) F dX8_unfair_6 rfl (tX8_laysRota hr9) mlRX8_148 msX8_laysRota ⟨Nat.le_of_ble_eq_true rfl, Nat.le_of_ble_eq_true rfl⟩ (by decide) rfl rfl rfl (Nat.le_of_ble_eq_true rfl) rfl ?_
  refine fr_aload_n (q := 10) F dX8_unfair_9 rfl rfl ?_
  refine fr_gfR (q := 13) (j := 64) F dX8_unfair_10 rfl faRX8_44 (by decide) rfl rfl ?_
  refine fr_iconst (q := 14) (v := 0) F dX8_unfair_13 rfl (by decide) ?_
  refine fr_ial (q := 15) (x := (n10 12 0)) F dX8_unfair_14 rfl (fr_vin rfl) (by decide) rfl rfl ?_
  refine fr_istore_n (q := 16) F dX8_unfair_15 rfl (by decide) rfl ?_
  refine fr_aload_n (q := 17) F dX8_unfair_16 rfl rfl ?_
  refine fr_gfR (q := 20) (j := 64) F dX8_unfair_17 rfl faRX8_44 (by decide) rfl rfl ?_
  refine fr_iconst (q := 21) (v := 0) F dX8_unfair_20 rfl (by decide) ?_
  refine fr_ial (q := 22) (x := (n10 12 0)) F dX8_unfair_21 rfl (fr_vin rfl) (by decide) rfl rfl ?_
  refine fr_istore_n (q := 23) F dX8_unfair_22 rfl (by decide) rfl ?_
  refine fr_iconst (q := 24) (v := 1) F dX8_unfair_23 rfl (by decide) ?_
  refine fr_istore (q := 26) F dX8_unfair_24 rfl (by decide) rfl ?_
  exact fr_wj (tX8_unfair_26 F E _ _ _ _ _ h) ⟨rfl, ⟨rfl, ⟨rfl, ⟨rfl, trivial⟩⟩⟩⟩
/-! FeastRotaModel.fair (52, None) -/
def fX8_fair (a1 : Int32) (n0 : fr_N) : Option (Int32 × fr_N) := fr_bd (fX8_isBook n0) fun r1 => (if r1 = true then fr_bd (fX8_isYear a1) fun r4 => (if r4 = true then fr_bd (fX8_lays a1 (-1000000 : Int32) n0) fun n9 => (fr_bd2 (fX8_unfair (n9 1 5) n9) fun r10 n12 => (some (r10, n12))) else some ((-1000001 : Int32), n0)) else some ((-1000002 : Int32), n0))
theorem tX8_fair {l : Launch} {G : fr_G} {u0 : fr_N} {a1 : Int32} {n0 : fr_N} {rz : Int32} {nz : fr_N} (h : fX8_fair a1 n0 = some (rz, nz)) : fr_Met l G YX8_fair [.ref 52, .int a1] (u0, n0) (some (.int rz)) (u0, nz) := by
  refine fr_met (pad := List.replicate 0 none) (by decide) (Nat.le_of_ble_eq_true rfl) (fun _ h => List.eq_of_mem_replicate h) ⟨rfl, rfl⟩ (fun K F hG hL E => ?_)
  subst hG; subst hL
  rw [fX8_fair] at h
  show fr_V YX8_fair K 0 [some (.ref 52), some (.int a1)] [] (u0, n0)
  refine fr_aload_n (q := 1) F dX8_fair_0 rfl rfl ?_
  obtain ⟨r1, hr2, h⟩ := fr_bd_some h
  refine fr_callV (q := 4) (M' := (u0, n0)) (rest := []) (st' := [.int (fr_b r1)]) F dX8_fair_1 rfl (tX8_isBook hr2) mlRX8_261 msX8_isBook ⟨Nat.le_of_ble_eq_true rfl, Nat.le_of_ble_eq_true rfl⟩ (by decide) rfl rfl rfl (Nat.le_of_ble_eq_true rfl) rfl ?_
  refine fr_if_neb (q := 7) (tgt := 10) F dX8_fair_4 (by decide) rfl (fun hc3 => ?_) (fun hc3 => ?_)
  · rw [if_pos hc3] at h
    refine fr_iload_n (q := 11) F dX8_fair_10 rfl rfl ?_
    obtain ⟨r4, hr5, h⟩ := fr_bd_some h
    refine fr_callS (q := 14) (M' := (u0, n0)) (rest := []) (st' := [.int (fr_b r4)]) F dX8_fair_11 rfl (tX8_isYear hr5) mlRX8_283 msX8_isYear ⟨Nat.le_of_ble_eq_true rfl, Nat.le_of_ble_eq_true rfl⟩ rfl rfl (Nat.le_of_ble_eq_true rfl) rfl ?_
    refine fr_if_neb (q := 17) (tgt := 20) F dX8_fair_14 (by decide) rfl (fun hc6 => ?_) (fun hc6 => ?_)
    · rw [if_pos hc6] at h
      refine fr_aload_n (q := 21) F dX8_fair_20 rfl rfl ?_
      refine fr_iload_n (q := 22) F dX8_fair_21 rfl rfl ?_
      refine fr_ldc (q := 24) F dX8_fair_22 rfl kcRX8_90 ?_
      obtain ⟨n9, hr8, h⟩ := fr_bd_some h
      refine fr_callV (q := 27) (M' := (u0, n9)) (rest := []) (st' := []) F dX8_fair_24 rfl (tX8_lays hr8) mlRX8_288 msX8_lays ⟨Nat.le_of_ble_eq_true rfl, Nat.le_of_ble_eq_true rfl⟩ (by decide) rfl rfl rfl (Nat.le_of_ble_eq_true rfl) rfl ?_
      refine fr_aload_n (q := 28) F dX8_fair_27 rfl rfl ?_
      refine fr_aload_n (q := 29) F dX8_fair_28 rfl rfl ?_
      refine fr_gfR (q := 32) (j := 53) F dX8_fair_29 rfl faRX8_7 (by decide) rfl rfl ?_
      refine fr_iconst (q := 33) (v := 5) F dX8_fair_32 rfl (by decide) ?_
      refine fr_ial (q := 34) (x := (n9 1 5)) F dX8_fair_33 rfl (fr_vin rfl) (by decide) rfl rfl ?_
      obtain ⟨r10, n12, hr11, h⟩ := fr_bd2_some h
      refine fr_callV (q := 37) (M' := (u0, n12)) (rest := []) (st' := [.int r10]) F dX8_fair_34 rfl (tX8_unfair hr11) mlRX8_310 msX8_unfair ⟨Nat.le_of_ble_eq_true rfl, Nat.le_of_ble_eq_true rfl⟩ (by decide) rfl rfl rfl (Nat.le_of_ble_eq_true rfl) rfl ?_
      obtain ⟨rfl, rfl⟩ := Prod.mk.inj (Option.some.inj h)
      exact fr_iret F E rfl dX8_fair_37
    · rw [if_neg hc6] at h
      refine fr_ldc (q := 19) F dX8_fair_17 rfl kcRX8_209 ?_
      obtain ⟨rfl, rfl⟩ := Prod.mk.inj (Option.some.inj h)
      exact fr_iret F E rfl dX8_fair_19
  · rw [if_neg hc3] at h
    refine fr_ldc (q := 9) F dX8_fair_7 rfl kcRX8_238 ?_
    obtain ⟨rfl, rfl⟩ := Prod.mk.inj (Option.some.inj h)
    exact fr_iret F E rfl dX8_fair_9
/-! FeastRota.lastOf (None, None) -/
def fX7_lastOf (a0 : Int32) (a1 : Int32) : Option Int32 := some (if (999 : Int32) < ((a0 + a1) - (1 : Int32)) then (999 : Int32) else ((a0 + a1) - (1 : Int32)))
theorem tX7_lastOf {l : Launch} {G : fr_G} {M0 : fr_M} {a0 : Int32} {a1 : Int32} {rz : Int32} (h : fX7_lastOf a0 a1 = some rz) : fr_Met l G YX7_lastOf [.int a0, .int a1] M0 (some (.int rz)) M0 := by
  refine fr_met (pad := List.replicate 0 none) (by decide) (Nat.le_of_ble_eq_true rfl) (fun _ h => List.eq_of_mem_replicate h) ⟨rfl, rfl⟩ (fun K F hG hL E => ?_)
  subst hG; subst hL
  rw [fX7_lastOf] at h
  show fr_V YX7_lastOf K 0 [some (.int a0), some (.int a1)] [] M0
  refine fr_iload_n (q := 1) F dX7_lastOf_0 rfl rfl ?_
  refine fr_iload_n (q := 2) F dX7_lastOf_1 rfl rfl ?_
  refine fr_iadd (q := 3) F dX7_lastOf_2 rfl ?_
  refine fr_iconst (q := 4) (v := 1) F dX7_lastOf_3 rfl (by decide) ?_
  refine fr_isub (q := 5) F dX7_lastOf_4 rfl ?_
  refine fr_sipush (q := 8) (v := 999) F dX7_lastOf_5 rfl (by decide) ?_
  refine fr_min (q := 11) F dX7_lastOf_8 rfl mlRX7_262 mm_min ⟨Nat.le_of_ble_eq_true rfl, Nat.le_of_ble_eq_true rfl⟩ ?_
  obtain rfl := Option.some.inj h
  exact fr_iret F E rfl dX7_lastOf_11
/-! FeastRota.meet (0, None, None, None) -/
def fX7_meet_48 : Nat → Int32 → Int32 → Int32 → Int32 → fr_N → Option (Int32 × fr_N)
  | 0, _, _, _, _, _ => none
  | k + 1, x1, x2, x4, x5, n0 => if x4 < x5 then some ((-1000000 : Int32), n0) else fr_bd (fX2_turnTo x5 n0) fun n4 => (fr_bd (fX3_ownDayOf x1 n4) fun r5 => (if r5 = (-1000000 : Int32) then (fX7_meet_48 k) x1 x2 x4 (x5 + (1 : Int32)) n4 else fr_bd (fX3_ownDayOf x2 n4) fun r8 => (if r5 = r8 then some (x5, n4) else (fX7_meet_48 k) x1 x2 x4 (x5 + (1 : Int32)) n4)))
def fX7_meet (a1 : Int32) (a2 : Int32) (a3 : Int32) (n0 : fr_N) : Option (Int32 × fr_N) := fr_bd (fX1_hasFeast_3 a1 n0) fun r11 => (if r11 = true then fr_bd (fX1_hasFeast_3 a2 n0) fun r14 => (if r14 = true then if a1 = a2 then some ((-1000001 : Int32), n0) else fr_bd (fX7_isYear a3) fun r18 => (if r18 = true then fr_bd (fX7_lastOf a3 (99 : Int32)) fun r21 => (fX7_meet_48 2000 a1 a2 r21 a3 n0) else some ((-1000001 : Int32), n0)) else some ((-1000001 : Int32), n0)) else some ((-1000001 : Int32), n0))
theorem tX7_meet_48 {K : fr_K} {u0 : fr_N} {rz : Int32} {nz : fr_N} (F : fr_F YX7_meet K) (E : fr_R YX7_meet K (some (.int rz)) (nz, u0)) : ∀ (k : Nat) (x1 : Int32) (x2 : Int32) (x4 : Int32) (x5 : Int32) (n0 : fr_N), fX7_meet_48 k x1 x2 x4 x5 n0 = some (rz, nz) → fr_V YX7_meet K 48 [some (.ref 0), some (.int x1), some (.int x2), none, some (.int x4), some (.int x5), none] [] (n0, u0) := by
  intro k
  induction k with
  | zero =>
    intro x1 x2 x4 x5 n0 h
    rw [fX7_meet_48] at h
    cases h
  | succ k ih =>
    intro x1 x2 x4 x5 n0 h
    rw [fX7_meet_48] at h
    refine fr_iload (q := 50) F dX7_meet_48 rfl rfl ?_
    refine fr_iload (q := 52) F dX7_meet_50 rfl rfl ?_
    refine fr_icmp_gt (q := 55) (tgt := 110) F dX7_meet_52 (by decide) rfl (fun hc1 => ?_) (fun hc1 => ?_)
    · rw [if_pos hc1] at h
      refine fr_ldc (q := 112) F dX7_meet_110 rfl kcRX7_203 ?_
      obtain ⟨rfl, rfl⟩ := Prod.mk.inj (Option.some.inj h)
      exact fr_iret F E rfl dX7_meet_112
    · rw [if_neg hc1] at h
      refine fr_aload_n (q := 56) F dX7_meet_55 rfl rfl ?_
      refine fr_gfR (q := 59) (j := 11) F dX7_meet_56 rfl faRX7_51 (by decide) rfl rfl ?_
      refine fr_gfR (q := 62) (j := 12) F dX7_meet_59 rfl faRX7_160 (by decide) rfl rfl ?_
      refine fr_aload_n (q := 63) F dX7_meet_62 rfl rfl ?_
      refine fr_gfR (q := 66) (j := 3) F dX7_meet_63 rfl faRX7_36 (by decide) rfl rfl ?_
      refine fr_iload (q := 68) F dX7_meet_66 rfl rfl ?_
      obtain ⟨n4, hr3, h⟩ := fr_bd_some h
      refine fr_callV (q := 71) (M' := (n4, u0)) (rest := []) (st' := []) F dX7_meet_68 rfl (tX2_turnTo hr3) mlRX7_252 msX2_turnTo ⟨Nat.le_of_ble_eq_true rfl, Nat.le_of_ble_eq_true rfl⟩ (by decide) rfl rfl rfl (Nat.le_of_ble_eq_true rfl) rfl ?_
      refine fr_aload_n (q := 72) F dX7_meet_71 rfl rfl ?_
      refine fr_gfR (q := 75) (j := 11) F dX7_meet_72 rfl faRX7_51 (by decide) rfl rfl ?_
      refine fr_iload_n (q := 76) F dX7_meet_75 rfl rfl ?_
      obtain ⟨r5, hr6, h⟩ := fr_bd_some h
      refine fr_callV (q := 79) (M' := (n4, u0)) (rest := []) (st' := [.int r5]) F dX7_meet_76 rfl (tX3_ownDayOf hr6) mlRX7_256 msX3_ownDayOf ⟨Nat.le_of_ble_eq_true rfl, Nat.le_of_ble_eq_true rfl⟩ (by decide) rfl rfl rfl (Nat.le_of_ble_eq_true rfl) rfl ?_
      refine fr_istore (q := 81) F dX7_meet_79 rfl (by decide) rfl ?_
      refine fr_iload (q := 83) F dX7_meet_81 rfl rfl ?_
      refine fr_ldc (q := 85) F dX7_meet_83 rfl kcRX7_203 ?_
      refine fr_icmp_eq (q := 88) (tgt := 104) F dX7_meet_85 (by decide) rfl (fun hc7 => ?_) (fun hc7 => ?_)
      · rw [if_pos hc7] at h
        refine fr_iinc (q := 107) (v := (x5 + (1 : Int32))) F dX7_meet_104 rfl rfl rfl (by decide) rfl ?_
        refine fr_goto (tgt := 48) F dX7_meet_107 (by decide) ?_
        exact fr_wj (ih _ _ _ _ _ h) ⟨rfl, ⟨rfl, ⟨rfl, ⟨rfl, ⟨rfl, trivial⟩⟩⟩⟩⟩
      · rw [if_neg hc7] at h
        refine fr_iload (q := 90) F dX7_meet_88 rfl rfl ?_
        refine fr_aload_n (q := 91) F dX7_meet_90 rfl rfl ?_
        refine fr_gfR (q := 94) (j := 11) F dX7_meet_91 rfl faRX7_51 (by decide) rfl rfl ?_
        refine fr_iload_n (q := 95) F dX7_meet_94 rfl rfl ?_
        obtain ⟨r8, hr9, h⟩ := fr_bd_some h
        refine fr_callV (q := 98) (M' := (n4, u0)) (rest := [.int r5]) (st' := [.int r8, .int r5]) F dX7_meet_95 rfl (tX3_ownDayOf hr9) mlRX7_256 msX3_ownDayOf ⟨Nat.le_of_ble_eq_true rfl, Nat.le_of_ble_eq_true rfl⟩ (by decide) rfl rfl rfl (Nat.le_of_ble_eq_true rfl) rfl ?_
        refine fr_icmp_ne (q := 101) (tgt := 104) F dX7_meet_98 (by decide) rfl (fun hc10 => ?_) (fun hc10 => ?_)
        · rw [if_neg hc10] at h
          refine fr_iinc (q := 107) (v := (x5 + (1 : Int32))) F dX7_meet_104 rfl rfl rfl (by decide) rfl ?_
          refine fr_goto (tgt := 48) F dX7_meet_107 (by decide) ?_
          exact fr_wj (ih _ _ _ _ _ h) ⟨rfl, ⟨rfl, ⟨rfl, ⟨rfl, ⟨rfl, trivial⟩⟩⟩⟩⟩
        · rw [if_pos hc10] at h
          refine fr_iload (q := 103) F dX7_meet_101 rfl rfl ?_
          obtain ⟨rfl, rfl⟩ := Prod.mk.inj (Option.some.inj h)
          exact fr_iret F E rfl dX7_meet_103
theorem tX7_meet {l : Launch} {G : fr_G} {u0 : fr_N} {a1 : Int32} {a2 : Int32} {a3 : Int32} {n0 : fr_N} {rz : Int32} {nz : fr_N} (h : fX7_meet a1 a2 a3 n0 = some (rz, nz)) : fr_Met l G YX7_meet [.ref 0, .int a1, .int a2, .int a3] (n0, u0) (some (.int rz)) (nz, u0) := by
  refine fr_met (pad := List.replicate 3 none) (by decide) (Nat.le_of_ble_eq_true rfl) (fun _ h => List.eq_of_mem_replicate h) ⟨rfl, rfl⟩ (fun K F hG hL E => ?_)
  subst hG; subst hL
  rw [fX7_meet] at h
  show fr_V YX7_meet K 0 [some (.ref 0), some (.int a1), some (.int a2), some (.int a3), none, none, none] [] (n0, u0)
  refine fr_aload_n (q := 1) F dX7_meet_0 rfl rfl ?_
  refine fr_gfR (q := 4) (j := 3) F dX7_meet_1 rfl faRX7_36 (by decide) rfl rfl ?_
  refine fr_iload_n (q := 5) F dX7_meet_4 rfl rfl ?_
  obtain ⟨r11, hr12, h⟩ := fr_bd_some h
  refine fr_callV (q := 8) (M' := (n0, u0)) (rest := []) (st' := [.int (fr_b r11)]) F dX7_meet_5 rfl (tX1_hasFeast_3 hr12) mlRX7_109 msX1_hasFeast ⟨Nat.le_of_ble_eq_true rfl, Nat.le_of_ble_eq_true rfl⟩ (by decide) rfl rfl rfl (Nat.le_of_ble_eq_true rfl) rfl ?_
  refine fr_if_eqb (q := 11) (tgt := 34) F dX7_meet_8 (by decide) rfl (fun hc13 => ?_) (fun hc13 => ?_)
  · rw [if_neg hc13] at h
    refine fr_ldc (q := 36) F dX7_meet_34 rfl kcRX7_72 ?_
    obtain ⟨rfl, rfl⟩ := Prod.mk.inj (Option.some.inj h)
    exact fr_iret F E rfl dX7_meet_36
  · rw [if_pos hc13] at h
    refine fr_aload_n (q := 12) F dX7_meet_11 rfl rfl ?_
    refine fr_gfR (q := 15) (j := 3) F dX7_meet_12 rfl faRX7_36 (by decide) rfl rfl ?_
    refine fr_iload_n (q := 16) F dX7_meet_15 rfl rfl ?_
    obtain ⟨r14, hr15, h⟩ := fr_bd_some h
    refine fr_callV (q := 19) (M' := (n0, u0)) (rest := []) (st' := [.int (fr_b r14)]) F dX7_meet_16 rfl (tX1_hasFeast_3 hr15) mlRX7_109 msX1_hasFeast ⟨Nat.le_of_ble_eq_true rfl, Nat.le_of_ble_eq_true rfl⟩ (by decide) rfl rfl rfl (Nat.le_of_ble_eq_true rfl) rfl ?_
    refine fr_if_eqb (q := 22) (tgt := 34) F dX7_meet_19 (by decide) rfl (fun hc16 => ?_) (fun hc16 => ?_)
    · rw [if_neg hc16] at h
      refine fr_ldc (q := 36) F dX7_meet_34 rfl kcRX7_72 ?_
      obtain ⟨rfl, rfl⟩ := Prod.mk.inj (Option.some.inj h)
      exact fr_iret F E rfl dX7_meet_36
    · rw [if_pos hc16] at h
      refine fr_iload_n (q := 23) F dX7_meet_22 rfl rfl ?_
      refine fr_iload_n (q := 24) F dX7_meet_23 rfl rfl ?_
      refine fr_icmp_eq (q := 27) (tgt := 34) F dX7_meet_24 (by decide) rfl (fun hc17 => ?_) (fun hc17 => ?_)
      · rw [if_pos hc17] at h
        refine fr_ldc (q := 36) F dX7_meet_34 rfl kcRX7_72 ?_
        obtain ⟨rfl, rfl⟩ := Prod.mk.inj (Option.some.inj h)
        exact fr_iret F E rfl dX7_meet_36
      · rw [if_neg hc17] at h
        refine fr_iload_n (q := 28) F dX7_meet_27 rfl rfl ?_
        obtain ⟨r18, hr19, h⟩ := fr_bd_some h
        refine fr_callS (q := 31) (M' := (n0, u0)) (rest := []) (st' := [.int (fr_b r18)]) F dX7_meet_28 rfl (tX7_isYear hr19) mlRX7_153 msX7_isYear ⟨Nat.le_of_ble_eq_true rfl, Nat.le_of_ble_eq_true rfl⟩ rfl rfl (Nat.le_of_ble_eq_true rfl) rfl ?_
        refine fr_if_neb (q := 34) (tgt := 37) F dX7_meet_31 (by decide) rfl (fun hc20 => ?_) (fun hc20 => ?_)
        · rw [if_pos hc20] at h
          refine fr_iload_n (q := 38) F dX7_meet_37 rfl rfl ?_
          refine fr_bipush (q := 40) (v := 99) F dX7_meet_38 rfl (by decide) ?_
          obtain ⟨r21, hr22, h⟩ := fr_bd_some h
          refine fr_callS (q := 43) (M' := (n0, u0)) (rest := []) (st' := [.int r21]) F dX7_meet_40 rfl (tX7_lastOf hr22) mlRX7_249 msX7_lastOf ⟨Nat.le_of_ble_eq_true rfl, Nat.le_of_ble_eq_true rfl⟩ rfl rfl (Nat.le_of_ble_eq_true rfl) rfl ?_
          refine fr_istore (q := 45) F dX7_meet_43 rfl (by decide) rfl ?_
          refine fr_iload_n (q := 46) F dX7_meet_45 rfl rfl ?_
          refine fr_istore (q := 48) F dX7_meet_46 rfl (by decide) rfl ?_
          exact fr_wj (tX7_meet_48 F E _ _ _ _ _ _ h) ⟨rfl, ⟨rfl, ⟨rfl, ⟨rfl, ⟨rfl, trivial⟩⟩⟩⟩⟩
        · rw [if_neg hc20] at h
          refine fr_ldc (q := 36) F dX7_meet_34 rfl kcRX7_72 ?_
          obtain ⟨rfl, rfl⟩ := Prod.mk.inj (Option.some.inj h)
          exact fr_iret F E rfl dX7_meet_36
/-! FeastRotaModel.meet (52, None, None, None) -/
def fX8_meet_34 : Nat → Int32 → Int32 → Int32 → Int32 → fr_N → Option (Int32 × fr_N)
  | 0, _, _, _, _, _ => none
  | k + 1, x1, x2, x3, x4, n0 => if (x3 + (99 : Int32)) ≤ x4 then some ((-1000000 : Int32), n0) else if (1000 : Int32) ≤ x4 then some ((-1000000 : Int32), n0) else fr_bd (fX8_opens x4 n0) fun n5 => (fr_bd (fX8_ownDay x4 x1 n5) fun r6 => (if r6 = (-1000000 : Int32) then (fX8_meet_34 k) x1 x2 x3 (x4 + (1 : Int32)) n5 else fr_bd (fX8_ownDay x4 x2 n5) fun r9 => (if r6 = r9 then some (x4, n5) else (fX8_meet_34 k) x1 x2 x3 (x4 + (1 : Int32)) n5)))
def fX8_meet (a1 : Int32) (a2 : Int32) (a3 : Int32) (n0 : fr_N) : Option (Int32 × fr_N) := fr_bd (fX8_isFeast a1 n0) fun r12 => (if r12 = true then fr_bd (fX8_isFeast a2 n0) fun r15 => (if r15 = true then if a1 = a2 then some ((-1000001 : Int32), n0) else fr_bd (fX8_isYear a3) fun r19 => (if r19 = true then fX8_meet_34 2000 a1 a2 a3 a3 n0 else some ((-1000001 : Int32), n0)) else some ((-1000001 : Int32), n0)) else some ((-1000001 : Int32), n0))
theorem tX8_meet_34 {K : fr_K} {u0 : fr_N} {rz : Int32} {nz : fr_N} (F : fr_F YX8_meet K) (E : fr_R YX8_meet K (some (.int rz)) (u0, nz)) : ∀ (k : Nat) (x1 : Int32) (x2 : Int32) (x3 : Int32) (x4 : Int32) (n0 : fr_N), fX8_meet_34 k x1 x2 x3 x4 n0 = some (rz, nz) → fr_V YX8_meet K 34 [some (.ref 52), some (.int x1), some (.int x2), some (.int x3), some (.int x4), none] [] (u0, n0) := by
  intro k
  induction k with
  | zero =>
    intro x1 x2 x3 x4 n0 h
    rw [fX8_meet_34] at h
    cases h
  | succ k ih =>
    intro x1 x2 x3 x4 n0 h
    rw [fX8_meet_34] at h
    refine fr_iload (q := 36) F dX8_meet_34 rfl rfl ?_
    refine fr_iload_n (q := 37) F dX8_meet_36 rfl rfl ?_
    refine fr_bipush (q := 39) (v := 99) F dX8_meet_37 rfl (by decide) ?_
    refine fr_iadd (q := 40) F dX8_meet_39 rfl ?_
    refine fr_icmp_ge (q := 43) (tgt := 94) F dX8_meet_40 (by decide) rfl (fun hc1 => ?_) (fun hc1 => ?_)
    · rw [if_pos hc1] at h
      refine fr_ldc (q := 96) F dX8_meet_94 rfl kcRX8_90 ?_
      obtain ⟨rfl, rfl⟩ := Prod.mk.inj (Option.some.inj h)
      exact fr_iret F E rfl dX8_meet_96
    · rw [if_neg hc1] at h
      refine fr_iload (q := 45) F dX8_meet_43 rfl rfl ?_
      refine fr_sipush (q := 48) (v := 1000) F dX8_meet_45 rfl (by decide) ?_
      refine fr_icmp_ge (q := 51) (tgt := 94) F dX8_meet_48 (by decide) rfl (fun hc2 => ?_) (fun hc2 => ?_)
      · rw [if_pos hc2] at h
        refine fr_ldc (q := 96) F dX8_meet_94 rfl kcRX8_90 ?_
        obtain ⟨rfl, rfl⟩ := Prod.mk.inj (Option.some.inj h)
        exact fr_iret F E rfl dX8_meet_96
      · rw [if_neg hc2] at h
        refine fr_aload_n (q := 52) F dX8_meet_51 rfl rfl ?_
        refine fr_iload (q := 54) F dX8_meet_52 rfl rfl ?_
        obtain ⟨n5, hr4, h⟩ := fr_bd_some h
        refine fr_callV (q := 57) (M' := (u0, n5)) (rest := []) (st' := []) F dX8_meet_54 rfl (tX8_opens hr4) mlRX8_101 msX8_opens ⟨Nat.le_of_ble_eq_true rfl, Nat.le_of_ble_eq_true rfl⟩ (by decide) rfl rfl rfl (Nat.le_of_ble_eq_true rfl) rfl ?_
        refine fr_aload_n (q := 58) F dX8_meet_57 rfl rfl ?_
        refine fr_iload (q := 60) F dX8_meet_58 rfl rfl ?_
        refine fr_iload_n (q := 61) F dX8_meet_60 rfl rfl ?_
        obtain ⟨r6, hr7, h⟩ := fr_bd_some h
        refine fr_callV (q := 64) (M' := (u0, n5)) (rest := []) (st' := [.int r6]) F dX8_meet_61 rfl (tX8_ownDay hr7) mlRX8_105 msX8_ownDay ⟨Nat.le_of_ble_eq_true rfl, Nat.le_of_ble_eq_true rfl⟩ (by decide) rfl rfl rfl (Nat.le_of_ble_eq_true rfl) rfl ?_
        refine fr_istore (q := 66) F dX8_meet_64 rfl (by decide) rfl ?_
        refine fr_iload (q := 68) F dX8_meet_66 rfl rfl ?_
        refine fr_ldc (q := 70) F dX8_meet_68 rfl kcRX8_90 ?_
        refine fr_icmp_eq (q := 73) (tgt := 88) F dX8_meet_70 (by decide) rfl (fun hc8 => ?_) (fun hc8 => ?_)
        · rw [if_pos hc8] at h
          refine fr_iinc (q := 91) (v := (x4 + (1 : Int32))) F dX8_meet_88 rfl rfl rfl (by decide) rfl ?_
          refine fr_goto (tgt := 34) F dX8_meet_91 (by decide) ?_
          exact fr_wj (ih _ _ _ _ _ h) ⟨rfl, ⟨rfl, ⟨rfl, ⟨rfl, ⟨rfl, trivial⟩⟩⟩⟩⟩
        · rw [if_neg hc8] at h
          refine fr_iload (q := 75) F dX8_meet_73 rfl rfl ?_
          refine fr_aload_n (q := 76) F dX8_meet_75 rfl rfl ?_
          refine fr_iload (q := 78) F dX8_meet_76 rfl rfl ?_
          refine fr_iload_n (q := 79) F dX8_meet_78 rfl rfl ?_
          obtain ⟨r9, hr10, h⟩ := fr_bd_some h
          refine fr_callV (q := 82) (M' := (u0, n5)) (rest := [.int r6]) (st' := [.int r9, .int r6]) F dX8_meet_79 rfl (tX8_ownDay hr10) mlRX8_105 msX8_ownDay ⟨Nat.le_of_ble_eq_true rfl, Nat.le_of_ble_eq_true rfl⟩ (by decide) rfl rfl rfl (Nat.le_of_ble_eq_true rfl) rfl ?_
          refine fr_icmp_ne (q := 85) (tgt := 88) F dX8_meet_82 (by decide) rfl (fun hc11 => ?_) (fun hc11 => ?_)
          · rw [if_neg hc11] at h
            refine fr_iinc (q := 91) (v := (x4 + (1 : Int32))) F dX8_meet_88 rfl rfl rfl (by decide) rfl ?_
            refine fr_goto (tgt := 34) F dX8_meet_91 (by decide) ?_
            exact fr_wj (ih _ _ _ _ _ h) ⟨rfl, ⟨rfl, ⟨rfl, ⟨rfl, ⟨rfl, trivial⟩⟩⟩⟩⟩
          · rw [if_pos hc11] at h
            refine fr_iload (q := 87) F dX8_meet_85 rfl rfl ?_
            obtain ⟨rfl, rfl⟩ := Prod.mk.inj (Option.some.inj h)
            exact fr_iret F E rfl dX8_meet_87
theorem tX8_meet {l : Launch} {G : fr_G} {u0 : fr_N} {a1 : Int32} {a2 : Int32} {a3 : Int32} {n0 : fr_N} {rz : Int32} {nz : fr_N} (h : fX8_meet a1 a2 a3 n0 = some (rz, nz)) : fr_Met l G YX8_meet [.ref 52, .int a1, .int a2, .int a3] (u0, n0) (some (.int rz)) (u0, nz) := by
  refine fr_met (pad := List.replicate 2 none) (by decide) (Nat.le_of_ble_eq_true rfl) (fun _ h => List.eq_of_mem_replicate h) ⟨rfl, rfl⟩ (fun K F hG hL E => ?_)
  subst hG; subst hL
  rw [fX8_meet] at h
  show fr_V YX8_meet K 0 [some (.ref 52), some (.int a1), some (.int a2), some (.int a3), none, none] [] (u0, n0)
  refine fr_aload_n (q := 1) F dX8_meet_0 rfl rfl ?_
  refine fr_iload_n (q := 2) F dX8_meet_1 rfl rfl ?_
  obtain ⟨r12, hr13, h⟩ := fr_bd_some h
  refine fr_callV (q := 5) (M' := (u0, n0)) (rest := []) (st' := [.int (fr_b r12)]) F dX8_meet_2 rfl (tX8_isFeast hr13) mlRX8_252 msX8_isFeast ⟨Nat.le_of_ble_eq_true rfl, Nat.le_of_ble_eq_true rfl⟩ (by decide) rfl rfl rfl (Nat.le_of_ble_eq_true rfl) rfl ?_
  refine fr_if_eqb (q := 8) (tgt := 28) F dX8_meet_5 (by decide) rfl (fun hc14 => ?_) (fun hc14 => ?_)
  · rw [if_neg hc14] at h
    refine fr_ldc (q := 30) F dX8_meet_28 rfl kcRX8_209 ?_
    obtain ⟨rfl, rfl⟩ := Prod.mk.inj (Option.some.inj h)
    exact fr_iret F E rfl dX8_meet_30
  · rw [if_pos hc14] at h
    refine fr_aload_n (q := 9) F dX8_meet_8 rfl rfl ?_
    refine fr_iload_n (q := 10) F dX8_meet_9 rfl rfl ?_
    obtain ⟨r15, hr16, h⟩ := fr_bd_some h
    refine fr_callV (q := 13) (M' := (u0, n0)) (rest := []) (st' := [.int (fr_b r15)]) F dX8_meet_10 rfl (tX8_isFeast hr16) mlRX8_252 msX8_isFeast ⟨Nat.le_of_ble_eq_true rfl, Nat.le_of_ble_eq_true rfl⟩ (by decide) rfl rfl rfl (Nat.le_of_ble_eq_true rfl) rfl ?_
    refine fr_if_eqb (q := 16) (tgt := 28) F dX8_meet_13 (by decide) rfl (fun hc17 => ?_) (fun hc17 => ?_)
    · rw [if_neg hc17] at h
      refine fr_ldc (q := 30) F dX8_meet_28 rfl kcRX8_209 ?_
      obtain ⟨rfl, rfl⟩ := Prod.mk.inj (Option.some.inj h)
      exact fr_iret F E rfl dX8_meet_30
    · rw [if_pos hc17] at h
      refine fr_iload_n (q := 17) F dX8_meet_16 rfl rfl ?_
      refine fr_iload_n (q := 18) F dX8_meet_17 rfl rfl ?_
      refine fr_icmp_eq (q := 21) (tgt := 28) F dX8_meet_18 (by decide) rfl (fun hc18 => ?_) (fun hc18 => ?_)
      · rw [if_pos hc18] at h
        refine fr_ldc (q := 30) F dX8_meet_28 rfl kcRX8_209 ?_
        obtain ⟨rfl, rfl⟩ := Prod.mk.inj (Option.some.inj h)
        exact fr_iret F E rfl dX8_meet_30
      · rw [if_neg hc18] at h
        refine fr_iload_n (q := 22) F dX8_meet_21 rfl rfl ?_
        obtain ⟨r19, hr20, h⟩ := fr_bd_some h
        refine fr_callS (q := 25) (M' := (u0, n0)) (rest := []) (st' := [.int (fr_b r19)]) F dX8_meet_22 rfl (tX8_isYear hr20) mlRX8_283 msX8_isYear ⟨Nat.le_of_ble_eq_true rfl, Nat.le_of_ble_eq_true rfl⟩ rfl rfl (Nat.le_of_ble_eq_true rfl) rfl ?_
        refine fr_if_neb (q := 28) (tgt := 31) F dX8_meet_25 (by decide) rfl (fun hc21 => ?_) (fun hc21 => ?_)
        · rw [if_pos hc21] at h
          refine fr_iload_n (q := 32) F dX8_meet_31 rfl rfl ?_
          refine fr_istore (q := 34) F dX8_meet_32 rfl (by decide) rfl ?_
          exact fr_wj (tX8_meet_34 F E _ _ _ _ _ _ h) ⟨rfl, ⟨rfl, ⟨rfl, ⟨rfl, ⟨rfl, trivial⟩⟩⟩⟩⟩
        · rw [if_neg hc21] at h
          refine fr_ldc (q := 30) F dX8_meet_28 rfl kcRX8_209 ?_
          obtain ⟨rfl, rfl⟩ := Prod.mk.inj (Option.some.inj h)
          exact fr_iret F E rfl dX8_meet_30
