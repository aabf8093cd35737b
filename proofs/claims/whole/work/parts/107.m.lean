/-! FeastRota.isDay (0, None, None) -/
def fX7_isDay (a1 : Int32) (a2 : Int32) (n0 : fr_N) : Option Bool := fr_bd (fX7_isYear a1) fun r1 => (if r1 = true then fr_bd (fX2_daysOf (n0 4 0) a1) fun r4 => (fr_bd (fX7_within a2 (1 : Int32) r4) fun r6 => (if r6 = true then some true else some false)) else some false)
theorem tX7_isDay {l : Launch} {G : fr_G} {u0 : fr_N} {a1 : Int32} {a2 : Int32} {n0 : fr_N} {rz : Bool} (h : fX7_isDay a1 a2 n0 = some rz) : fr_Met l G YX7_isDay [.ref 0, .int a1, .int a2] (n0, u0) (some (.int (fr_b rz))) (n0, u0) := by
  refine fr_met (pad := List.replicate 0 none) (by decide) (Nat.le_of_ble_eq_true rfl) (fun _ h => List.eq_of_mem_replicate h) ⟨rfl, rfl⟩ (fun K F hG hL E => ?_)
  subst hG; subst hL
  rw [fX7_isDay] at h
  show fr_V YX7_isDay K 0 [some (.ref 0), some (.int a1), some (.int a2)] [] (n0, u0)
  refine fr_iload_n (q := 1) F dX7_isDay_0 rfl rfl ?_
  obtain ⟨r1, hr2, h⟩ := fr_bd_some h
  refine fr_callS (q := 4) (M' := (n0, u0)) (rest := []) (st' := [.int (fr_b r1)]) F dX7_isDay_1 rfl (tX7_isYear hr2) mlRX7_153 msX7_isYear ⟨Nat.le_of_ble_eq_true rfl, Nat.le_of_ble_eq_true rfl⟩ rfl rfl (Nat.le_of_ble_eq_true rfl) rfl ?_
  refine fr_if_eqb (q := 7) (tgt := 32) F dX7_isDay_4 (by decide) rfl (fun hc3 => ?_) (fun hc3 => ?_)
  · rw [if_neg hc3] at h
    refine fr_iconst (q := 33) (v := 0) F dX7_isDay_32 rfl (by decide) ?_
    obtain rfl := Option.some.inj h
    exact fr_zret F E rfl dX7_isDay_33
  · rw [if_pos hc3] at h
    refine fr_iload_n (q := 8) F dX7_isDay_7 rfl rfl ?_
    refine fr_iconst (q := 9) (v := 1) F dX7_isDay_8 rfl (by decide) ?_
    refine fr_aload_n (q := 10) F dX7_isDay_9 rfl rfl ?_
    refine fr_gfR (q := 13) (j := 3) F dX7_isDay_10 rfl faRX7_36 (by decide) rfl rfl ?_
    refine fr_gfR (q := 16) (j := 4) F dX7_isDay_13 rfl faRX7_141 (by decide) rfl rfl ?_
    refine fr_iconst (q := 17) (v := 0) F dX7_isDay_16 rfl (by decide) ?_
    refine fr_ial (q := 18) (x := (n0 4 0)) F dX7_isDay_17 rfl (fr_vin rfl) (by decide) rfl rfl ?_
    refine fr_iload_n (q := 19) F dX7_isDay_18 rfl rfl ?_
    obtain ⟨r4, hr5, h⟩ := fr_bd_some h
    refine fr_callS (q := 22) (M' := (n0, u0)) (rest := [.int (1 : Int32), .int a2]) (st' := [.int r4, .int (1 : Int32), .int a2]) F dX7_isDay_19 rfl (tX2_daysOf hr5) mlRX7_274 msX2_daysOf ⟨Nat.le_of_ble_eq_true rfl, Nat.le_of_ble_eq_true rfl⟩ rfl rfl (Nat.le_of_ble_eq_true rfl) rfl ?_
    obtain ⟨r6, hr7, h⟩ := fr_bd_some h
    refine fr_callS (q := 25) (M' := (n0, u0)) (rest := []) (st' := [.int (fr_b r6)]) F dX7_isDay_22 rfl (tX7_within hr7) mlRX7_68 msX7_within ⟨Nat.le_of_ble_eq_true rfl, Nat.le_of_ble_eq_true rfl⟩ rfl rfl (Nat.le_of_ble_eq_true rfl) rfl ?_
    refine fr_if_eqb (q := 28) (tgt := 32) F dX7_isDay_25 (by decide) rfl (fun hc8 => ?_) (fun hc8 => ?_)
    · rw [if_neg hc8] at h
      refine fr_iconst (q := 33) (v := 0) F dX7_isDay_32 rfl (by decide) ?_
      obtain rfl := Option.some.inj h
      exact fr_zret F E rfl dX7_isDay_33
    · rw [if_pos hc8] at h
      refine fr_iconst (q := 29) (v := 1) F dX7_isDay_28 rfl (by decide) ?_
      refine fr_goto (tgt := 33) F dX7_isDay_29 (by decide) ?_
      obtain rfl := Option.some.inj h
      exact fr_zret F E rfl dX7_isDay_33
/-! FeastRota$Plan.rememberedOn (11, None) -/
def fX3_rememberedOn_4 (n0 : fr_N) : Nat → Int32 → Int32 → Int32 → Option Int32
  | 0, _, _, _ => none
  | k + 1, x1, x2, x3 => if (n0 3 1) ≤ x3 then some x2 else fr_ck x3 12 (if (n0 14 (Int32.toNatClampNeg x3)) = (3 : Int32) then fr_ck x3 12 (if (n0 15 (Int32.toNatClampNeg x3)) = x1 then (fX3_rememberedOn_4 n0 k) x1 (x2 + (1 : Int32)) (x3 + (1 : Int32)) else (fX3_rememberedOn_4 n0 k) x1 (x2 + (0 : Int32)) (x3 + (1 : Int32))) else (fX3_rememberedOn_4 n0 k) x1 (x2 + (0 : Int32)) (x3 + (1 : Int32)))
def fX3_rememberedOn (a1 : Int32) (n0 : fr_N) : Option Int32 := fX3_rememberedOn_4 n0 2000 a1 (0 : Int32) (0 : Int32)
theorem tX3_rememberedOn_4 {K : fr_K} {u0 : fr_N} {n0 : fr_N} {rz : Int32} (F : fr_F YX3_rememberedOn K) (E : fr_R YX3_rememberedOn K (some (.int rz)) (n0, u0)) : ∀ (k : Nat) (x1 : Int32) (x2 : Int32) (x3 : Int32), fX3_rememberedOn_4 n0 k x1 x2 x3 = some rz → fr_V YX3_rememberedOn K 4 [some (.ref 11), some (.int x1), some (.int x2), some (.int x3)] [] (n0, u0) := by
  intro k
  induction k with
  | zero =>
    intro x1 x2 x3 h
    rw [fX3_rememberedOn_4] at h
    cases h
  | succ k ih =>
    intro x1 x2 x3 h
    rw [fX3_rememberedOn_4] at h
    refine fr_iload_n (q := 5) F dX3_rememberedOn_4 rfl rfl ?_
    refine fr_aload_n (q := 6) F dX3_rememberedOn_5 rfl rfl ?_
    refine fr_gfR (q := 9) (j := 3) F dX3_rememberedOn_6 rfl faRX3_9 (by decide) rfl rfl ?_
    refine fr_gfI (q := 12) (x := (n0 3 1)) F dX3_rememberedOn_9 rfl faRX3_44 (by decide) rfl rfl rfl ?_
    refine fr_icmp_ge (q := 15) (tgt := 49) F dX3_rememberedOn_12 (by decide) rfl (fun hc1 => ?_) (fun hc1 => ?_)
    · rw [if_pos hc1] at h
      refine fr_iload_n (q := 50) F dX3_rememberedOn_49 rfl rfl ?_
      obtain rfl := Option.some.inj h
      exact fr_iret F E rfl dX3_rememberedOn_50
    · rw [if_neg hc1] at h
      refine fr_iload_n (q := 16) F dX3_rememberedOn_15 rfl rfl ?_
      refine fr_aload_n (q := 17) F dX3_rememberedOn_16 rfl rfl ?_
      refine fr_gfR (q := 20) (j := 14) F dX3_rememberedOn_17 rfl faRX3_23 (by decide) rfl rfl ?_
      refine fr_iload_n (q := 21) F dX3_rememberedOn_20 rfl rfl ?_
      obtain ⟨hi2, h⟩ := fr_ck_some h
      refine fr_ial (q := 22) (x := (n0 14 (Int32.toNatClampNeg x3))) F dX3_rememberedOn_21 rfl hi2 (by decide) rfl rfl ?_
      refine fr_iconst (q := 23) (v := 3) F dX3_rememberedOn_22 rfl (by decide) ?_
      refine fr_icmp_ne (q := 26) (tgt := 40) F dX3_rememberedOn_23 (by decide) rfl (fun hc3 => ?_) (fun hc3 => ?_)
      · rw [if_neg hc3] at h
        refine fr_iconst (q := 41) (v := 0) F dX3_rememberedOn_40 rfl (by decide) ?_
        refine fr_iadd (q := 42) F dX3_rememberedOn_41 rfl ?_
        refine fr_istore_n (q := 43) F dX3_rememberedOn_42 rfl (by decide) rfl ?_
        refine fr_iinc (q := 46) (v := (x3 + (1 : Int32))) F dX3_rememberedOn_43 rfl rfl rfl (by decide) rfl ?_
        refine fr_goto (tgt := 4) F dX3_rememberedOn_46 (by decide) ?_
        exact fr_wj (ih _ _ _ h) ⟨rfl, ⟨rfl, ⟨rfl, ⟨rfl, trivial⟩⟩⟩⟩
      · rw [if_pos hc3] at h
        refine fr_aload_n (q := 27) F dX3_rememberedOn_26 rfl rfl ?_
        refine fr_gfR (q := 30) (j := 15) F dX3_rememberedOn_27 rfl faRX3_26 (by decide) rfl rfl ?_
        refine fr_iload_n (q := 31) F dX3_rememberedOn_30 rfl rfl ?_
        obtain ⟨hi4, h⟩ := fr_ck_some h
        refine fr_ial (q := 32) (x := (n0 15 (Int32.toNatClampNeg x3))) F dX3_rememberedOn_31 rfl hi4 (by decide) rfl rfl ?_
        refine fr_iload_n (q := 33) F dX3_rememberedOn_32 rfl rfl ?_
        refine fr_icmp_ne (q := 36) (tgt := 40) F dX3_rememberedOn_33 (by decide) rfl (fun hc5 => ?_) (fun hc5 => ?_)
        · rw [if_neg hc5] at h
          refine fr_iconst (q := 41) (v := 0) F dX3_rememberedOn_40 rfl (by decide) ?_
          refine fr_iadd (q := 42) F dX3_rememberedOn_41 rfl ?_
          refine fr_istore_n (q := 43) F dX3_rememberedOn_42 rfl (by decide) rfl ?_
          refine fr_iinc (q := 46) (v := (x3 + (1 : Int32))) F dX3_rememberedOn_43 rfl rfl rfl (by decide) rfl ?_
          refine fr_goto (tgt := 4) F dX3_rememberedOn_46 (by decide) ?_
          exact fr_wj (ih _ _ _ h) ⟨rfl, ⟨rfl, ⟨rfl, ⟨rfl, trivial⟩⟩⟩⟩
        · rw [if_pos hc5] at h
          refine fr_iconst (q := 37) (v := 1) F dX3_rememberedOn_36 rfl (by decide) ?_
          refine fr_goto (tgt := 41) F dX3_rememberedOn_37 (by decide) ?_
          refine fr_iadd (q := 42) F dX3_rememberedOn_41 rfl ?_
          refine fr_istore_n (q := 43) F dX3_rememberedOn_42 rfl (by decide) rfl ?_
          refine fr_iinc (q := 46) (v := (x3 + (1 : Int32))) F dX3_rememberedOn_43 rfl rfl rfl (by decide) rfl ?_
          refine fr_goto (tgt := 4) F dX3_rememberedOn_46 (by decide) ?_
          exact fr_wj (ih _ _ _ h) ⟨rfl, ⟨rfl, ⟨rfl, ⟨rfl, trivial⟩⟩⟩⟩
theorem tX3_rememberedOn {l : Launch} {G : fr_G} {u0 : fr_N} {a1 : Int32} {n0 : fr_N} {rz : Int32} (h : fX3_rememberedOn a1 n0 = some rz) : fr_Met l G YX3_rememberedOn [.ref 11, .int a1] (n0, u0) (some (.int rz)) (n0, u0) := by
  refine fr_met (pad := List.replicate 2 none) (by decide) (Nat.le_of_ble_eq_true rfl) (fun _ h => List.eq_of_mem_replicate h) ⟨rfl, rfl⟩ (fun K F hG hL E => ?_)
  subst hG; subst hL
  rw [fX3_rememberedOn] at h
  show fr_V YX3_rememberedOn K 0 [some (.ref 11), some (.int a1), none, none] [] (n0, u0)
  refine fr_iconst (q := 1) (v := 0) F dX3_rememberedOn_0 rfl (by decide) ?_
  refine fr_istore_n (q := 2) F dX3_rememberedOn_1 rfl (by decide) rfl ?_
  refine fr_iconst (q := 3) (v := 0) F dX3_rememberedOn_2 rfl (by decide) ?_
  refine fr_istore_n (q := 4) F dX3_rememberedOn_3 rfl (by decide) rfl ?_
  exact fr_wj (tX3_rememberedOn_4 F E _ _ _ _ h) ⟨rfl, ⟨rfl, ⟨rfl, ⟨rfl, trivial⟩⟩⟩⟩
/-! FeastRota$Plan.isHeld (11, None) -/
def fX3_isHeld (a1 : Int32) (n0 : fr_N) : Option Bool := fr_bd (fX1_hasFeast_3 a1 n0) fun r1 => (if r1 = true then fr_ck a1 12 (if (n0 14 (Int32.toNatClampNeg a1)) = (1 : Int32) then some true else fr_ck a1 12 (if (n0 14 (Int32.toNatClampNeg a1)) = (2 : Int32) then some true else some false)) else some false)
theorem tX3_isHeld {l : Launch} {G : fr_G} {u0 : fr_N} {a1 : Int32} {n0 : fr_N} {rz : Bool} (h : fX3_isHeld a1 n0 = some rz) : fr_Met l G YX3_isHeld [.ref 11, .int a1] (n0, u0) (some (.int (fr_b rz))) (n0, u0) := by
  refine fr_met (pad := List.replicate 0 none) (by decide) (Nat.le_of_ble_eq_true rfl) (fun _ h => List.eq_of_mem_replicate h) ⟨rfl, rfl⟩ (fun K F hG hL E => ?_)
  subst hG; subst hL
  rw [fX3_isHeld] at h
  show fr_V YX3_isHeld K 0 [some (.ref 11), some (.int a1)] [] (n0, u0)
  refine fr_aload_n (q := 1) F dX3_isHeld_0 rfl rfl ?_
  refine fr_gfR (q := 4) (j := 3) F dX3_isHeld_1 rfl faRX3_9 (by decide) rfl rfl ?_
  refine fr_iload_n (q := 5) F dX3_isHeld_4 rfl rfl ?_
  obtain ⟨r1, hr2, h⟩ := fr_bd_some h
  refine fr_callV (q := 8) (M' := (n0, u0)) (rest := []) (st' := [.int (fr_b r1)]) F dX3_isHeld_5 rfl (tX1_hasFeast_3 hr2) mlRX3_116 msX1_hasFeast ⟨Nat.le_of_ble_eq_true rfl, Nat.le_of_ble_eq_true rfl⟩ (by decide) rfl rfl rfl (Nat.le_of_ble_eq_true rfl) rfl ?_
  refine fr_if_eqb (q := 11) (tgt := 35) F dX3_isHeld_8 (by decide) rfl (fun hc3 => ?_) (fun hc3 => ?_)
  · rw [if_neg hc3] at h
    refine fr_iconst (q := 36) (v := 0) F dX3_isHeld_35 rfl (by decide) ?_
    obtain rfl := Option.some.inj h
    exact fr_zret F E rfl dX3_isHeld_36
  · rw [if_pos hc3] at h
    refine fr_aload_n (q := 12) F dX3_isHeld_11 rfl rfl ?_
    refine fr_gfR (q := 15) (j := 14) F dX3_isHeld_12 rfl faRX3_23 (by decide) rfl rfl ?_
    refine fr_iload_n (q := 16) F dX3_isHeld_15 rfl rfl ?_
    obtain ⟨hi4, h⟩ := fr_ck_some h
    refine fr_ial (q := 17) (x := (n0 14 (Int32.toNatClampNeg a1))) F dX3_isHeld_16 rfl hi4 (by decide) rfl rfl ?_
    refine fr_iconst (q := 18) (v := 1) F dX3_isHeld_17 rfl (by decide) ?_
    refine fr_icmp_eq (q := 21) (tgt := 31) F dX3_isHeld_18 (by decide) rfl (fun hc5 => ?_) (fun hc5 => ?_)
    · rw [if_pos hc5] at h
      refine fr_iconst (q := 32) (v := 1) F dX3_isHeld_31 rfl (by decide) ?_
      refine fr_goto (tgt := 36) F dX3_isHeld_32 (by decide) ?_
      obtain rfl := Option.some.inj h
      exact fr_zret F E rfl dX3_isHeld_36
    · rw [if_neg hc5] at h
      refine fr_aload_n (q := 22) F dX3_isHeld_21 rfl rfl ?_
      refine fr_gfR (q := 25) (j := 14) F dX3_isHeld_22 rfl faRX3_23 (by decide) rfl rfl ?_
      refine fr_iload_n (q := 26) F dX3_isHeld_25 rfl rfl ?_
      obtain ⟨hi6, h⟩ := fr_ck_some h
      refine fr_ial (q := 27) (x := (n0 14 (Int32.toNatClampNeg a1))) F dX3_isHeld_26 rfl hi6 (by decide) rfl rfl ?_
      refine fr_iconst (q := 28) (v := 2) F dX3_isHeld_27 rfl (by decide) ?_
      refine fr_icmp_ne (q := 31) (tgt := 35) F dX3_isHeld_28 (by decide) rfl (fun hc7 => ?_) (fun hc7 => ?_)
      · rw [if_neg hc7] at h
        refine fr_iconst (q := 36) (v := 0) F dX3_isHeld_35 rfl (by decide) ?_
        obtain rfl := Option.some.inj h
        exact fr_zret F E rfl dX3_isHeld_36
      · rw [if_pos hc7] at h
        refine fr_iconst (q := 32) (v := 1) F dX3_isHeld_31 rfl (by decide) ?_
        refine fr_goto (tgt := 36) F dX3_isHeld_32 (by decide) ?_
        obtain rfl := Option.some.inj h
        exact fr_zret F E rfl dX3_isHeld_36
/-! FeastRota$Plan.liesIn (11, None, None, None) -/
def fX3_liesIn (a1 : Int32) (a2 : Int32) (a3 : Int32) (n0 : fr_N) : Option Bool := fr_bd (fX3_isHeld a2 n0) fun r1 => (if r1 = true then fr_bd (fX3_isHeld a3 n0) fun r4 => (if r4 = true then fr_ck a2 12 (if a1 < (n0 15 (Int32.toNatClampNeg a2)) then some false else fr_ck a3 12 (if (n0 15 (Int32.toNatClampNeg a3)) ≤ a1 then some false else some true)) else some false) else some false)
theorem tX3_liesIn {l : Launch} {G : fr_G} {u0 : fr_N} {a1 : Int32} {a2 : Int32} {a3 : Int32} {n0 : fr_N} {rz : Bool} (h : fX3_liesIn a1 a2 a3 n0 = some rz) : fr_Met l G YX3_liesIn [.ref 11, .int a1, .int a2, .int a3] (n0, u0) (some (.int (fr_b rz))) (n0, u0) := by
  refine fr_met (pad := List.replicate 0 none) (by decide) (Nat.le_of_ble_eq_true rfl) (fun _ h => List.eq_of_mem_replicate h) ⟨rfl, rfl⟩ (fun K F hG hL E => ?_)
  subst hG; subst hL
  rw [fX3_liesIn] at h
  show fr_V YX3_liesIn K 0 [some (.ref 11), some (.int a1), some (.int a2), some (.int a3)] [] (n0, u0)
  refine fr_aload_n (q := 1) F dX3_liesIn_0 rfl rfl ?_
  refine fr_iload_n (q := 2) F dX3_liesIn_1 rfl rfl ?_
  obtain ⟨r1, hr2, h⟩ := fr_bd_some h
  refine fr_callV (q := 5) (M' := (n0, u0)) (rest := []) (st' := [.int (fr_b r1)]) F dX3_liesIn_2 rfl (tX3_isHeld hr2) mlRX3_113 msX3_isHeld ⟨Nat.le_of_ble_eq_true rfl, Nat.le_of_ble_eq_true rfl⟩ (by decide) rfl rfl rfl (Nat.le_of_ble_eq_true rfl) rfl ?_
  refine fr_if_eqb (q := 8) (tgt := 40) F dX3_liesIn_5 (by decide) rfl (fun hc3 => ?_) (fun hc3 => ?_)
  · rw [if_neg hc3] at h
    refine fr_iconst (q := 41) (v := 0) F dX3_liesIn_40 rfl (by decide) ?_
    obtain rfl := Option.some.inj h
    exact fr_zret F E rfl dX3_liesIn_41
  · rw [if_pos hc3] at h
    refine fr_aload_n (q := 9) F dX3_liesIn_8 rfl rfl ?_
    refine fr_iload_n (q := 10) F dX3_liesIn_9 rfl rfl ?_
    obtain ⟨r4, hr5, h⟩ := fr_bd_some h
    refine fr_callV (q := 13) (M' := (n0, u0)) (rest := []) (st' := [.int (fr_b r4)]) F dX3_liesIn_10 rfl (tX3_isHeld hr5) mlRX3_113 msX3_isHeld ⟨Nat.le_of_ble_eq_true rfl, Nat.le_of_ble_eq_true rfl⟩ (by decide) rfl rfl rfl (Nat.le_of_ble_eq_true rfl) rfl ?_
    refine fr_if_eqb (q := 16) (tgt := 40) F dX3_liesIn_13 (by decide) rfl (fun hc6 => ?_) (fun hc6 => ?_)
    · rw [if_neg hc6] at h
      refine fr_iconst (q := 41) (v := 0) F dX3_liesIn_40 rfl (by decide) ?_
      obtain rfl := Option.some.inj h
      exact fr_zret F E rfl dX3_liesIn_41
    · rw [if_pos hc6] at h
      refine fr_aload_n (q := 17) F dX3_liesIn_16 rfl rfl ?_
      refine fr_gfR (q := 20) (j := 15) F dX3_liesIn_17 rfl faRX3_26 (by decide) rfl rfl ?_
      refine fr_iload_n (q := 21) F dX3_liesIn_20 rfl rfl ?_
      obtain ⟨hi7, h⟩ := fr_ck_some h
      refine fr_ial (q := 22) (x := (n0 15 (Int32.toNatClampNeg a2))) F dX3_liesIn_21 rfl hi7 (by decide) rfl rfl ?_
      refine fr_iload_n (q := 23) F dX3_liesIn_22 rfl rfl ?_
      refine fr_icmp_gt (q := 26) (tgt := 40) F dX3_liesIn_23 (by decide) rfl (fun hc8 => ?_) (fun hc8 => ?_)
      · rw [if_pos hc8] at h
        refine fr_iconst (q := 41) (v := 0) F dX3_liesIn_40 rfl (by decide) ?_
        obtain rfl := Option.some.inj h
        exact fr_zret F E rfl dX3_liesIn_41
      · rw [if_neg hc8] at h
        refine fr_iload_n (q := 27) F dX3_liesIn_26 rfl rfl ?_
        refine fr_aload_n (q := 28) F dX3_liesIn_27 rfl rfl ?_
        refine fr_gfR (q := 31) (j := 15) F dX3_liesIn_28 rfl faRX3_26 (by decide) rfl rfl ?_
        refine fr_iload_n (q := 32) F dX3_liesIn_31 rfl rfl ?_
        obtain ⟨hi9, h⟩ := fr_ck_some h
        refine fr_ial (q := 33) (x := (n0 15 (Int32.toNatClampNeg a3))) F dX3_liesIn_32 rfl hi9 (by decide) rfl rfl ?_
        refine fr_icmp_ge (q := 36) (tgt := 40) F dX3_liesIn_33 (by decide) rfl (fun hc10 => ?_) (fun hc10 => ?_)
        · rw [if_pos hc10] at h
          refine fr_iconst (q := 41) (v := 0) F dX3_liesIn_40 rfl (by decide) ?_
          obtain rfl := Option.some.inj h
          exact fr_zret F E rfl dX3_liesIn_41
        · rw [if_neg hc10] at h
          refine fr_iconst (q := 37) (v := 1) F dX3_liesIn_36 rfl (by decide) ?_
          refine fr_goto (tgt := 41) F dX3_liesIn_37 (by decide) ?_
          obtain rfl := Option.some.inj h
          exact fr_zret F E rfl dX3_liesIn_41
/-! FeastRota$Plan.colourOf (11, None) -/
def fX3_colourOf_23 (n0 : fr_N) : Nat → Int32 → Int32 → Option Int32
  | 0, _, _ => none
  | k + 1, x1, x3 => if (n0 3 2) ≤ x3 then some (0 : Int32) else fr_ck x3 4 (fr_ck x3 4 (fr_bd (fX3_liesIn x1 (n0 6 (Int32.toNatClampNeg x3)) (n0 7 (Int32.toNatClampNeg x3)) n0) fun r4 => (if r4 = true then fr_ck x3 4 (some (n0 8 (Int32.toNatClampNeg x3))) else (fX3_colourOf_23 n0 k) x1 (x3 + (1 : Int32)))))
def fX3_colourOf (a1 : Int32) (n0 : fr_N) : Option Int32 := fr_bd (fX3_holderOf a1 n0) fun r8 => (if r8 = (-1 : Int32) then fX3_colourOf_23 n0 2000 a1 (0 : Int32) else fr_bd (fX1_mark_3 r8 (3 : Int32) n0) fun r11 => (some r11))
theorem tX3_colourOf_23 {K : fr_K} {u0 : fr_N} {n0 : fr_N} {rz : Int32} (F : fr_F YX3_colourOf K) (E : fr_R YX3_colourOf K (some (.int rz)) (n0, u0)) : ∀ (k : Nat) (x1 : Int32) (x3 : Int32), fX3_colourOf_23 n0 k x1 x3 = some rz → fr_V YX3_colourOf K 23 [some (.ref 11), some (.int x1), none, some (.int x3)] [] (n0, u0) := by
  intro k
  induction k with
  | zero =>
    intro x1 x3 h
    rw [fX3_colourOf_23] at h
    cases h
  | succ k ih =>
    intro x1 x3 h
    rw [fX3_colourOf_23] at h
    refine fr_iload_n (q := 24) F dX3_colourOf_23 rfl rfl ?_
    refine fr_aload_n (q := 25) F dX3_colourOf_24 rfl rfl ?_
    refine fr_gfR (q := 28) (j := 3) F dX3_colourOf_25 rfl faRX3_9 (by decide) rfl rfl ?_
    refine fr_gfI (q := 31) (x := (n0 3 2)) F dX3_colourOf_28 rfl faRX3_98 (by decide) rfl rfl rfl ?_
    refine fr_icmp_ge (q := 34) (tgt := 76) F dX3_colourOf_31 (by decide) rfl (fun hc1 => ?_) (fun hc1 => ?_)
    · rw [if_pos hc1] at h
      refine fr_iconst (q := 77) (v := 0) F dX3_colourOf_76 rfl (by decide) ?_
      obtain rfl := Option.some.inj h
      exact fr_iret F E rfl dX3_colourOf_77
    · rw [if_neg hc1] at h
      refine fr_aload_n (q := 35) F dX3_colourOf_34 rfl rfl ?_
      refine fr_iload_n (q := 36) F dX3_colourOf_35 rfl rfl ?_
      refine fr_aload_n (q := 37) F dX3_colourOf_36 rfl rfl ?_
      refine fr_gfR (q := 40) (j := 3) F dX3_colourOf_37 rfl faRX3_9 (by decide) rfl rfl ?_
      refine fr_gfR (q := 43) (j := 6) F dX3_colourOf_40 rfl faRX3_101 (by decide) rfl rfl ?_
      refine fr_iload_n (q := 44) F dX3_colourOf_43 rfl rfl ?_
      obtain ⟨hi2, h⟩ := fr_ck_some h
      refine fr_ial (q := 45) (x := (n0 6 (Int32.toNatClampNeg x3))) F dX3_colourOf_44 rfl hi2 (by decide) rfl rfl ?_
      refine fr_aload_n (q := 46) F dX3_colourOf_45 rfl rfl ?_
      refine fr_gfR (q := 49) (j := 3) F dX3_colourOf_46 rfl faRX3_9 (by decide) rfl rfl ?_
      refine fr_gfR (q := 52) (j := 7) F dX3_colourOf_49 rfl faRX3_104 (by decide) rfl rfl ?_
      refine fr_iload_n (q := 53) F dX3_colourOf_52 rfl rfl ?_
      obtain ⟨hi3, h⟩ := fr_ck_some h
      refine fr_ial (q := 54) (x := (n0 7 (Int32.toNatClampNeg x3))) F dX3_colourOf_53 rfl hi3 (by decide) rfl rfl ?_
      obtain ⟨r4, hr5, h⟩ := fr_bd_some h
      refine fr_callV (q := 57) (M' := (n0, u0)) (rest := []) (st' := [.int (fr_b r4)]) F dX3_colourOf_54 rfl (tX3_liesIn hr5) mlRX3_107 msX3_liesIn ⟨Nat.le_of_ble_eq_true rfl, Nat.le_of_ble_eq_true rfl⟩ (by decide) rfl rfl rfl (Nat.le_of_ble_eq_true rfl) rfl ?_
      refine fr_if_eqb (q := 60) (tgt := 70) F dX3_colourOf_57 (by decide) rfl (fun hc6 => ?_) (fun hc6 => ?_)
      · rw [if_neg hc6] at h
        refine fr_iinc (q := 73) (v := (x3 + (1 : Int32))) F dX3_colourOf_70 rfl rfl rfl (by decide) rfl ?_
        refine fr_goto (tgt := 23) F dX3_colourOf_73 (by decide) ?_
        exact fr_wj (ih _ _ h) ⟨rfl, ⟨rfl, ⟨rfl, trivial⟩⟩⟩
      · rw [if_pos hc6] at h
        refine fr_aload_n (q := 61) F dX3_colourOf_60 rfl rfl ?_
        refine fr_gfR (q := 64) (j := 3) F dX3_colourOf_61 rfl faRX3_9 (by decide) rfl rfl ?_
        refine fr_gfR (q := 67) (j := 8) F dX3_colourOf_64 rfl faRX3_110 (by decide) rfl rfl ?_
        refine fr_iload_n (q := 68) F dX3_colourOf_67 rfl rfl ?_
        obtain ⟨hi7, h⟩ := fr_ck_some h
        refine fr_ial (q := 69) (x := (n0 8 (Int32.toNatClampNeg x3))) F dX3_colourOf_68 rfl hi7 (by decide) rfl rfl ?_
        obtain rfl := Option.some.inj h
        exact fr_iret F E rfl dX3_colourOf_69
theorem tX3_colourOf {l : Launch} {G : fr_G} {u0 : fr_N} {a1 : Int32} {n0 : fr_N} {rz : Int32} (h : fX3_colourOf a1 n0 = some rz) : fr_Met l G YX3_colourOf [.ref 11, .int a1] (n0, u0) (some (.int rz)) (n0, u0) := by
  refine fr_met (pad := List.replicate 2 none) (by decide) (Nat.le_of_ble_eq_true rfl) (fun _ h => List.eq_of_mem_replicate h) ⟨rfl, rfl⟩ (fun K F hG hL E => ?_)
  subst hG; subst hL
  rw [fX3_colourOf] at h
  show fr_V YX3_colourOf K 0 [some (.ref 11), some (.int a1), none, none] [] (n0, u0)
  refine fr_aload_n (q := 1) F dX3_colourOf_0 rfl rfl ?_
  refine fr_iload_n (q := 2) F dX3_colourOf_1 rfl rfl ?_
  obtain ⟨r8, hr9, h⟩ := fr_bd_some h
  refine fr_callV (q := 5) (M' := (n0, u0)) (rest := []) (st' := [.int r8]) F dX3_colourOf_2 rfl (tX3_holderOf hr9) mlRX3_95 msX3_holderOf ⟨Nat.le_of_ble_eq_true rfl, Nat.le_of_ble_eq_true rfl⟩ (by decide) rfl rfl rfl (Nat.le_of_ble_eq_true rfl) rfl ?_
  refine fr_istore_n (q := 6) F dX3_colourOf_5 rfl (by decide) rfl ?_
  refine fr_iload_n (q := 7) F dX3_colourOf_6 rfl rfl ?_
  refine fr_iconst (q := 8) (v := (-1)) F dX3_colourOf_7 rfl (by decide) ?_
  refine fr_icmp_eq (q := 11) (tgt := 21) F dX3_colourOf_8 (by decide) rfl (fun hc10 => ?_) (fun hc10 => ?_)
  · rw [if_pos hc10] at h
    refine fr_iconst (q := 22) (v := 0) F dX3_colourOf_21 rfl (by decide) ?_
    refine fr_istore_n (q := 23) F dX3_colourOf_22 rfl (by decide) rfl ?_
    exact fr_wj (tX3_colourOf_23 F E _ _ _ h) ⟨rfl, ⟨rfl, ⟨rfl, trivial⟩⟩⟩
  · rw [if_neg hc10] at h
    refine fr_aload_n (q := 12) F dX3_colourOf_11 rfl rfl ?_
    refine fr_gfR (q := 15) (j := 3) F dX3_colourOf_12 rfl faRX3_9 (by decide) rfl rfl ?_
    refine fr_iload_n (q := 16) F dX3_colourOf_15 rfl rfl ?_
    refine fr_iconst (q := 17) (v := 3) F dX3_colourOf_16 rfl (by decide) ?_
    obtain ⟨r11, hr12, h⟩ := fr_bd_some h
    refine fr_callV (q := 20) (M' := (n0, u0)) (rest := []) (st' := [.int r11]) F dX3_colourOf_17 rfl (tX1_mark_3 hr12) mlRX3_59 msX1_mark ⟨Nat.le_of_ble_eq_true rfl, Nat.le_of_ble_eq_true rfl⟩ (by decide) rfl rfl rfl (Nat.le_of_ble_eq_true rfl) rfl ?_
    obtain rfl := Option.some.inj h
    exact fr_iret F E rfl dX3_colourOf_20
/-! FeastRota.day (0, None, None, None) -/
def fX7_day (a1 : Int32) (a2 : Int32) (a3 : Int32) (n0 : fr_N) : Option (Int32 × fr_N) := if (n0 3 0) = 0 then some ((-1000002 : Int32), n0) else fr_bd (fX7_isDay a1 a2 n0) fun r2 => (if r2 = true then fr_bd (fX7_within a3 (0 : Int32) (5 : Int32)) fun r5 => (if r5 = true then fr_bd (fX3_lay a1 (-1 : Int32) n0) fun n10 => (if a3 = (0 : Int32) then fr_bd (fX2_weekday a2 n10) fun r12 => (some (r12, n10)) else (if a3 = (1 : Int32) then fr_bd (fX3_holderOf a2 n10) fun r15 => (if r15 = (-1 : Int32) then some ((-1000000 : Int32), n10) else fr_bd (fX3_holderOf a2 n10) fun r18 => (some (r18, n10))) else (if a3 = (2 : Int32) then fr_bd (fX3_rankOf a2 n10) fun r21 => (some (r21, n10)) else (if a3 = (3 : Int32) then fr_bd (fX3_colourOf a2 n10) fun r24 => (some (r24, n10)) else (if a3 = (4 : Int32) then fr_bd (fX3_servicesOf a2 n10) fun r27 => (some (r27, n10)) else (fr_bd (fX3_rememberedOn a2 n10) fun r29 => (some (r29, n10)))))))) else some ((-1000001 : Int32), n0)) else some ((-1000001 : Int32), n0))
theorem tX7_day {l : Launch} {G : fr_G} {u0 : fr_N} {a1 : Int32} {a2 : Int32} {a3 : Int32} {n0 : fr_N} {rz : Int32} {nz : fr_N} (h : fX7_day a1 a2 a3 n0 = some (rz, nz)) : fr_Met l G YX7_day [.ref 0, .int a1, .int a2, .int a3] (n0, u0) (some (.int rz)) (nz, u0) := by
  refine fr_met (pad := List.replicate 0 none) (by decide) (Nat.le_of_ble_eq_true rfl) (fun _ h => List.eq_of_mem_replicate h) ⟨rfl, rfl⟩ (fun K F hG hL E => ?_)
  subst hG; subst hL
  rw [fX7_day] at h
  show fr_V YX7_day K 0 [some (.ref 0), some (.int a1), some (.int a2), some (.int a3)] [] (n0, u0)
  refine fr_aload_n (q := 1) F dX7_day_0 rfl rfl ?_
  refine fr_gfR (q := 4) (j := 3) F dX7_day_1 rfl faRX7_36 (by decide) rfl rfl ?_
  refine fr_gfI (q := 7) (x := (n0 3 0)) F dX7_day_4 rfl faRX7_128 (by decide) rfl rfl rfl ?_
  refine fr_if_ne (q := 10) (tgt := 13) F dX7_day_7 (by decide) rfl (fun hc1 => ?_) (fun hc1 => ?_)
  · rw [if_neg hc1] at h
    refine fr_aload_n (q := 14) F dX7_day_13 rfl rfl ?_
    refine fr_iload_n (q := 15) F dX7_day_14 rfl rfl ?_
    refine fr_iload_n (q := 16) F dX7_day_15 rfl rfl ?_
    obtain ⟨r2, hr3, h⟩ := fr_bd_some h
    refine fr_callV (q := 19) (M' := (n0, u0)) (rest := []) (st' := [.int (fr_b r2)]) F dX7_day_16 rfl (tX7_isDay hr3) mlRX7_193 msX7_isDay ⟨Nat.le_of_ble_eq_true rfl, Nat.le_of_ble_eq_true rfl⟩ (by decide) rfl rfl rfl (Nat.le_of_ble_eq_true rfl) rfl ?_
    refine fr_if_eqb (q := 22) (tgt := 31) F dX7_day_19 (by decide) rfl (fun hc4 => ?_) (fun hc4 => ?_)
    · rw [if_neg hc4] at h
      refine fr_ldc (q := 33) F dX7_day_31 rfl kcRX7_72 ?_
      obtain ⟨rfl, rfl⟩ := Prod.mk.inj (Option.some.inj h)
      exact fr_iret F E rfl dX7_day_33
    · rw [if_pos hc4] at h
      refine fr_iload_n (q := 23) F dX7_day_22 rfl rfl ?_
      refine fr_iconst (q := 24) (v := 0) F dX7_day_23 rfl (by decide) ?_
      refine fr_iconst (q := 25) (v := 5) F dX7_day_24 rfl (by decide) ?_
      obtain ⟨r5, hr6, h⟩ := fr_bd_some h
      refine fr_callS (q := 28) (M' := (n0, u0)) (rest := []) (st' := [.int (fr_b r5)]) F dX7_day_25 rfl (tX7_within hr6) mlRX7_68 msX7_within ⟨Nat.le_of_ble_eq_true rfl, Nat.le_of_ble_eq_true rfl⟩ rfl rfl (Nat.le_of_ble_eq_true rfl) rfl ?_
      refine fr_if_neb (q := 31) (tgt := 34) F dX7_day_28 (by decide) rfl (fun hc7 => ?_) (fun hc7 => ?_)
      · rw [if_pos hc7] at h
        refine fr_aload_n (q := 35) F dX7_day_34 rfl rfl ?_
        refine fr_gfR (q := 38) (j := 11) F dX7_day_35 rfl faRX7_51 (by decide) rfl rfl ?_
        refine fr_iload_n (q := 39) F dX7_day_38 rfl rfl ?_
        refine fr_iconst (q := 40) (v := (-1)) F dX7_day_39 rfl (by decide) ?_
        obtain ⟨n10, hr9, h⟩ := fr_bd_some h
        refine fr_callV (q := 43) (M' := (n10, u0)) (rest := []) (st' := []) F dX7_day_40 rfl (tX3_lay hr9) mlRX7_156 msX3_lay ⟨Nat.le_of_ble_eq_true rfl, Nat.le_of_ble_eq_true rfl⟩ (by decide) rfl rfl rfl (Nat.le_of_ble_eq_true rfl) rfl ?_
        refine fr_iload_n (q := 44) F dX7_day_43 rfl rfl ?_
        by_cases hc11 : a3 = (0 : Int32)
        · rw [if_pos hc11] at h
          refine fr_tswI (k := 0) (off := 36) (tgt := 80) F hc11 dX7_day_44 (by decide) (by decide) (by decide) (by decide) ?_
          refine fr_aload_n (q := 81) F dX7_day_80 rfl rfl ?_
          refine fr_gfR (q := 84) (j := 11) F dX7_day_81 rfl faRX7_51 (by decide) rfl rfl ?_
          refine fr_gfR (q := 87) (j := 12) F dX7_day_84 rfl faRX7_160 (by decide) rfl rfl ?_
          refine fr_iload_n (q := 88) F dX7_day_87 rfl rfl ?_
          obtain ⟨r12, hr13, h⟩ := fr_bd_some h
          refine fr_callV (q := 91) (M' := (n10, u0)) (rest := []) (st' := [.int r12]) F dX7_day_88 rfl (tX2_weekday hr13) mlRX7_197 msX2_weekday ⟨Nat.le_of_ble_eq_true rfl, Nat.le_of_ble_eq_true rfl⟩ (by decide) rfl rfl rfl (Nat.le_of_ble_eq_true rfl) rfl ?_
          obtain ⟨rfl, rfl⟩ := Prod.mk.inj (Option.some.inj h)
          exact fr_iret F E rfl dX7_day_91
        · rw [if_neg hc11] at h
          by_cases hc14 : a3 = (1 : Int32)
          · rw [if_pos hc14] at h
            refine fr_tswI (k := 1) (off := 48) (tgt := 92) F hc14 dX7_day_44 (by decide) (by decide) (by decide) (by decide) ?_
            refine fr_aload_n (q := 93) F dX7_day_92 rfl rfl ?_
            refine fr_gfR (q := 96) (j := 11) F dX7_day_93 rfl faRX7_51 (by decide) rfl rfl ?_
            refine fr_iload_n (q := 97) F dX7_day_96 rfl rfl ?_
            obtain ⟨r15, hr16, h⟩ := fr_bd_some h
            refine fr_callV (q := 100) (M' := (n10, u0)) (rest := []) (st' := [.int r15]) F dX7_day_97 rfl (tX3_holderOf hr16) mlRX7_200 msX3_holderOf ⟨Nat.le_of_ble_eq_true rfl, Nat.le_of_ble_eq_true rfl⟩ (by decide) rfl rfl rfl (Nat.le_of_ble_eq_true rfl) rfl ?_
            refine fr_iconst (q := 101) (v := (-1)) F dX7_day_100 rfl (by decide) ?_
            refine fr_icmp_ne (q := 104) (tgt := 109) F dX7_day_101 (by decide) rfl (fun hc17 => ?_) (fun hc17 => ?_)
            · rw [if_neg hc17] at h
              refine fr_aload_n (q := 110) F dX7_day_109 rfl rfl ?_
              refine fr_gfR (q := 113) (j := 11) F dX7_day_110 rfl faRX7_51 (by decide) rfl rfl ?_
              refine fr_iload_n (q := 114) F dX7_day_113 rfl rfl ?_
              obtain ⟨r18, hr19, h⟩ := fr_bd_some h
              refine fr_callV (q := 117) (M' := (n10, u0)) (rest := []) (st' := [.int r18]) F dX7_day_114 rfl (tX3_holderOf hr19) mlRX7_200 msX3_holderOf ⟨Nat.le_of_ble_eq_true rfl, Nat.le_of_ble_eq_true rfl⟩ (by decide) rfl rfl rfl (Nat.le_of_ble_eq_true rfl) rfl ?_
              obtain ⟨rfl, rfl⟩ := Prod.mk.inj (Option.some.inj h)
              exact fr_iret F E rfl dX7_day_117
            · rw [if_pos hc17] at h
              refine fr_ldc (q := 106) F dX7_day_104 rfl kcRX7_203 ?_
              refine fr_goto (tgt := 117) F dX7_day_106 (by decide) ?_
              obtain ⟨rfl, rfl⟩ := Prod.mk.inj (Option.some.inj h)
              exact fr_iret F E rfl dX7_day_117
          · rw [if_neg hc14] at h
            by_cases hc20 : a3 = (2 : Int32)
            · rw [if_pos hc20] at h
              refine fr_tswI (k := 2) (off := 74) (tgt := 118) F hc20 dX7_day_44 (by decide) (by decide) (by decide) (by decide) ?_
              refine fr_aload_n (q := 119) F dX7_day_118 rfl rfl ?_
              refine fr_gfR (q := 122) (j := 11) F dX7_day_119 rfl faRX7_51 (by decide) rfl rfl ?_
              refine fr_iload_n (q := 123) F dX7_day_122 rfl rfl ?_
              obtain ⟨r21, hr22, h⟩ := fr_bd_some h
              refine fr_callV (q := 126) (M' := (n10, u0)) (rest := []) (st' := [.int r21]) F dX7_day_123 rfl (tX3_rankOf hr22) mlRX7_204 msX3_rankOf ⟨Nat.le_of_ble_eq_true rfl, Nat.le_of_ble_eq_true rfl⟩ (by decide) rfl rfl rfl (Nat.le_of_ble_eq_true rfl) rfl ?_
              obtain ⟨rfl, rfl⟩ := Prod.mk.inj (Option.some.inj h)
              exact fr_iret F E rfl dX7_day_126
            · rw [if_neg hc20] at h
              by_cases hc23 : a3 = (3 : Int32)
              · rw [if_pos hc23] at h
                refine fr_tswI (k := 3) (off := 83) (tgt := 127) F hc23 dX7_day_44 (by decide) (by decide) (by decide) (by decide) ?_
                refine fr_aload_n (q := 128) F dX7_day_127 rfl rfl ?_
                refine fr_gfR (q := 131) (j := 11) F dX7_day_128 rfl faRX7_51 (by decide) rfl rfl ?_
                refine fr_iload_n (q := 132) F dX7_day_131 rfl rfl ?_
                obtain ⟨r24, hr25, h⟩ := fr_bd_some h
                refine fr_callV (q := 135) (M' := (n10, u0)) (rest := []) (st' := [.int r24]) F dX7_day_132 rfl (tX3_colourOf hr25) mlRX7_207 msX3_colourOf ⟨Nat.le_of_ble_eq_true rfl, Nat.le_of_ble_eq_true rfl⟩ (by decide) rfl rfl rfl (Nat.le_of_ble_eq_true rfl) rfl ?_
                obtain ⟨rfl, rfl⟩ := Prod.mk.inj (Option.some.inj h)
                exact fr_iret F E rfl dX7_day_135
              · rw [if_neg hc23] at h
                by_cases hc26 : a3 = (4 : Int32)
                · rw [if_pos hc26] at h
                  refine fr_tswI (k := 4) (off := 92) (tgt := 136) F hc26 dX7_day_44 (by decide) (by decide) (by decide) (by decide) ?_
                  refine fr_aload_n (q := 137) F dX7_day_136 rfl rfl ?_
                  refine fr_gfR (q := 140) (j := 11) F dX7_day_137 rfl faRX7_51 (by decide) rfl rfl ?_
                  refine fr_iload_n (q := 141) F dX7_day_140 rfl rfl ?_
                  obtain ⟨r27, hr28, h⟩ := fr_bd_some h
                  refine fr_callV (q := 144) (M' := (n10, u0)) (rest := []) (st' := [.int r27]) F dX7_day_141 rfl (tX3_servicesOf hr28) mlRX7_210 msX3_servicesOf ⟨Nat.le_of_ble_eq_true rfl, Nat.le_of_ble_eq_true rfl⟩ (by decide) rfl rfl rfl (Nat.le_of_ble_eq_true rfl) rfl ?_
                  obtain ⟨rfl, rfl⟩ := Prod.mk.inj (Option.some.inj h)
                  exact fr_iret F E rfl dX7_day_144
                · rw [if_neg hc26] at h
                  refine fr_tswO (tgt := 145) F dX7_day_44 (fr_out (n := 4) (by decide) (fun k hk => match k, hk with | 0, _ => hc11 | 1, _ => hc14 | 2, _ => hc20 | 3, _ => hc23 | 4, _ => hc26 | k + 5, hk => absurd hk (by omega))) (by decide) ?_
                  refine fr_aload_n (q := 146) F dX7_day_145 rfl rfl ?_
                  refine fr_gfR (q := 149) (j := 11) F dX7_day_146 rfl faRX7_51 (by decide) rfl rfl ?_
                  refine fr_iload_n (q := 150) F dX7_day_149 rfl rfl ?_
                  obtain ⟨r29, hr30, h⟩ := fr_bd_some h
                  refine fr_callV (q := 153) (M' := (n10, u0)) (rest := []) (st' := [.int r29]) F dX7_day_150 rfl (tX3_rememberedOn hr30) mlRX7_213 msX3_rememberedOn ⟨Nat.le_of_ble_eq_true rfl, Nat.le_of_ble_eq_true rfl⟩ (by decide) rfl rfl rfl (Nat.le_of_ble_eq_true rfl) rfl ?_
                  obtain ⟨rfl, rfl⟩ := Prod.mk.inj (Option.some.inj h)
                  exact fr_iret F E rfl dX7_day_153
      · rw [if_neg hc7] at h
        refine fr_ldc (q := 33) F dX7_day_31 rfl kcRX7_72 ?_
        obtain ⟨rfl, rfl⟩ := Prod.mk.inj (Option.some.inj h)
        exact fr_iret F E rfl dX7_day_33
  · rw [if_pos hc1] at h
    refine fr_ldc (q := 12) F dX7_day_10 rfl kcRX7_105 ?_
    obtain ⟨rfl, rfl⟩ := Prod.mk.inj (Option.some.inj h)
    exact fr_iret F E rfl dX7_day_12
/-! FeastRotaModel.hasDay (52, None, None, None) -/
def fX8_hasDay (a1 : Int32) (a2 : Int32) (a3 : Int32) (n0 : fr_N) : Option (Bool × fr_N) := fr_bd (fX8_isYear a1) fun r1 => (if r1 = true then fr_bd (fX8_lays a1 (-1000000 : Int32) n0) fun n6 => (fr_bd (fX8_in (Int32.toInt64 a2) (Int32.toInt64 a3) (Int32.toInt64 (n6 0 20))) fun r7 => (some (r7, n6))) else some (false, n0))
theorem tX8_hasDay {l : Launch} {G : fr_G} {u0 : fr_N} {a1 : Int32} {a2 : Int32} {a3 : Int32} {n0 : fr_N} {rz : Bool} {nz : fr_N} (h : fX8_hasDay a1 a2 a3 n0 = some (rz, nz)) : fr_Met l G YX8_hasDay [.ref 52, .int a1, .int a2, .int a3] (u0, n0) (some (.int (fr_b rz))) (u0, nz) := by
  refine fr_met (pad := List.replicate 0 none) (by decide) (Nat.le_of_ble_eq_true rfl) (fun _ h => List.eq_of_mem_replicate h) ⟨rfl, rfl⟩ (fun K F hG hL E => ?_)
  subst hG; subst hL
  rw [fX8_hasDay] at h
  show fr_V YX8_hasDay K 0 [some (.ref 52), some (.int a1), some (.int a2), some (.int a3)] [] (u0, n0)
  refine fr_iload_n (q := 1) F dX8_hasDay_0 rfl rfl ?_
  obtain ⟨r1, hr2, h⟩ := fr_bd_some h
  refine fr_callS (q := 4) (M' := (u0, n0)) (rest := []) (st' := [.int (fr_b r1)]) F dX8_hasDay_1 rfl (tX8_isYear hr2) mlRX8_283 msX8_isYear ⟨Nat.le_of_ble_eq_true rfl, Nat.le_of_ble_eq_true rfl⟩ rfl rfl (Nat.le_of_ble_eq_true rfl) rfl ?_
  refine fr_if_neb (q := 7) (tgt := 9) F dX8_hasDay_4 (by decide) rfl (fun hc3 => ?_) (fun hc3 => ?_)
  · rw [if_pos hc3] at h
    refine fr_aload_n (q := 10) F dX8_hasDay_9 rfl rfl ?_
    refine fr_iload_n (q := 11) F dX8_hasDay_10 rfl rfl ?_
    refine fr_ldc (q := 13) F dX8_hasDay_11 rfl kcRX8_90 ?_
    obtain ⟨n6, hr5, h⟩ := fr_bd_some h
    refine fr_callV (q := 16) (M' := (u0, n6)) (rest := []) (st' := []) F dX8_hasDay_13 rfl (tX8_lays hr5) mlRX8_288 msX8_lays ⟨Nat.le_of_ble_eq_true rfl, Nat.le_of_ble_eq_true rfl⟩ (by decide) rfl rfl rfl (Nat.le_of_ble_eq_true rfl) rfl ?_
    refine fr_iload_n (q := 17) F dX8_hasDay_16 rfl rfl ?_
    refine fr_i2l (q := 18) F dX8_hasDay_17 rfl ?_
    refine fr_iload_n (q := 19) F dX8_hasDay_18 rfl rfl ?_
    refine fr_i2l (q := 20) F dX8_hasDay_19 rfl ?_
    refine fr_aload_n (q := 21) F dX8_hasDay_20 rfl rfl ?_
    refine fr_gfI (q := 24) (x := (n6 0 20)) F dX8_hasDay_21 rfl faRX8_71 (by decide) rfl rfl rfl ?_
    refine fr_i2l (q := 25) F dX8_hasDay_24 rfl ?_
    obtain ⟨r7, hr8, h⟩ := fr_bd_some h
    refine fr_callS (q := 28) (M' := (u0, n6)) (rest := []) (st' := [.int (fr_b r7)]) F dX8_hasDay_25 rfl (tX8_in hr8) mlRX8_55 msX8_in ⟨Nat.le_of_ble_eq_true rfl, Nat.le_of_ble_eq_true rfl⟩ rfl rfl (Nat.le_of_ble_eq_true rfl) rfl ?_
    obtain ⟨rfl, rfl⟩ := Prod.mk.inj (Option.some.inj h)
    exact fr_zret F E rfl dX8_hasDay_28
  · rw [if_neg hc3] at h
    refine fr_iconst (q := 8) (v := 0) F dX8_hasDay_7 rfl (by decide) ?_
    obtain ⟨rfl, rfl⟩ := Prod.mk.inj (Option.some.inj h)
    exact fr_zret F E rfl dX8_hasDay_8
/-! FeastRotaModel.rememberedOn (52, None) -/
def fX8_rememberedOn_4 (n0 : fr_N) : Nat → Int32 → Int32 → Int32 → Option Int32
  | 0, _, _, _ => none
  | k + 1, x1, x2, x3 => if (n0 1 6) ≤ x3 then some x2 else fr_ck x3 12 (if (n0 9 (Int32.toNatClampNeg x3)) = (3 : Int32) then fr_ck x3 12 (if (n0 10 (Int32.toNatClampNeg x3)) = x1 then (fX8_rememberedOn_4 n0 k) x1 (x2 + (1 : Int32)) (x3 + (1 : Int32)) else (fX8_rememberedOn_4 n0 k) x1 (x2 + (0 : Int32)) (x3 + (1 : Int32))) else (fX8_rememberedOn_4 n0 k) x1 (x2 + (0 : Int32)) (x3 + (1 : Int32)))
def fX8_rememberedOn (a1 : Int32) (n0 : fr_N) : Option Int32 := fX8_rememberedOn_4 n0 2000 a1 (0 : Int32) (0 : Int32)
theorem tX8_rememberedOn_4 {K : fr_K} {u0 : fr_N} {n0 : fr_N} {rz : Int32} (F : fr_F YX8_rememberedOn K) (E : fr_R YX8_rememberedOn K (some (.int rz)) (u0, n0)) : ∀ (k : Nat) (x1 : Int32) (x2 : Int32) (x3 : Int32), fX8_rememberedOn_4 n0 k x1 x2 x3 = some rz → fr_V YX8_rememberedOn K 4 [some (.ref 52), some (.int x1), some (.int x2), some (.int x3)] [] (u0, n0) := by
  intro k
  induction k with
  | zero =>
    intro x1 x2 x3 h
    rw [fX8_rememberedOn_4] at h
    cases h
  | succ k ih =>
    intro x1 x2 x3 h
    rw [fX8_rememberedOn_4] at h
    refine fr_iload_n (q := 5) F dX8_rememberedOn_4 rfl rfl ?_
    refine fr_aload_n (q := 6) F dX8_rememberedOn_5 rfl rfl ?_
    refine fr_gfR (q := 9) (j := 53) F dX8_rememberedOn_6 rfl faRX8_7 (by decide) rfl rfl ?_
    refine fr_bipush (q := 11) (v := 6) F dX8_rememberedOn_9 rfl (by decide) ?_
    refine fr_ial (q := 12) (x := (n0 1 6)) F dX8_rememberedOn_11 rfl (fr_vin rfl) (by decide) rfl rfl ?_
    refine fr_icmp_ge (q := 15) (tgt := 49) F dX8_rememberedOn_12 (by decide) rfl (fun hc1 => ?_) (fun hc1 => ?_)
    · rw [if_pos hc1] at h
      refine fr_iload_n (q := 50) F dX8_rememberedOn_49 rfl rfl ?_
      obtain rfl := Option.some.inj h
      exact fr_iret F E rfl dX8_rememberedOn_50
    · rw [if_neg hc1] at h
      refine fr_iload_n (q := 16) F dX8_rememberedOn_15 rfl rfl ?_
      refine fr_aload_n (q := 17) F dX8_rememberedOn_16 rfl rfl ?_
      refine fr_gfR (q := 20) (j := 61) F dX8_rememberedOn_17 rfl faRX8_35 (by decide) rfl rfl ?_
      refine fr_iload_n (q := 21) F dX8_rememberedOn_20 rfl rfl ?_
      obtain ⟨hi2, h⟩ := fr_ck_some h
      refine fr_ial (q := 22) (x := (n0 9 (Int32.toNatClampNeg x3))) F dX8_rememberedOn_21 rfl hi2 (by decide) rfl rfl ?_
      refine fr_iconst (q := 23) (v := 3) F dX8_rememberedOn_22 rfl (by decide) ?_
      refine fr_icmp_ne (q := 26) (tgt := 40) F dX8_rememberedOn_23 (by decide) rfl (fun hc3 => ?_) (fun hc3 => ?_)
      · rw [if_neg hc3] at h
        refine fr_iconst (q := 41) (v := 0) F dX8_rememberedOn_40 rfl (by decide) ?_
        refine fr_iadd (q := 42) F dX8_rememberedOn_41 rfl ?_
        refine fr_istore_n (q := 43) F dX8_rememberedOn_42 rfl (by decide) rfl ?_
        refine fr_iinc (q := 46) (v := (x3 + (1 : Int32))) F dX8_rememberedOn_43 rfl rfl rfl (by decide) rfl ?_
        refine fr_goto (tgt := 4) F dX8_rememberedOn_46 (by decide) ?_
        exact fr_wj (ih _ _ _ h) ⟨rfl, ⟨rfl, ⟨rfl, ⟨rfl, trivial⟩⟩⟩⟩
      · rw [if_pos hc3] at h
        refine fr_aload_n (q := 27) F dX8_rememberedOn_26 rfl rfl ?_
        refine fr_gfR (q := 30) (j := 62) F dX8_rememberedOn_27 rfl faRX8_38 (by decide) rfl rfl ?_
        refine fr_iload_n (q := 31) F dX8_rememberedOn_30 rfl rfl ?_
        obtain ⟨hi4, h⟩ := fr_ck_some h
        refine fr_ial (q := 32) (x := (n0 10 (Int32.toNatClampNeg x3))) F dX8_rememberedOn_31 rfl hi4 (by decide) rfl rfl ?_
        refine fr_iload_n (q := 33) F dX8_rememberedOn_32 rfl rfl ?_
        refine fr_icmp_ne (q := 36) (tgt := 40) F dX8_rememberedOn_33 (by decide) rfl (fun hc5 => ?_) (fun hc5 => ?_)
        · rw [if_neg hc5] at h
          refine fr_iconst (q := 41) (v := 0) F dX8_rememberedOn_40 rfl (by decide) ?_
          refine fr_iadd (q := 42) F dX8_rememberedOn_41 rfl ?_
          refine fr_istore_n (q := 43) F dX8_rememberedOn_42 rfl (by decide) rfl ?_
          refine fr_iinc (q := 46) (v := (x3 + (1 : Int32))) F dX8_rememberedOn_43 rfl rfl rfl (by decide) rfl ?_
          refine fr_goto (tgt := 4) F dX8_rememberedOn_46 (by decide) ?_
          exact fr_wj (ih _ _ _ h) ⟨rfl, ⟨rfl, ⟨rfl, ⟨rfl, trivial⟩⟩⟩⟩
        · rw [if_pos hc5] at h
          refine fr_iconst (q := 37) (v := 1) F dX8_rememberedOn_36 rfl (by decide) ?_
          refine fr_goto (tgt := 41) F dX8_rememberedOn_37 (by decide) ?_
          refine fr_iadd (q := 42) F dX8_rememberedOn_41 rfl ?_
          refine fr_istore_n (q := 43) F dX8_rememberedOn_42 rfl (by decide) rfl ?_
          refine fr_iinc (q := 46) (v := (x3 + (1 : Int32))) F dX8_rememberedOn_43 rfl rfl rfl (by decide) rfl ?_
          refine fr_goto (tgt := 4) F dX8_rememberedOn_46 (by decide) ?_
          exact fr_wj (ih _ _ _ h) ⟨rfl, ⟨rfl, ⟨rfl, ⟨rfl, trivial⟩⟩⟩⟩
theorem tX8_rememberedOn {l : Launch} {G : fr_G} {u0 : fr_N} {a1 : Int32} {n0 : fr_N} {rz : Int32} (h : fX8_rememberedOn a1 n0 = some rz) : fr_Met l G YX8_rememberedOn [.ref 52, .int a1] (u0, n0) (some (.int rz)) (u0, n0) := by
  refine fr_met (pad := List.replicate 2 none) (by decide) (Nat.le_of_ble_eq_true rfl) (fun _ h => List.eq_of_mem_replicate h) ⟨rfl, rfl⟩ (fun K F hG hL E => ?_)
  subst hG; subst hL
  rw [fX8_rememberedOn] at h
  show fr_V YX8_rememberedOn K 0 [some (.ref 52), some (.int a1), none, none] [] (u0, n0)
  refine fr_iconst (q := 1) (v := 0) F dX8_rememberedOn_0 rfl (by decide) ?_
  refine fr_istore_n (q := 2) F dX8_rememberedOn_1 rfl (by decide) rfl ?_
  refine fr_iconst (q := 3) (v := 0) F dX8_rememberedOn_2 rfl (by decide) ?_
  refine fr_istore_n (q := 4) F dX8_rememberedOn_3 rfl (by decide) rfl ?_
  exact fr_wj (tX8_rememberedOn_4 F E _ _ _ _ h) ⟨rfl, ⟨rfl, ⟨rfl, ⟨rfl, trivial⟩⟩⟩⟩
/-! FeastRotaModel.colourOf (52, None) -/
def fX8_colourOf_112 (k35 : Int32 → Int32 → Int32 → Option Int32) (n0 : fr_N) (x1 : Int32) (x2 : Int32) (x3 : Int32) (s0 : Bool) : Option Int32 := if s0 = true then fr_ck (((57 : Int32) + ((3 : Int32) * x3)) + (2 : Int32)) 79 (k35 x1 (n0 1 (Int32.toNatClampNeg (((57 : Int32) + ((3 : Int32) * x3)) + (2 : Int32)))) (x3 + (-1 : Int32))) else k35 x1 x2 (x3 + (-1 : Int32))
def fX8_colourOf_35 (n0 : fr_N) : Nat → Int32 → Int32 → Int32 → Option Int32
  | 0, _, _, _ => none
  | k + 1, x1, x2, x3 => if x3 < 0 then some x2 else fr_ck ((57 : Int32) + ((3 : Int32) * x3)) 79 (fr_ck (((57 : Int32) + ((3 : Int32) * x3)) + (1 : Int32)) 79 (fr_bd (fX8_isHeld (n0 1 (Int32.toNatClampNeg ((57 : Int32) + ((3 : Int32) * x3)))) n0) fun r6 => (if r6 = true then fr_bd (fX8_isHeld (n0 1 (Int32.toNatClampNeg (((57 : Int32) + ((3 : Int32) * x3)) + (1 : Int32)))) n0) fun r9 => (if r9 = true then fr_ck (n0 1 (Int32.toNatClampNeg ((57 : Int32) + ((3 : Int32) * x3)))) 12 (if x1 < (n0 10 (Int32.toNatClampNeg (n0 1 (Int32.toNatClampNeg ((57 : Int32) + ((3 : Int32) * x3)))))) then fX8_colourOf_112 (fX8_colourOf_35 n0 k) n0 x1 x2 x3 false else fr_ck (n0 1 (Int32.toNatClampNeg (((57 : Int32) + ((3 : Int32) * x3)) + (1 : Int32)))) 12 (if (n0 10 (Int32.toNatClampNeg (n0 1 (Int32.toNatClampNeg (((57 : Int32) + ((3 : Int32) * x3)) + (1 : Int32)))))) ≤ x1 then fX8_colourOf_112 (fX8_colourOf_35 n0 k) n0 x1 x2 x3 false else fX8_colourOf_112 (fX8_colourOf_35 n0 k) n0 x1 x2 x3 true)) else fX8_colourOf_112 (fX8_colourOf_35 n0 k) n0 x1 x2 x3 false) else fX8_colourOf_112 (fX8_colourOf_35 n0 k) n0 x1 x2 x3 false)))
def fX8_colourOf (a1 : Int32) (n0 : fr_N) : Option Int32 := fr_ck a1 367 (if (n0 7 (Int32.toNatClampNeg a1)) ≤ 0 then fX8_colourOf_35 n0 2000 a1 (0 : Int32) ((n0 1 7) - (1 : Int32)) else fr_ck a1 367 (fr_bd (fX8_of ((n0 7 (Int32.toNatClampNeg a1)) - (1 : Int32)) (3 : Int32) n0) fun r19 => (some r19)))
theorem tX8_colourOf_112 {K : fr_K} {k35 : Int32 → Int32 → Int32 → Option Int32} {u0 : fr_N} {n0 : fr_N} {rz : Int32} (F : fr_F YX8_colourOf K) (E : fr_R YX8_colourOf K (some (.int rz)) (u0, n0)) (H35 : ∀ (y1 : Int32) (y2 : Int32) (y3 : Int32), k35 y1 y2 y3 = some rz → fr_V YX8_colourOf K 35 [some (.ref 52), some (.int y1), some (.int y2), some (.int y3), none, none, none] [] (u0, n0)) {x1 : Int32} {x2 : Int32} {x3 : Int32} {s0 : Bool} (h : fX8_colourOf_112 k35 n0 x1 x2 x3 s0 = some rz) : fr_V YX8_colourOf K 112 [some (.ref 52), some (.int x1), some (.int x2), some (.int x3), none, none, none] [.int (fr_b s0)] (u0, n0) := by
  rw [fX8_colourOf_112] at h
  refine fr_istore (q := 114) F dX8_colourOf_112 rfl (by decide) rfl ?_
  refine fr_iload (q := 116) F dX8_colourOf_114 rfl rfl ?_
  refine fr_if_eqb (q := 119) (tgt := 135) F dX8_colourOf_116 (by decide) rfl (fun hc1 => ?_) (fun hc1 => ?_)
  · rw [if_neg hc1] at h
    refine fr_iload_n (q := 136) F dX8_colourOf_135 rfl rfl ?_
    refine fr_istore_n (q := 137) F dX8_colourOf_136 rfl (by decide) rfl ?_
    refine fr_iinc (q := 140) (v := (x3 + (-1 : Int32))) F dX8_colourOf_137 rfl rfl rfl (by decide) rfl ?_
    refine fr_goto (tgt := 35) F dX8_colourOf_140 (by decide) ?_
    exact fr_wj (H35 _ _ _ h) ⟨rfl, ⟨rfl, ⟨rfl, ⟨rfl, trivial⟩⟩⟩⟩
  · rw [if_pos hc1] at h
    refine fr_aload_n (q := 120) F dX8_colourOf_119 rfl rfl ?_
    refine fr_gfR (q := 123) (j := 53) F dX8_colourOf_120 rfl faRX8_7 (by decide) rfl rfl ?_
    refine fr_bipush (q := 125) (v := 57) F dX8_colourOf_123 rfl (by decide) ?_
    refine fr_iconst (q := 126) (v := 3) F dX8_colourOf_125 rfl (by decide) ?_
    refine fr_iload_n (q := 127) F dX8_colourOf_126 rfl rfl ?_
    refine fr_imul (q := 128) F dX8_colourOf_127 rfl ?_
    refine fr_iadd (q := 129) F dX8_colourOf_128 rfl ?_
    refine fr_iconst (q := 130) (v := 2) F dX8_colourOf_129 rfl (by decide) ?_
    refine fr_iadd (q := 131) F dX8_colourOf_130 rfl ?_
    obtain ⟨hi2, h⟩ := fr_ck_some h
    refine fr_ial (q := 132) (x := (n0 1 (Int32.toNatClampNeg (((57 : Int32) + ((3 : Int32) * x3)) + (2 : Int32))))) F dX8_colourOf_131 rfl hi2 (by decide) rfl rfl ?_
    refine fr_goto (tgt := 136) F dX8_colourOf_132 (by decide) ?_
    refine fr_istore_n (q := 137) F dX8_colourOf_136 rfl (by decide) rfl ?_
    refine fr_iinc (q := 140) (v := (x3 + (-1 : Int32))) F dX8_colourOf_137 rfl rfl rfl (by decide) rfl ?_
    refine fr_goto (tgt := 35) F dX8_colourOf_140 (by decide) ?_
    exact fr_wj (H35 _ _ _ h) ⟨rfl, ⟨rfl, ⟨rfl, ⟨rfl, trivial⟩⟩⟩⟩
theorem tX8_colourOf_35 {K : fr_K} {u0 : fr_N} {n0 : fr_N} {rz : Int32} (F : fr_F YX8_colourOf K) (E : fr_R YX8_colourOf K (some (.int rz)) (u0, n0)) : ∀ (k : Nat) (x1 : Int32) (x2 : Int32) (x3 : Int32), fX8_colourOf_35 n0 k x1 x2 x3 = some rz → fr_V YX8_colourOf K 35 [some (.ref 52), some (.int x1), some (.int x2), some (.int x3), none, none, none] [] (u0, n0) := by
  intro k
  induction k with
  | zero =>
    intro x1 x2 x3 h
    rw [fX8_colourOf_35] at h
    cases h
  | succ k ih =>
    intro x1 x2 x3 h
    rw [fX8_colourOf_35] at h
    refine fr_iload_n (q := 36) F dX8_colourOf_35 rfl rfl ?_
    refine fr_if_lt (q := 39) (tgt := 143) F dX8_colourOf_36 (by decide) rfl (fun hc3 => ?_) (fun hc3 => ?_)
    · rw [if_pos hc3] at h
      refine fr_iload_n (q := 144) F dX8_colourOf_143 rfl rfl ?_
      obtain rfl := Option.some.inj h
      exact fr_iret F E rfl dX8_colourOf_144
    · rw [if_neg hc3] at h
      refine fr_aload_n (q := 40) F dX8_colourOf_39 rfl rfl ?_
      refine fr_gfR (q := 43) (j := 53) F dX8_colourOf_40 rfl faRX8_7 (by decide) rfl rfl ?_
      refine fr_bipush (q := 45) (v := 57) F dX8_colourOf_43 rfl (by decide) ?_
      refine fr_iconst (q := 46) (v := 3) F dX8_colourOf_45 rfl (by decide) ?_
      refine fr_iload_n (q := 47) F dX8_colourOf_46 rfl rfl ?_
      refine fr_imul (q := 48) F dX8_colourOf_47 rfl ?_
      refine fr_iadd (q := 49) F dX8_colourOf_48 rfl ?_
      obtain ⟨hi4, h⟩ := fr_ck_some h
      refine fr_ial (q := 50) (x := (n0 1 (Int32.toNatClampNeg ((57 : Int32) + ((3 : Int32) * x3))))) F dX8_colourOf_49 rfl hi4 (by decide) rfl rfl ?_
      refine fr_istore (q := 52) F dX8_colourOf_50 rfl (by decide) rfl ?_
      refine fr_aload_n (q := 53) F dX8_colourOf_52 rfl rfl ?_
      refine fr_gfR (q := 56) (j := 53) F dX8_colourOf_53 rfl faRX8_7 (by decide) rfl rfl ?_
      refine fr_bipush (q := 58) (v := 57) F dX8_colourOf_56 rfl (by decide) ?_
      refine fr_iconst (q := 59) (v := 3) F dX8_colourOf_58 rfl (by decide) ?_
      refine fr_iload_n (q := 60) F dX8_colourOf_59 rfl rfl ?_
      refine fr_imul (q := 61) F dX8_colourOf_60 rfl ?_
      refine fr_iadd (q := 62) F dX8_colourOf_61 rfl ?_
      refine fr_iconst (q := 63) (v := 1) F dX8_colourOf_62 rfl (by decide) ?_
      refine fr_iadd (q := 64) F dX8_colourOf_63 rfl ?_
      obtain ⟨hi5, h⟩ := fr_ck_some h
      refine fr_ial (q := 65) (x := (n0 1 (Int32.toNatClampNeg (((57 : Int32) + ((3 : Int32) * x3)) + (1 : Int32))))) F dX8_colourOf_64 rfl hi5 (by decide) rfl rfl ?_
      refine fr_istore (q := 67) F dX8_colourOf_65 rfl (by decide) rfl ?_
      refine fr_aload_n (q := 68) F dX8_colourOf_67 rfl rfl ?_
      refine fr_iload (q := 70) F dX8_colourOf_68 rfl rfl ?_
      obtain ⟨r6, hr7, h⟩ := fr_bd_some h
      refine fr_callV (q := 73) (M' := (u0, n0)) (rest := []) (st' := [.int (fr_b r6)]) F dX8_colourOf_70 rfl (tX8_isHeld hr7) mlRX8_119 msX8_isHeld ⟨Nat.le_of_ble_eq_true rfl, Nat.le_of_ble_eq_true rfl⟩ (by decide) rfl rfl rfl (Nat.le_of_ble_eq_true rfl) rfl ?_
      refine fr_if_eqb (q := 76) (tgt := 111) F dX8_colourOf_73 (by decide) rfl (fun hc8 => ?_) (fun hc8 => ?_)
      · rw [if_neg hc8] at h
        refine fr_iconst (q := 112) (v := 0) F dX8_colourOf_111 rfl (by decide) ?_
        exact fr_wj (tX8_colourOf_112 F E ih h) ⟨rfl, ⟨rfl, ⟨rfl, ⟨rfl, trivial⟩⟩⟩⟩
      · rw [if_pos hc8] at h
        refine fr_aload_n (q := 77) F dX8_colourOf_76 rfl rfl ?_
        refine fr_iload (q := 79) F dX8_colourOf_77 rfl rfl ?_
        obtain ⟨r9, hr10, h⟩ := fr_bd_some h
        refine fr_callV (q := 82) (M' := (u0, n0)) (rest := []) (st' := [.int (fr_b r9)]) F dX8_colourOf_79 rfl (tX8_isHeld hr10) mlRX8_119 msX8_isHeld ⟨Nat.le_of_ble_eq_true rfl, Nat.le_of_ble_eq_true rfl⟩ (by decide) rfl rfl rfl (Nat.le_of_ble_eq_true rfl) rfl ?_
        refine fr_if_eqb (q := 85) (tgt := 111) F dX8_colourOf_82 (by decide) rfl (fun hc11 => ?_) (fun hc11 => ?_)
        · rw [if_neg hc11] at h
          refine fr_iconst (q := 112) (v := 0) F dX8_colourOf_111 rfl (by decide) ?_
          exact fr_wj (tX8_colourOf_112 F E ih h) ⟨rfl, ⟨rfl, ⟨rfl, ⟨rfl, trivial⟩⟩⟩⟩
        · rw [if_pos hc11] at h
          refine fr_aload_n (q := 86) F dX8_colourOf_85 rfl rfl ?_
          refine fr_gfR (q := 89) (j := 62) F dX8_colourOf_86 rfl faRX8_38 (by decide) rfl rfl ?_
          refine fr_iload (q := 91) F dX8_colourOf_89 rfl rfl ?_
          obtain ⟨hi12, h⟩ := fr_ck_some h
          refine fr_ial (q := 92) (x := (n0 10 (Int32.toNatClampNeg (n0 1 (Int32.toNatClampNeg ((57 : Int32) + ((3 : Int32) * x3))))))) F dX8_colourOf_91 rfl hi12 (by decide) rfl rfl ?_
          refine fr_iload_n (q := 93) F dX8_colourOf_92 rfl rfl ?_
          refine fr_icmp_gt (q := 96) (tgt := 111) F dX8_colourOf_93 (by decide) rfl (fun hc13 => ?_) (fun hc13 => ?_)
          · rw [if_pos hc13] at h
            refine fr_iconst (q := 112) (v := 0) F dX8_colourOf_111 rfl (by decide) ?_
            exact fr_wj (tX8_colourOf_112 F E ih h) ⟨rfl, ⟨rfl, ⟨rfl, ⟨rfl, trivial⟩⟩⟩⟩
          · rw [if_neg hc13] at h
            refine fr_iload_n (q := 97) F dX8_colourOf_96 rfl rfl ?_
            refine fr_aload_n (q := 98) F dX8_colourOf_97 rfl rfl ?_
            refine fr_gfR (q := 101) (j := 62) F dX8_colourOf_98 rfl faRX8_38 (by decide) rfl rfl ?_
            refine fr_iload (q := 103) F dX8_colourOf_101 rfl rfl ?_
            obtain ⟨hi14, h⟩ := fr_ck_some h
            refine fr_ial (q := 104) (x := (n0 10 (Int32.toNatClampNeg (n0 1 (Int32.toNatClampNeg (((57 : Int32) + ((3 : Int32) * x3)) + (1 : Int32))))))) F dX8_colourOf_103 rfl hi14 (by decide) rfl rfl ?_
            refine fr_icmp_ge (q := 107) (tgt := 111) F dX8_colourOf_104 (by decide) rfl (fun hc15 => ?_) (fun hc15 => ?_)
            · rw [if_pos hc15] at h
              refine fr_iconst (q := 112) (v := 0) F dX8_colourOf_111 rfl (by decide) ?_
              exact fr_wj (tX8_colourOf_112 F E ih h) ⟨rfl, ⟨rfl, ⟨rfl, ⟨rfl, trivial⟩⟩⟩⟩
            · rw [if_neg hc15] at h
              refine fr_iconst (q := 108) (v := 1) F dX8_colourOf_107 rfl (by decide) ?_
              refine fr_goto (tgt := 112) F dX8_colourOf_108 (by decide) ?_
              exact fr_wj (tX8_colourOf_112 F E ih h) ⟨rfl, ⟨rfl, ⟨rfl, ⟨rfl, trivial⟩⟩⟩⟩
theorem tX8_colourOf {l : Launch} {G : fr_G} {u0 : fr_N} {a1 : Int32} {n0 : fr_N} {rz : Int32} (h : fX8_colourOf a1 n0 = some rz) : fr_Met l G YX8_colourOf [.ref 52, .int a1] (u0, n0) (some (.int rz)) (u0, n0) := by
  refine fr_met (pad := List.replicate 5 none) (by decide) (Nat.le_of_ble_eq_true rfl) (fun _ h => List.eq_of_mem_replicate h) ⟨rfl, rfl⟩ (fun K F hG hL E => ?_)
  subst hG; subst hL
  rw [fX8_colourOf] at h
  show fr_V YX8_colourOf K 0 [some (.ref 52), some (.int a1), none, none, none, none, none] [] (u0, n0)
  refine fr_aload_n (q := 1) F dX8_colourOf_0 rfl rfl ?_
  refine fr_gfR (q := 4) (j := 59) F dX8_colourOf_1 rfl faRX8_29 (by decide) rfl rfl ?_
  refine fr_iload_n (q := 5) F dX8_colourOf_4 rfl rfl ?_
  obtain ⟨hi16, h⟩ := fr_ck_some h
  refine fr_ial (q := 6) (x := (n0 7 (Int32.toNatClampNeg a1))) F dX8_colourOf_5 rfl hi16 (by decide) rfl rfl ?_
  refine fr_if_le (q := 9) (tgt := 23) F dX8_colourOf_6 (by decide) rfl (fun hc17 => ?_) (fun hc17 => ?_)
  · rw [if_pos hc17] at h
    refine fr_iconst (q := 24) (v := 0) F dX8_colourOf_23 rfl (by decide) ?_
    refine fr_istore_n (q := 25) F dX8_colourOf_24 rfl (by decide) rfl ?_
    refine fr_aload_n (q := 26) F dX8_colourOf_25 rfl rfl ?_
    refine fr_gfR (q := 29) (j := 53) F dX8_colourOf_26 rfl faRX8_7 (by decide) rfl rfl ?_
    refine fr_bipush (q := 31) (v := 7) F dX8_colourOf_29 rfl (by decide) ?_
    refine fr_ial (q := 32) (x := (n0 1 7)) F dX8_colourOf_31 rfl (fr_vin rfl) (by decide) rfl rfl ?_
    refine fr_iconst (q := 33) (v := 1) F dX8_colourOf_32 rfl (by decide) ?_
    refine fr_isub (q := 34) F dX8_colourOf_33 rfl ?_
    refine fr_istore_n (q := 35) F dX8_colourOf_34 rfl (by decide) rfl ?_
    exact fr_wj (tX8_colourOf_35 F E _ _ _ _ h) ⟨rfl, ⟨rfl, ⟨rfl, ⟨rfl, trivial⟩⟩⟩⟩
  · rw [if_neg hc17] at h
    refine fr_aload_n (q := 10) F dX8_colourOf_9 rfl rfl ?_
    refine fr_aload_n (q := 11) F dX8_colourOf_10 rfl rfl ?_
    refine fr_gfR (q := 14) (j := 59) F dX8_colourOf_11 rfl faRX8_29 (by decide) rfl rfl ?_
    refine fr_iload_n (q := 15) F dX8_colourOf_14 rfl rfl ?_
    obtain ⟨hi18, h⟩ := fr_ck_some h
    refine fr_ial (q := 16) (x := (n0 7 (Int32.toNatClampNeg a1))) F dX8_colourOf_15 rfl hi18 (by decide) rfl rfl ?_
    refine fr_iconst (q := 17) (v := 1) F dX8_colourOf_16 rfl (by decide) ?_
    refine fr_isub (q := 18) F dX8_colourOf_17 rfl ?_
    refine fr_iconst (q := 19) (v := 3) F dX8_colourOf_18 rfl (by decide) ?_
    obtain ⟨r19, hr20, h⟩ := fr_bd_some h
    refine fr_callV (q := 22) (M' := (u0, n0)) (rest := []) (st' := [.int r19]) F dX8_colourOf_19 rfl (tX8_of hr20) mlRX8_84 msX8_of ⟨Nat.le_of_ble_eq_true rfl, Nat.le_of_ble_eq_true rfl⟩ (by decide) rfl rfl rfl (Nat.le_of_ble_eq_true rfl) rfl ?_
    obtain rfl := Option.some.inj h
    exact fr_iret F E rfl dX8_colourOf_22
/-! FeastRotaModel.day (52, None, None, None) -/
def fX8_day (a1 : Int32) (a2 : Int32) (a3 : Int32) (n0 : fr_N) : Option (Int32 × fr_N) := fr_bd (fX8_isBook n0) fun r1 => (if r1 = true then fr_bd2 (fX8_hasDay a1 a2 (1 : Int32) n0) fun r4 n6 => (if r4 = true then if a3 = (0 : Int32) then fr_bd (fX8_weekdayOf a2 n6) fun r9 => (some (r9, n6)) else (if a3 = (1 : Int32) then fr_ck a2 367 (if (n6 7 (Int32.toNatClampNeg a2)) ≤ 0 then some ((-1000000 : Int32), n6) else fr_ck a2 367 (some (((n6 7 (Int32.toNatClampNeg a2)) - (1 : Int32)), n6))) else (if a3 = (2 : Int32) then fr_bd (fX8_rankOf a2 n6) fun r16 => (some (r16, n6)) else (if a3 = (3 : Int32) then fr_bd (fX8_colourOf a2 n6) fun r19 => (some (r19, n6)) else (if a3 = (4 : Int32) then fr_bd (fX8_servicesOf a2 n6) fun r22 => (some (r22, n6)) else (if a3 = (5 : Int32) then fr_bd (fX8_rememberedOn a2 n6) fun r25 => (some (r25, n6)) else (some ((-1000001 : Int32), n6))))))) else some ((-1000001 : Int32), n6)) else some ((-1000002 : Int32), n0))
theorem tX8_day {l : Launch} {G : fr_G} {u0 : fr_N} {a1 : Int32} {a2 : Int32} {a3 : Int32} {n0 : fr_N} {rz : Int32} {nz : fr_N} (h : fX8_day a1 a2 a3 n0 = some (rz, nz)) : fr_Met l G YX8_day [.ref 52, .int a1, .int a2, .int a3] (u0, n0) (some (.int rz)) (u0, nz) := by
  refine fr_met (pad := List.replicate 0 none) (by decide) (Nat.le_of_ble_eq_true rfl) (fun _ h => List.eq_of_mem_replicate h) ⟨rfl, rfl⟩ (fun K F hG hL E => ?_)
  subst hG; subst hL
  rw [fX8_day] at h
  show fr_V YX8_day K 0 [some (.ref 52), some (.int a1), some (.int a2), some (.int a3)] [] (u0, n0)
  refine fr_aload_n (q := 1) F dX8_day_0 rfl rfl ?_
  obtain ⟨r1, hr2, h⟩ := fr_bd_some h
  refine fr_callV (q := 4) (M' := (u0, n0)) (rest := []) (st' := [.int (fr_b r1)]) F dX8_day_1 rfl (tX8_isBook hr2) mlRX8_261 msX8_isBook ⟨Nat.le_of_ble_eq_true rfl, Nat.le_of_ble_eq_true rfl⟩ (by decide) rfl rfl rfl (Nat.le_of_ble_eq_true rfl) rfl ?_
  refine fr_if_neb (q := 7) (tgt := 10) F dX8_day_4 (by decide) rfl (fun hc3 => ?_) (fun hc3 => ?_)
  · rw [if_pos hc3] at h
    refine fr_aload_n (q := 11) F dX8_day_10 rfl rfl ?_
    refine fr_iload_n (q := 12) F dX8_day_11 rfl rfl ?_
    refine fr_iload_n (q := 13) F dX8_day_12 rfl rfl ?_
    refine fr_iconst (q := 14) (v := 1) F dX8_day_13 rfl (by decide) ?_
    obtain ⟨r4, n6, hr5, h⟩ := fr_bd2_some h
    refine fr_callV (q := 17) (M' := (u0, n6)) (rest := []) (st' := [.int (fr_b r4)]) F dX8_day_14 rfl (tX8_hasDay hr5) mlRX8_298 msX8_hasDay ⟨Nat.le_of_ble_eq_true rfl, Nat.le_of_ble_eq_true rfl⟩ (by decide) rfl rfl rfl (Nat.le_of_ble_eq_true rfl) rfl ?_
    refine fr_if_neb (q := 20) (tgt := 23) F dX8_day_17 (by decide) rfl (fun hc7 => ?_) (fun hc7 => ?_)
    · rw [if_pos hc7] at h
      refine fr_iload_n (q := 24) F dX8_day_23 rfl rfl ?_
      by_cases hc8 : a3 = (0 : Int32)
      · rw [if_pos hc8] at h
        refine fr_tswI (k := 0) (off := 40) (tgt := 64) F hc8 dX8_day_24 (by decide) (by decide) (by decide) (by decide) ?_
        refine fr_aload_n (q := 65) F dX8_day_64 rfl rfl ?_
        refine fr_iload_n (q := 66) F dX8_day_65 rfl rfl ?_
        obtain ⟨r9, hr10, h⟩ := fr_bd_some h
        refine fr_callV (q := 69) (M' := (u0, n6)) (rest := []) (st' := [.int r9]) F dX8_day_66 rfl (tX8_weekdayOf hr10) mlRX8_67 msX8_weekdayOf ⟨Nat.le_of_ble_eq_true rfl, Nat.le_of_ble_eq_true rfl⟩ (by decide) rfl rfl rfl (Nat.le_of_ble_eq_true rfl) rfl ?_
        obtain ⟨rfl, rfl⟩ := Prod.mk.inj (Option.some.inj h)
        exact fr_iret F E rfl dX8_day_69
      · rw [if_neg hc8] at h
        by_cases hc11 : a3 = (1 : Int32)
        · rw [if_pos hc11] at h
          refine fr_tswI (k := 1) (off := 46) (tgt := 70) F hc11 dX8_day_24 (by decide) (by decide) (by decide) (by decide) ?_
          refine fr_aload_n (q := 71) F dX8_day_70 rfl rfl ?_
          refine fr_gfR (q := 74) (j := 59) F dX8_day_71 rfl faRX8_29 (by decide) rfl rfl ?_
          refine fr_iload_n (q := 75) F dX8_day_74 rfl rfl ?_
          obtain ⟨hi12, h⟩ := fr_ck_some h
          refine fr_ial (q := 76) (x := (n6 7 (Int32.toNatClampNeg a2))) F dX8_day_75 rfl hi12 (by decide) rfl rfl ?_
          refine fr_if_le (q := 79) (tgt := 90) F dX8_day_76 (by decide) rfl (fun hc13 => ?_) (fun hc13 => ?_)
          · rw [if_pos hc13] at h
            refine fr_ldc (q := 92) F dX8_day_90 rfl kcRX8_90 ?_
            obtain ⟨rfl, rfl⟩ := Prod.mk.inj (Option.some.inj h)
            exact fr_iret F E rfl dX8_day_92
          · rw [if_neg hc13] at h
            refine fr_aload_n (q := 80) F dX8_day_79 rfl rfl ?_
            refine fr_gfR (q := 83) (j := 59) F dX8_day_80 rfl faRX8_29 (by decide) rfl rfl ?_
            refine fr_iload_n (q := 84) F dX8_day_83 rfl rfl ?_
            obtain ⟨hi14, h⟩ := fr_ck_some h
            refine fr_ial (q := 85) (x := (n6 7 (Int32.toNatClampNeg a2))) F dX8_day_84 rfl hi14 (by decide) rfl rfl ?_
            refine fr_iconst (q := 86) (v := 1) F dX8_day_85 rfl (by decide) ?_
            refine fr_isub (q := 87) F dX8_day_86 rfl ?_
            refine fr_goto (tgt := 92) F dX8_day_87 (by decide) ?_
            obtain ⟨rfl, rfl⟩ := Prod.mk.inj (Option.some.inj h)
            exact fr_iret F E rfl dX8_day_92
        · rw [if_neg hc11] at h
          by_cases hc15 : a3 = (2 : Int32)
          · rw [if_pos hc15] at h
            refine fr_tswI (k := 2) (off := 69) (tgt := 93) F hc15 dX8_day_24 (by decide) (by decide) (by decide) (by decide) ?_
            refine fr_aload_n (q := 94) F dX8_day_93 rfl rfl ?_
            refine fr_iload_n (q := 95) F dX8_day_94 rfl rfl ?_
            obtain ⟨r16, hr17, h⟩ := fr_bd_some h
            refine fr_callV (q := 98) (M' := (u0, n6)) (rest := []) (st' := [.int r16]) F dX8_day_95 rfl (tX8_rankOf hr17) mlRX8_122 msX8_rankOf ⟨Nat.le_of_ble_eq_true rfl, Nat.le_of_ble_eq_true rfl⟩ (by decide) rfl rfl rfl (Nat.le_of_ble_eq_true rfl) rfl ?_
            obtain ⟨rfl, rfl⟩ := Prod.mk.inj (Option.some.inj h)
            exact fr_iret F E rfl dX8_day_98
          · rw [if_neg hc15] at h
            by_cases hc18 : a3 = (3 : Int32)
            · rw [if_pos hc18] at h
              refine fr_tswI (k := 3) (off := 75) (tgt := 99) F hc18 dX8_day_24 (by decide) (by decide) (by decide) (by decide) ?_
              refine fr_aload_n (q := 100) F dX8_day_99 rfl rfl ?_
              refine fr_iload_n (q := 101) F dX8_day_100 rfl rfl ?_
              obtain ⟨r19, hr20, h⟩ := fr_bd_some h
              refine fr_callV (q := 104) (M' := (u0, n6)) (rest := []) (st' := [.int r19]) F dX8_day_101 rfl (tX8_colourOf hr20) mlRX8_301 msX8_colourOf ⟨Nat.le_of_ble_eq_true rfl, Nat.le_of_ble_eq_true rfl⟩ (by decide) rfl rfl rfl (Nat.le_of_ble_eq_true rfl) rfl ?_
              obtain ⟨rfl, rfl⟩ := Prod.mk.inj (Option.some.inj h)
              exact fr_iret F E rfl dX8_day_104
            · rw [if_neg hc18] at h
              by_cases hc21 : a3 = (4 : Int32)
              · rw [if_pos hc21] at h
                refine fr_tswI (k := 4) (off := 81) (tgt := 105) F hc21 dX8_day_24 (by decide) (by decide) (by decide) (by decide) ?_
                refine fr_aload_n (q := 106) F dX8_day_105 rfl rfl ?_
                refine fr_iload_n (q := 107) F dX8_day_106 rfl rfl ?_
                obtain ⟨r22, hr23, h⟩ := fr_bd_some h
                refine fr_callV (q := 110) (M' := (u0, n6)) (rest := []) (st' := [.int r22]) F dX8_day_107 rfl (tX8_servicesOf hr23) mlRX8_141 msX8_servicesOf ⟨Nat.le_of_ble_eq_true rfl, Nat.le_of_ble_eq_true rfl⟩ (by decide) rfl rfl rfl (Nat.le_of_ble_eq_true rfl) rfl ?_
                obtain ⟨rfl, rfl⟩ := Prod.mk.inj (Option.some.inj h)
                exact fr_iret F E rfl dX8_day_110
              · rw [if_neg hc21] at h
                by_cases hc24 : a3 = (5 : Int32)
                · rw [if_pos hc24] at h
                  refine fr_tswI (k := 5) (off := 87) (tgt := 111) F hc24 dX8_day_24 (by decide) (by decide) (by decide) (by decide) ?_
                  refine fr_aload_n (q := 112) F dX8_day_111 rfl rfl ?_
                  refine fr_iload_n (q := 113) F dX8_day_112 rfl rfl ?_
                  obtain ⟨r25, hr26, h⟩ := fr_bd_some h
                  refine fr_callV (q := 116) (M' := (u0, n6)) (rest := []) (st' := [.int r25]) F dX8_day_113 rfl (tX8_rememberedOn hr26) mlRX8_304 msX8_rememberedOn ⟨Nat.le_of_ble_eq_true rfl, Nat.le_of_ble_eq_true rfl⟩ (by decide) rfl rfl rfl (Nat.le_of_ble_eq_true rfl) rfl ?_
                  obtain ⟨rfl, rfl⟩ := Prod.mk.inj (Option.some.inj h)
                  exact fr_iret F E rfl dX8_day_116
                · rw [if_neg hc24] at h
                  refine fr_tswO (tgt := 117) F dX8_day_24 (fr_out (n := 5) (by decide) (fun k hk => match k, hk with | 0, _ => hc8 | 1, _ => hc11 | 2, _ => hc15 | 3, _ => hc18 | 4, _ => hc21 | 5, _ => hc24 | k + 6, hk => absurd hk (by omega))) (by decide) ?_
                  refine fr_ldc (q := 119) F dX8_day_117 rfl kcRX8_209 ?_
                  obtain ⟨rfl, rfl⟩ := Prod.mk.inj (Option.some.inj h)
                  exact fr_iret F E rfl dX8_day_119
    · rw [if_neg hc7] at h
      refine fr_ldc (q := 22) F dX8_day_20 rfl kcRX8_209 ?_
      obtain ⟨rfl, rfl⟩ := Prod.mk.inj (Option.some.inj h)
      exact fr_iret F E rfl dX8_day_22
  · rw [if_neg hc3] at h
    refine fr_ldc (q := 9) F dX8_day_7 rfl kcRX8_238 ?_
    obtain ⟨rfl, rfl⟩ := Prod.mk.inj (Option.some.inj h)
    exact fr_iret F E rfl dX8_day_9
/-! FeastRota.held (0, None, None, None) -/
def fX7_held (a1 : Int32) (a2 : Int32) (a3 : Int32) (n0 : fr_N) : Option (Int32 × fr_N) := fr_bd (fX1_hasFeast_3 a1 n0) fun r1 => (if r1 = true then fr_bd (fX7_isYear a2) fun r4 => (if r4 = true then fr_bd (fX7_within a3 (0 : Int32) (2 : Int32)) fun r7 => (if r7 = true then fr_bd (fX3_lay a2 (-1 : Int32) n0) fun n12 => (if a3 = (0 : Int32) then fr_ck a1 12 (some ((n12 14 (Int32.toNatClampNeg a1)), n12)) else (if a3 = (1 : Int32) then fr_ck a1 12 (some ((n12 13 (Int32.toNatClampNeg a1)), n12)) else (fr_ck a1 12 (some ((n12 15 (Int32.toNatClampNeg a1)), n12))))) else some ((-1000001 : Int32), n0)) else some ((-1000001 : Int32), n0)) else some ((-1000001 : Int32), n0))
theorem tX7_held {l : Launch} {G : fr_G} {u0 : fr_N} {a1 : Int32} {a2 : Int32} {a3 : Int32} {n0 : fr_N} {rz : Int32} {nz : fr_N} (h : fX7_held a1 a2 a3 n0 = some (rz, nz)) : fr_Met l G YX7_held [.ref 0, .int a1, .int a2, .int a3] (n0, u0) (some (.int rz)) (nz, u0) := by
  refine fr_met (pad := List.replicate 0 none) (by decide) (Nat.le_of_ble_eq_true rfl) (fun _ h => List.eq_of_mem_replicate h) ⟨rfl, rfl⟩ (fun K F hG hL E => ?_)
  subst hG; subst hL
  rw [fX7_held] at h
  show fr_V YX7_held K 0 [some (.ref 0), some (.int a1), some (.int a2), some (.int a3)] [] (n0, u0)
  refine fr_aload_n (q := 1) F dX7_held_0 rfl rfl ?_
  refine fr_gfR (q := 4) (j := 3) F dX7_held_1 rfl faRX7_36 (by decide) rfl rfl ?_
  refine fr_iload_n (q := 5) F dX7_held_4 rfl rfl ?_
  obtain ⟨r1, hr2, h⟩ := fr_bd_some h
  refine fr_callV (q := 8) (M' := (n0, u0)) (rest := []) (st' := [.int (fr_b r1)]) F dX7_held_5 rfl (tX1_hasFeast_3 hr2) mlRX7_109 msX1_hasFeast ⟨Nat.le_of_ble_eq_true rfl, Nat.le_of_ble_eq_true rfl⟩ (by decide) rfl rfl rfl (Nat.le_of_ble_eq_true rfl) rfl ?_
  refine fr_if_eqb (q := 11) (tgt := 27) F dX7_held_8 (by decide) rfl (fun hc3 => ?_) (fun hc3 => ?_)
  · rw [if_neg hc3] at h
    refine fr_ldc (q := 29) F dX7_held_27 rfl kcRX7_72 ?_
    obtain ⟨rfl, rfl⟩ := Prod.mk.inj (Option.some.inj h)
    exact fr_iret F E rfl dX7_held_29
  · rw [if_pos hc3] at h
    refine fr_iload_n (q := 12) F dX7_held_11 rfl rfl ?_
    obtain ⟨r4, hr5, h⟩ := fr_bd_some h
    refine fr_callS (q := 15) (M' := (n0, u0)) (rest := []) (st' := [.int (fr_b r4)]) F dX7_held_12 rfl (tX7_isYear hr5) mlRX7_153 msX7_isYear ⟨Nat.le_of_ble_eq_true rfl, Nat.le_of_ble_eq_true rfl⟩ rfl rfl (Nat.le_of_ble_eq_true rfl) rfl ?_
    refine fr_if_eqb (q := 18) (tgt := 27) F dX7_held_15 (by decide) rfl (fun hc6 => ?_) (fun hc6 => ?_)
    · rw [if_neg hc6] at h
      refine fr_ldc (q := 29) F dX7_held_27 rfl kcRX7_72 ?_
      obtain ⟨rfl, rfl⟩ := Prod.mk.inj (Option.some.inj h)
      exact fr_iret F E rfl dX7_held_29
    · rw [if_pos hc6] at h
      refine fr_iload_n (q := 19) F dX7_held_18 rfl rfl ?_
      refine fr_iconst (q := 20) (v := 0) F dX7_held_19 rfl (by decide) ?_
      refine fr_iconst (q := 21) (v := 2) F dX7_held_20 rfl (by decide) ?_
      obtain ⟨r7, hr8, h⟩ := fr_bd_some h
      refine fr_callS (q := 24) (M' := (n0, u0)) (rest := []) (st' := [.int (fr_b r7)]) F dX7_held_21 rfl (tX7_within hr8) mlRX7_68 msX7_within ⟨Nat.le_of_ble_eq_true rfl, Nat.le_of_ble_eq_true rfl⟩ rfl rfl (Nat.le_of_ble_eq_true rfl) rfl ?_
      refine fr_if_neb (q := 27) (tgt := 30) F dX7_held_24 (by decide) rfl (fun hc9 => ?_) (fun hc9 => ?_)
      · rw [if_pos hc9] at h
        refine fr_aload_n (q := 31) F dX7_held_30 rfl rfl ?_
        refine fr_gfR (q := 34) (j := 11) F dX7_held_31 rfl faRX7_51 (by decide) rfl rfl ?_
        refine fr_iload_n (q := 35) F dX7_held_34 rfl rfl ?_
        refine fr_iconst (q := 36) (v := (-1)) F dX7_held_35 rfl (by decide) ?_
        obtain ⟨n12, hr11, h⟩ := fr_bd_some h
        refine fr_callV (q := 39) (M' := (n12, u0)) (rest := []) (st' := []) F dX7_held_36 rfl (tX3_lay hr11) mlRX7_156 msX3_lay ⟨Nat.le_of_ble_eq_true rfl, Nat.le_of_ble_eq_true rfl⟩ (by decide) rfl rfl rfl (Nat.le_of_ble_eq_true rfl) rfl ?_
        refine fr_iload_n (q := 40) F dX7_held_39 rfl rfl ?_
        by_cases hc13 : a3 = (0 : Int32)
        · rw [if_pos hc13] at h
          refine fr_lsw (off := 28) (tgt := 68) F dX7_held_40 (by decide) (by rw [hc13]; decide) (by decide) ?_
          refine fr_aload_n (q := 69) F dX7_held_68 rfl rfl ?_
          refine fr_gfR (q := 72) (j := 11) F dX7_held_69 rfl faRX7_51 (by decide) rfl rfl ?_
          refine fr_gfR (q := 75) (j := 14) F dX7_held_72 rfl faRX7_216 (by decide) rfl rfl ?_
          refine fr_iload_n (q := 76) F dX7_held_75 rfl rfl ?_
          obtain ⟨hi14, h⟩ := fr_ck_some h
          refine fr_ial (q := 77) (x := (n12 14 (Int32.toNatClampNeg a1))) F dX7_held_76 rfl hi14 (by decide) rfl rfl ?_
          obtain ⟨rfl, rfl⟩ := Prod.mk.inj (Option.some.inj h)
          exact fr_iret F E rfl dX7_held_77
        · rw [if_neg hc13] at h
          by_cases hc15 : a3 = (1 : Int32)
          · rw [if_pos hc15] at h
            refine fr_lsw (off := 38) (tgt := 78) F dX7_held_40 (by decide) (by rw [hc15]; decide) (by decide) ?_
            refine fr_aload_n (q := 79) F dX7_held_78 rfl rfl ?_
            refine fr_gfR (q := 82) (j := 11) F dX7_held_79 rfl faRX7_51 (by decide) rfl rfl ?_
            refine fr_gfR (q := 85) (j := 13) F dX7_held_82 rfl faRX7_219 (by decide) rfl rfl ?_
            refine fr_iload_n (q := 86) F dX7_held_85 rfl rfl ?_
            obtain ⟨hi16, h⟩ := fr_ck_some h
            refine fr_ial (q := 87) (x := (n12 13 (Int32.toNatClampNeg a1))) F dX7_held_86 rfl hi16 (by decide) rfl rfl ?_
            obtain ⟨rfl, rfl⟩ := Prod.mk.inj (Option.some.inj h)
            exact fr_iret F E rfl dX7_held_87
          · rw [if_neg hc15] at h
            refine fr_lsw (off := 48) (tgt := 88) F dX7_held_40 (by decide) (by show Op.lookupswitch.offset [(0, 28), (1, 38)] 48 _ = _; rw [lv_osw hc13 (by decide), lv_osw hc15 (by decide)]; rfl) (by decide) ?_
            refine fr_aload_n (q := 89) F dX7_held_88 rfl rfl ?_
            refine fr_gfR (q := 92) (j := 11) F dX7_held_89 rfl faRX7_51 (by decide) rfl rfl ?_
            refine fr_gfR (q := 95) (j := 15) F dX7_held_92 rfl faRX7_222 (by decide) rfl rfl ?_
            refine fr_iload_n (q := 96) F dX7_held_95 rfl rfl ?_
            obtain ⟨hi17, h⟩ := fr_ck_some h
            refine fr_ial (q := 97) (x := (n12 15 (Int32.toNatClampNeg a1))) F dX7_held_96 rfl hi17 (by decide) rfl rfl ?_
            obtain ⟨rfl, rfl⟩ := Prod.mk.inj (Option.some.inj h)
            exact fr_iret F E rfl dX7_held_97
      · rw [if_neg hc9] at h
        refine fr_ldc (q := 29) F dX7_held_27 rfl kcRX7_72 ?_
        obtain ⟨rfl, rfl⟩ := Prod.mk.inj (Option.some.inj h)
        exact fr_iret F E rfl dX7_held_29
/-! FeastRotaModel.held (52, None, None, None) -/
def fX8_held (a1 : Int32) (a2 : Int32) (a3 : Int32) (n0 : fr_N) : Option (Int32 × fr_N) := fr_bd (fX8_isFeast a1 n0) fun r1 => (if r1 = true then fr_bd (fX8_isYear a2) fun r4 => (if r4 = true then fr_bd (fX8_in (Int32.toInt64 a3) (0 : Int64) (2 : Int64)) fun r7 => (if r7 = true then fr_bd (fX8_lays a2 (-1000000 : Int32) n0) fun n12 => (if a3 = 0 then fr_ck a1 12 (some ((n12 9 (Int32.toNatClampNeg a1)), n12)) else if a3 = (1 : Int32) then fr_ck a1 12 (some ((n12 8 (Int32.toNatClampNeg a1)), n12)) else fr_ck a1 12 (some ((n12 10 (Int32.toNatClampNeg a1)), n12))) else some ((-1000001 : Int32), n0)) else some ((-1000001 : Int32), n0)) else some ((-1000001 : Int32), n0))
theorem tX8_held {l : Launch} {G : fr_G} {u0 : fr_N} {a1 : Int32} {a2 : Int32} {a3 : Int32} {n0 : fr_N} {rz : Int32} {nz : fr_N} (h : fX8_held a1 a2 a3 n0 = some (rz, nz)) : fr_Met l G YX8_held [.ref 52, .int a1, .int a2, .int a3] (u0, n0) (some (.int rz)) (u0, nz) := by
  refine fr_met (pad := List.replicate 0 none) (by decide) (Nat.le_of_ble_eq_true rfl) (fun _ h => List.eq_of_mem_replicate h) ⟨rfl, rfl⟩ (fun K F hG hL E => ?_)
  subst hG; subst hL
  rw [fX8_held] at h
  show fr_V YX8_held K 0 [some (.ref 52), some (.int a1), some (.int a2), some (.int a3)] [] (u0, n0)
  refine fr_aload_n (q := 1) F dX8_held_0 rfl rfl ?_
  refine fr_iload_n (q := 2) F dX8_held_1 rfl rfl ?_
  obtain ⟨r1, hr2, h⟩ := fr_bd_some h
  refine fr_callV (q := 5) (M' := (u0, n0)) (rest := []) (st' := [.int (fr_b r1)]) F dX8_held_2 rfl (tX8_isFeast hr2) mlRX8_252 msX8_isFeast ⟨Nat.le_of_ble_eq_true rfl, Nat.le_of_ble_eq_true rfl⟩ (by decide) rfl rfl rfl (Nat.le_of_ble_eq_true rfl) rfl ?_
  refine fr_if_eqb (q := 8) (tgt := 27) F dX8_held_5 (by decide) rfl (fun hc3 => ?_) (fun hc3 => ?_)
  · rw [if_neg hc3] at h
    refine fr_ldc (q := 29) F dX8_held_27 rfl kcRX8_209 ?_
    obtain ⟨rfl, rfl⟩ := Prod.mk.inj (Option.some.inj h)
    exact fr_iret F E rfl dX8_held_29
  · rw [if_pos hc3] at h
    refine fr_iload_n (q := 9) F dX8_held_8 rfl rfl ?_
    obtain ⟨r4, hr5, h⟩ := fr_bd_some h
    refine fr_callS (q := 12) (M' := (u0, n0)) (rest := []) (st' := [.int (fr_b r4)]) F dX8_held_9 rfl (tX8_isYear hr5) mlRX8_283 msX8_isYear ⟨Nat.le_of_ble_eq_true rfl, Nat.le_of_ble_eq_true rfl⟩ rfl rfl (Nat.le_of_ble_eq_true rfl) rfl ?_
    refine fr_if_eqb (q := 15) (tgt := 27) F dX8_held_12 (by decide) rfl (fun hc6 => ?_) (fun hc6 => ?_)
    · rw [if_neg hc6] at h
      refine fr_ldc (q := 29) F dX8_held_27 rfl kcRX8_209 ?_
      obtain ⟨rfl, rfl⟩ := Prod.mk.inj (Option.some.inj h)
      exact fr_iret F E rfl dX8_held_29
    · rw [if_pos hc6] at h
      refine fr_iload_n (q := 16) F dX8_held_15 rfl rfl ?_
      refine fr_i2l (q := 17) F dX8_held_16 rfl ?_
      refine fr_lconst (q := 18) (v := 0) F dX8_held_17 rfl (by decide) ?_
      refine fr_ldc2 (q := 21) F dX8_held_18 rfl klRX8_265 ?_
      obtain ⟨r7, hr8, h⟩ := fr_bd_some h
      refine fr_callS (q := 24) (M' := (u0, n0)) (rest := []) (st' := [.int (fr_b r7)]) F dX8_held_21 rfl (tX8_in hr8) mlRX8_55 msX8_in ⟨Nat.le_of_ble_eq_true rfl, Nat.le_of_ble_eq_true rfl⟩ rfl rfl (Nat.le_of_ble_eq_true rfl) rfl ?_
      refine fr_if_neb (q := 27) (tgt := 30) F dX8_held_24 (by decide) rfl (fun hc9 => ?_) (fun hc9 => ?_)
      · rw [if_pos hc9] at h
        refine fr_aload_n (q := 31) F dX8_held_30 rfl rfl ?_
        refine fr_iload_n (q := 32) F dX8_held_31 rfl rfl ?_
        refine fr_ldc (q := 34) F dX8_held_32 rfl kcRX8_90 ?_
        obtain ⟨n12, hr11, h⟩ := fr_bd_some h
        refine fr_callV (q := 37) (M' := (u0, n12)) (rest := []) (st' := []) F dX8_held_34 rfl (tX8_lays hr11) mlRX8_288 msX8_lays ⟨Nat.le_of_ble_eq_true rfl, Nat.le_of_ble_eq_true rfl⟩ (by decide) rfl rfl rfl (Nat.le_of_ble_eq_true rfl) rfl ?_
        refine fr_iload_n (q := 38) F dX8_held_37 rfl rfl ?_
        refine fr_if_ne (q := 41) (tgt := 50) F dX8_held_38 (by decide) rfl (fun hc13 => ?_) (fun hc13 => ?_)
        · rw [if_neg hc13] at h
          refine fr_iload_n (q := 51) F dX8_held_50 rfl rfl ?_
          refine fr_iconst (q := 52) (v := 1) F dX8_held_51 rfl (by decide) ?_
          refine fr_icmp_ne (q := 55) (tgt := 64) F dX8_held_52 (by decide) rfl (fun hc14 => ?_) (fun hc14 => ?_)
          · rw [if_neg hc14] at h
            refine fr_aload_n (q := 65) F dX8_held_64 rfl rfl ?_
            refine fr_gfR (q := 68) (j := 62) F dX8_held_65 rfl faRX8_38 (by decide) rfl rfl ?_
            refine fr_iload_n (q := 69) F dX8_held_68 rfl rfl ?_
            obtain ⟨hi15, h⟩ := fr_ck_some h
            refine fr_ial (q := 70) (x := (n12 10 (Int32.toNatClampNeg a1))) F dX8_held_69 rfl hi15 (by decide) rfl rfl ?_
            obtain ⟨rfl, rfl⟩ := Prod.mk.inj (Option.some.inj h)
            exact fr_iret F E rfl dX8_held_70
          · rw [if_pos hc14] at h
            refine fr_aload_n (q := 56) F dX8_held_55 rfl rfl ?_
            refine fr_gfR (q := 59) (j := 60) F dX8_held_56 rfl faRX8_32 (by decide) rfl rfl ?_
            refine fr_iload_n (q := 60) F dX8_held_59 rfl rfl ?_
            obtain ⟨hi16, h⟩ := fr_ck_some h
            refine fr_ial (q := 61) (x := (n12 8 (Int32.toNatClampNeg a1))) F dX8_held_60 rfl hi16 (by decide) rfl rfl ?_
            refine fr_goto (tgt := 70) F dX8_held_61 (by decide) ?_
            obtain ⟨rfl, rfl⟩ := Prod.mk.inj (Option.some.inj h)
            exact fr_iret F E rfl dX8_held_70
        · rw [if_pos hc13] at h
          refine fr_aload_n (q := 42) F dX8_held_41 rfl rfl ?_
          refine fr_gfR (q := 45) (j := 61) F dX8_held_42 rfl faRX8_35 (by decide) rfl rfl ?_
          refine fr_iload_n (q := 46) F dX8_held_45 rfl rfl ?_
          obtain ⟨hi17, h⟩ := fr_ck_some h
          refine fr_ial (q := 47) (x := (n12 9 (Int32.toNatClampNeg a1))) F dX8_held_46 rfl hi17 (by decide) rfl rfl ?_
          refine fr_goto (tgt := 70) F dX8_held_47 (by decide) ?_
          obtain ⟨rfl, rfl⟩ := Prod.mk.inj (Option.some.inj h)
          exact fr_iret F E rfl dX8_held_70
      · rw [if_neg hc9] at h
        refine fr_ldc (q := 29) F dX8_held_27 rfl kcRX8_209 ?_
        obtain ⟨rfl, rfl⟩ := Prod.mk.inj (Option.some.inj h)
        exact fr_iret F E rfl dX8_held_29
/-! FeastRota$Plan.isReadingDay (11, None) -/
def fX3_isReadingDay (a1 : Int32) (n0 : fr_N) : Option Bool := fr_bd (fX3_rankOf a1 n0) fun r1 => (if (3 : Int32) < r1 then some false else some true)
theorem tX3_isReadingDay {l : Launch} {G : fr_G} {u0 : fr_N} {a1 : Int32} {n0 : fr_N} {rz : Bool} (h : fX3_isReadingDay a1 n0 = some rz) : fr_Met l G YX3_isReadingDay [.ref 11, .int a1] (n0, u0) (some (.int (fr_b rz))) (n0, u0) := by
  refine fr_met (pad := List.replicate 0 none) (by decide) (Nat.le_of_ble_eq_true rfl) (fun _ h => List.eq_of_mem_replicate h) ⟨rfl, rfl⟩ (fun K F hG hL E => ?_)
  subst hG; subst hL
  rw [fX3_isReadingDay] at h
  show fr_V YX3_isReadingDay K 0 [some (.ref 11), some (.int a1)] [] (n0, u0)
  refine fr_aload_n (q := 1) F dX3_isReadingDay_0 rfl rfl ?_
  refine fr_iload_n (q := 2) F dX3_isReadingDay_1 rfl rfl ?_
  obtain ⟨r1, hr2, h⟩ := fr_bd_some h
  refine fr_callV (q := 5) (M' := (n0, u0)) (rest := []) (st' := [.int r1]) F dX3_isReadingDay_2 rfl (tX3_rankOf hr2) mlRX3_119 msX3_rankOf ⟨Nat.le_of_ble_eq_true rfl, Nat.le_of_ble_eq_true rfl⟩ (by decide) rfl rfl rfl (Nat.le_of_ble_eq_true rfl) rfl ?_
  refine fr_iconst (q := 6) (v := 3) F dX3_isReadingDay_5 rfl (by decide) ?_
  refine fr_icmp_gt (q := 9) (tgt := 13) F dX3_isReadingDay_6 (by decide) rfl (fun hc3 => ?_) (fun hc3 => ?_)
  · rw [if_pos hc3] at h
    refine fr_iconst (q := 14) (v := 0) F dX3_isReadingDay_13 rfl (by decide) ?_
    obtain rfl := Option.some.inj h
    exact fr_zret F E rfl dX3_isReadingDay_14
  · rw [if_neg hc3] at h
    refine fr_iconst (q := 10) (v := 1) F dX3_isReadingDay_9 rfl (by decide) ?_
    refine fr_goto (tgt := 14) F dX3_isReadingDay_10 (by decide) ?_
    obtain rfl := Option.some.inj h
    exact fr_zret F E rfl dX3_isReadingDay_14
/-! FeastRota$Plan.readingDays (11, None) -/
def fX3_readingDays_4 (n0 : fr_N) : Nat → Int32 → Int32 → Int32 → Option Int32
  | 0, _, _, _ => none
  | k + 1, x1, x2, x3 => if x1 < x3 then some x2 else fr_bd (fX3_isReadingDay x3 n0) fun r2 => (if r2 = true then (fX3_readingDays_4 n0 k) x1 (x2 + (1 : Int32)) (x3 + (1 : Int32)) else (fX3_readingDays_4 n0 k) x1 (x2 + (0 : Int32)) (x3 + (1 : Int32)))
def fX3_readingDays (a1 : Int32) (n0 : fr_N) : Option Int32 := fX3_readingDays_4 n0 2000 a1 (0 : Int32) (1 : Int32)
theorem tX3_readingDays_4 {K : fr_K} {u0 : fr_N} {n0 : fr_N} {rz : Int32} (F : fr_F YX3_readingDays K) (E : fr_R YX3_readingDays K (some (.int rz)) (n0, u0)) : ∀ (k : Nat) (x1 : Int32) (x2 : Int32) (x3 : Int32), fX3_readingDays_4 n0 k x1 x2 x3 = some rz → fr_V YX3_readingDays K 4 [some (.ref 11), some (.int x1), some (.int x2), some (.int x3)] [] (n0, u0) := by
  intro k
  induction k with
  | zero =>
    intro x1 x2 x3 h
    rw [fX3_readingDays_4] at h
    cases h
  | succ k ih =>
    intro x1 x2 x3 h
    rw [fX3_readingDays_4] at h
    refine fr_iload_n (q := 5) F dX3_readingDays_4 rfl rfl ?_
    refine fr_iload_n (q := 6) F dX3_readingDays_5 rfl rfl ?_
    refine fr_icmp_gt (q := 9) (tgt := 31) F dX3_readingDays_6 (by decide) rfl (fun hc1 => ?_) (fun hc1 => ?_)
    · rw [if_pos hc1] at h
      refine fr_iload_n (q := 32) F dX3_readingDays_31 rfl rfl ?_
      obtain rfl := Option.some.inj h
      exact fr_iret F E rfl dX3_readingDays_32
    · rw [if_neg hc1] at h
      refine fr_iload_n (q := 10) F dX3_readingDays_9 rfl rfl ?_
      refine fr_aload_n (q := 11) F dX3_readingDays_10 rfl rfl ?_
      refine fr_iload_n (q := 12) F dX3_readingDays_11 rfl rfl ?_
      obtain ⟨r2, hr3, h⟩ := fr_bd_some h
      refine fr_callV (q := 15) (M' := (n0, u0)) (rest := [.int x2]) (st' := [.int (fr_b r2), .int x2]) F dX3_readingDays_12 rfl (tX3_isReadingDay hr3) mlRX3_128 msX3_isReadingDay ⟨Nat.le_of_ble_eq_true rfl, Nat.le_of_ble_eq_true rfl⟩ (by decide) rfl rfl rfl (Nat.le_of_ble_eq_true rfl) rfl ?_
      refine fr_if_eqb (q := 18) (tgt := 22) F dX3_readingDays_15 (by decide) rfl (fun hc4 => ?_) (fun hc4 => ?_)
      · rw [if_neg hc4] at h
        refine fr_iconst (q := 23) (v := 0) F dX3_readingDays_22 rfl (by decide) ?_
        refine fr_iadd (q := 24) F dX3_readingDays_23 rfl ?_
        refine fr_istore_n (q := 25) F dX3_readingDays_24 rfl (by decide) rfl ?_
        refine fr_iinc (q := 28) (v := (x3 + (1 : Int32))) F dX3_readingDays_25 rfl rfl rfl (by decide) rfl ?_
        refine fr_goto (tgt := 4) F dX3_readingDays_28 (by decide) ?_
        exact fr_wj (ih _ _ _ h) ⟨rfl, ⟨rfl, ⟨rfl, ⟨rfl, trivial⟩⟩⟩⟩
      · rw [if_pos hc4] at h
        refine fr_iconst (q := 19) (v := 1) F dX3_readingDays_18 rfl (by decide) ?_
        refine fr_goto (tgt := 23) F dX3_readingDays_19 (by decide) ?_
        refine fr_iadd (q := 24) F dX3_readingDays_23 rfl ?_
        refine fr_istore_n (q := 25) F dX3_readingDays_24 rfl (by decide) rfl ?_
        refine fr_iinc (q := 28) (v := (x3 + (1 : Int32))) F dX3_readingDays_25 rfl rfl rfl (by decide) rfl ?_
        refine fr_goto (tgt := 4) F dX3_readingDays_28 (by decide) ?_
        exact fr_wj (ih _ _ _ h) ⟨rfl, ⟨rfl, ⟨rfl, ⟨rfl, trivial⟩⟩⟩⟩
theorem tX3_readingDays {l : Launch} {G : fr_G} {u0 : fr_N} {a1 : Int32} {n0 : fr_N} {rz : Int32} (h : fX3_readingDays a1 n0 = some rz) : fr_Met l G YX3_readingDays [.ref 11, .int a1] (n0, u0) (some (.int rz)) (n0, u0) := by
  refine fr_met (pad := List.replicate 2 none) (by decide) (Nat.le_of_ble_eq_true rfl) (fun _ h => List.eq_of_mem_replicate h) ⟨rfl, rfl⟩ (fun K F hG hL E => ?_)
  subst hG; subst hL
  rw [fX3_readingDays] at h
  show fr_V YX3_readingDays K 0 [some (.ref 11), some (.int a1), none, none] [] (n0, u0)
  refine fr_iconst (q := 1) (v := 0) F dX3_readingDays_0 rfl (by decide) ?_
  refine fr_istore_n (q := 2) F dX3_readingDays_1 rfl (by decide) rfl ?_
  refine fr_iconst (q := 3) (v := 1) F dX3_readingDays_2 rfl (by decide) ?_
  refine fr_istore_n (q := 4) F dX3_readingDays_3 rfl (by decide) rfl ?_
  exact fr_wj (tX3_readingDays_4 F E _ _ _ _ h) ⟨rfl, ⟨rfl, ⟨rfl, ⟨rfl, trivial⟩⟩⟩⟩
/-! FeastRota.psalm (0, None, None, None) -/
def fX7_psalm_123 (x5 : Int32) (s0 : Int32) (n0 : fr_N) : Option (Int32 × fr_N) := fr_nz x5 (some (((fr_rem s0 x5) + (1 : Int32)), n0))
def fX7_psalm (a1 : Int32) (a2 : Int32) (a3 : Int32) (n0 : fr_N) : Option (Int32 × fr_N) := if (n0 3 0) = 0 then some ((-1000002 : Int32), n0) else fr_bd (fX7_isDay a1 a2 n0) fun r3 => (if r3 = true then fr_bd (fX7_within a3 (0 : Int32) (2 : Int32)) fun r6 => (if r6 = true then fr_bd (fX3_lay a1 (-1 : Int32) n0) fun n11 => (fr_bd (fX3_readingDays a2 n11) fun r12 => (if a3 = (2 : Int32) then fr_nz (if (1 : Int32) < (n11 4 3) then (n11 4 3) else (1 : Int32)) (some (((r12 * (n11 4 4)) / (if (1 : Int32) < (n11 4 3) then (n11 4 3) else (1 : Int32))), n11)) else fr_bd (fX3_isReadingDay a2 n11) fun r15 => (if r15 = true then if a3 = 0 then fX7_psalm_123 (if (1 : Int32) < (n11 4 3) then (n11 4 3) else (1 : Int32)) ((r12 * (n11 4 4)) - (n11 4 4)) n11 else fX7_psalm_123 (if (1 : Int32) < (n11 4 3) then (n11 4 3) else (1 : Int32)) ((r12 * (n11 4 4)) - (1 : Int32)) n11 else some ((-1000000 : Int32), n11)))) else some ((-1000001 : Int32), n0)) else some ((-1000001 : Int32), n0))
theorem tX7_psalm_123 {K : fr_K} {u0 : fr_N} {rz : Int32} {nz : fr_N} (F : fr_F YX7_psalm K) (E : fr_R YX7_psalm K (some (.int rz)) (nz, u0)) {x5 : Int32} {s0 : Int32} {n0 : fr_N} (h : fX7_psalm_123 x5 s0 n0 = some (rz, nz)) : fr_V YX7_psalm K 123 [none, none, none, none, none, some (.int x5), none] [.int s0] (n0, u0) := by
  rw [fX7_psalm_123] at h
  refine fr_iload (q := 125) F dX7_psalm_123 rfl rfl ?_
  obtain ⟨hz1, h⟩ := fr_nz_some h
  refine fr_irem (q := 126) F dX7_psalm_125 rfl hz1 ?_
  refine fr_iconst (q := 127) (v := 1) F dX7_psalm_126 rfl (by decide) ?_
  refine fr_iadd (q := 128) F dX7_psalm_127 rfl ?_
  obtain ⟨rfl, rfl⟩ := Prod.mk.inj (Option.some.inj h)
  exact fr_iret F E rfl dX7_psalm_128
theorem tX7_psalm {l : Launch} {G : fr_G} {u0 : fr_N} {a1 : Int32} {a2 : Int32} {a3 : Int32} {n0 : fr_N} {rz : Int32} {nz : fr_N} (h : fX7_psalm a1 a2 a3 n0 = some (rz, nz)) : fr_Met l G YX7_psalm [.ref 0, .int a1, .int a2, .int a3] (n0, u0) (some (.int rz)) (nz, u0) := by
  refine fr_met (pad := List.replicate 3 none) (by decide) (Nat.le_of_ble_eq_true rfl) (fun _ h => List.eq_of_mem_replicate h) ⟨rfl, rfl⟩ (fun K F hG hL E => ?_)
  subst hG; subst hL
  rw [fX7_psalm] at h
  show fr_V YX7_psalm K 0 [some (.ref 0), some (.int a1), some (.int a2), some (.int a3), none, none, none] [] (n0, u0)
  refine fr_aload_n (q := 1) F dX7_psalm_0 rfl rfl ?_
  refine fr_gfR (q := 4) (j := 3) F dX7_psalm_1 rfl faRX7_36 (by decide) rfl rfl ?_
  refine fr_gfI (q := 7) (x := (n0 3 0)) F dX7_psalm_4 rfl faRX7_128 (by decide) rfl rfl rfl ?_
  refine fr_if_ne (q := 10) (tgt := 13) F dX7_psalm_7 (by decide) rfl (fun hc2 => ?_) (fun hc2 => ?_)
  · rw [if_neg hc2] at h
    refine fr_aload_n (q := 14) F dX7_psalm_13 rfl rfl ?_
    refine fr_iload_n (q := 15) F dX7_psalm_14 rfl rfl ?_
    refine fr_iload_n (q := 16) F dX7_psalm_15 rfl rfl ?_
    obtain ⟨r3, hr4, h⟩ := fr_bd_some h
    refine fr_callV (q := 19) (M' := (n0, u0)) (rest := []) (st' := [.int (fr_b r3)]) F dX7_psalm_16 rfl (tX7_isDay hr4) mlRX7_193 msX7_isDay ⟨Nat.le_of_ble_eq_true rfl, Nat.le_of_ble_eq_true rfl⟩ (by decide) rfl rfl rfl (Nat.le_of_ble_eq_true rfl) rfl ?_
    refine fr_if_eqb (q := 22) (tgt := 31) F dX7_psalm_19 (by decide) rfl (fun hc5 => ?_) (fun hc5 => ?_)
    · rw [if_neg hc5] at h
      refine fr_ldc (q := 33) F dX7_psalm_31 rfl kcRX7_72 ?_
      obtain ⟨rfl, rfl⟩ := Prod.mk.inj (Option.some.inj h)
      exact fr_iret F E rfl dX7_psalm_33
    · rw [if_pos hc5] at h
      refine fr_iload_n (q := 23) F dX7_psalm_22 rfl rfl ?_
      refine fr_iconst (q := 24) (v := 0) F dX7_psalm_23 rfl (by decide) ?_
      refine fr_iconst (q := 25) (v := 2) F dX7_psalm_24 rfl (by decide) ?_
      obtain ⟨r6, hr7, h⟩ := fr_bd_some h
      refine fr_callS (q := 28) (M' := (n0, u0)) (rest := []) (st' := [.int (fr_b r6)]) F dX7_psalm_25 rfl (tX7_within hr7) mlRX7_68 msX7_within ⟨Nat.le_of_ble_eq_true rfl, Nat.le_of_ble_eq_true rfl⟩ rfl rfl (Nat.le_of_ble_eq_true rfl) rfl ?_
      refine fr_if_neb (q := 31) (tgt := 34) F dX7_psalm_28 (by decide) rfl (fun hc8 => ?_) (fun hc8 => ?_)
      · rw [if_pos hc8] at h
        refine fr_aload_n (q := 35) F dX7_psalm_34 rfl rfl ?_
        refine fr_gfR (q := 38) (j := 11) F dX7_psalm_35 rfl faRX7_51 (by decide) rfl rfl ?_
        refine fr_iload_n (q := 39) F dX7_psalm_38 rfl rfl ?_
        refine fr_iconst (q := 40) (v := (-1)) F dX7_psalm_39 rfl (by decide) ?_
        obtain ⟨n11, hr10, h⟩ := fr_bd_some h
        refine fr_callV (q := 43) (M' := (n11, u0)) (rest := []) (st' := []) F dX7_psalm_40 rfl (tX3_lay hr10) mlRX7_156 msX3_lay ⟨Nat.le_of_ble_eq_true rfl, Nat.le_of_ble_eq_true rfl⟩ (by decide) rfl rfl rfl (Nat.le_of_ble_eq_true rfl) rfl ?_
        refine fr_aload_n (q := 44) F dX7_psalm_43 rfl rfl ?_
        refine fr_gfR (q := 47) (j := 3) F dX7_psalm_44 rfl faRX7_36 (by decide) rfl rfl ?_
        refine fr_gfR (q := 50) (j := 4) F dX7_psalm_47 rfl faRX7_141 (by decide) rfl rfl ?_
        refine fr_iconst (q := 51) (v := 4) F dX7_psalm_50 rfl (by decide) ?_
        refine fr_ial (q := 52) (x := (n11 4 4)) F dX7_psalm_51 rfl (fr_vin rfl) (by decide) rfl rfl ?_
        refine fr_istore (q := 54) F dX7_psalm_52 rfl (by decide) rfl ?_
        refine fr_iconst (q := 55) (v := 1) F dX7_psalm_54 rfl (by decide) ?_
        refine fr_aload_n (q := 56) F dX7_psalm_55 rfl rfl ?_
        refine fr_gfR (q := 59) (j := 3) F dX7_psalm_56 rfl faRX7_36 (by decide) rfl rfl ?_
        refine fr_gfR (q := 62) (j := 4) F dX7_psalm_59 rfl faRX7_141 (by decide) rfl rfl ?_
        refine fr_iconst (q := 63) (v := 3) F dX7_psalm_62 rfl (by decide) ?_
        refine fr_ial (q := 64) (x := (n11 4 3)) F dX7_psalm_63 rfl (fr_vin rfl) (by decide) rfl rfl ?_
        refine fr_max (q := 67) F dX7_psalm_64 rfl mlRX7_225 mm_max ⟨Nat.le_of_ble_eq_true rfl, Nat.le_of_ble_eq_true rfl⟩ ?_
        refine fr_istore (q := 69) F dX7_psalm_67 rfl (by decide) rfl ?_
        refine fr_aload_n (q := 70) F dX7_psalm_69 rfl rfl ?_
        refine fr_gfR (q := 73) (j := 11) F dX7_psalm_70 rfl faRX7_51 (by decide) rfl rfl ?_
        refine fr_iload_n (q := 74) F dX7_psalm_73 rfl rfl ?_
        obtain ⟨r12, hr13, h⟩ := fr_bd_some h
        refine fr_callV (q := 77) (M' := (n11, u0)) (rest := []) (st' := [.int r12]) F dX7_psalm_74 rfl (tX3_readingDays hr13) mlRX7_230 msX3_readingDays ⟨Nat.le_of_ble_eq_true rfl, Nat.le_of_ble_eq_true rfl⟩ (by decide) rfl rfl rfl (Nat.le_of_ble_eq_true rfl) rfl ?_
        refine fr_iload (q := 79) F dX7_psalm_77 rfl rfl ?_
        refine fr_imul (q := 80) F dX7_psalm_79 rfl ?_
        refine fr_istore (q := 82) F dX7_psalm_80 rfl (by decide) rfl ?_
        refine fr_iload_n (q := 83) F dX7_psalm_82 rfl rfl ?_
        refine fr_iconst (q := 84) (v := 2) F dX7_psalm_83 rfl (by decide) ?_
        refine fr_icmp_ne (q := 87) (tgt := 93) F dX7_psalm_84 (by decide) rfl (fun hc14 => ?_) (fun hc14 => ?_)
        · rw [if_neg hc14] at h
          refine fr_aload_n (q := 94) F dX7_psalm_93 rfl rfl ?_
          refine fr_gfR (q := 97) (j := 11) F dX7_psalm_94 rfl faRX7_51 (by decide) rfl rfl ?_
          refine fr_iload_n (q := 98) F dX7_psalm_97 rfl rfl ?_
          obtain ⟨r15, hr16, h⟩ := fr_bd_some h
          refine fr_callV (q := 101) (M' := (n11, u0)) (rest := []) (st' := [.int (fr_b r15)]) F dX7_psalm_98 rfl (tX3_isReadingDay hr16) mlRX7_233 msX3_isReadingDay ⟨Nat.le_of_ble_eq_true rfl, Nat.le_of_ble_eq_true rfl⟩ (by decide) rfl rfl rfl (Nat.le_of_ble_eq_true rfl) rfl ?_
          refine fr_if_neb (q := 104) (tgt := 107) F dX7_psalm_101 (by decide) rfl (fun hc17 => ?_) (fun hc17 => ?_)
          · rw [if_pos hc17] at h
            refine fr_iload_n (q := 108) F dX7_psalm_107 rfl rfl ?_
            refine fr_if_ne (q := 111) (tgt := 119) F dX7_psalm_108 (by decide) rfl (fun hc18 => ?_) (fun hc18 => ?_)
            · rw [if_neg hc18] at h
              refine fr_iload (q := 121) F dX7_psalm_119 rfl rfl ?_
              refine fr_iconst (q := 122) (v := 1) F dX7_psalm_121 rfl (by decide) ?_
              refine fr_isub (q := 123) F dX7_psalm_122 rfl ?_
              exact fr_wj (tX7_psalm_123 F E h) ⟨rfl, trivial⟩
            · rw [if_pos hc18] at h
              refine fr_iload (q := 113) F dX7_psalm_111 rfl rfl ?_
              refine fr_iload (q := 115) F dX7_psalm_113 rfl rfl ?_
              refine fr_isub (q := 116) F dX7_psalm_115 rfl ?_
              refine fr_goto (tgt := 123) F dX7_psalm_116 (by decide) ?_
              exact fr_wj (tX7_psalm_123 F E h) ⟨rfl, trivial⟩
          · rw [if_neg hc17] at h
            refine fr_ldc (q := 106) F dX7_psalm_104 rfl kcRX7_203 ?_
            obtain ⟨rfl, rfl⟩ := Prod.mk.inj (Option.some.inj h)
            exact fr_iret F E rfl dX7_psalm_106
        · rw [if_pos hc14] at h
          refine fr_iload (q := 89) F dX7_psalm_87 rfl rfl ?_
          refine fr_iload (q := 91) F dX7_psalm_89 rfl rfl ?_
          obtain ⟨hz19, h⟩ := fr_nz_some h
          refine fr_idiv (q := 92) F dX7_psalm_91 rfl hz19 ?_
          obtain ⟨rfl, rfl⟩ := Prod.mk.inj (Option.some.inj h)
          exact fr_iret F E rfl dX7_psalm_92
      · rw [if_neg hc8] at h
        refine fr_ldc (q := 33) F dX7_psalm_31 rfl kcRX7_72 ?_
        obtain ⟨rfl, rfl⟩ := Prod.mk.inj (Option.some.inj h)
        exact fr_iret F E rfl dX7_psalm_33
  · rw [if_pos hc2] at h
    refine fr_ldc (q := 12) F dX7_psalm_10 rfl kcRX7_105 ?_
    obtain ⟨rfl, rfl⟩ := Prod.mk.inj (Option.some.inj h)
    exact fr_iret F E rfl dX7_psalm_12
