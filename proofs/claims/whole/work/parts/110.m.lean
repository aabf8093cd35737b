/-! FeastRotaModel.bars (52, None, None) -/
def fX8_bars_51 : Nat → Int32 → Int32 → Int32 → Int32 → fr_N → Option (Int32 × fr_N)
  | 0, _, _, _, _, _ => none
  | k + 1, x1, x2, x3, x4, n0 => if (n0 1 6) ≤ x4 then some (x3, n0) else if x4 = x1 then (fX8_bars_51 k) x1 x2 x3 (x4 + (1 : Int32)) n0 else fr_bd (fX8_lays x2 x4 n0) fun n5 => (fr_ck x1 12 (if (n5 9 (Int32.toNatClampNeg x1)) = (1 : Int32) then (fX8_bars_51 k) x1 x2 (x3 ||| ((1 : Int32) <<< (x4 &&& 31))) (x4 + (1 : Int32)) n5 else (fX8_bars_51 k) x1 x2 (x3 ||| (0 : Int32)) (x4 + (1 : Int32)) n5))
def fX8_bars (a1 : Int32) (a2 : Int32) (n0 : fr_N) : Option (Int32 × fr_N) := fr_bd (fX8_isFeast a1 n0) fun r8 => (if r8 = true then fr_bd (fX8_isYear a2) fun r11 => (if r11 = true then fr_bd (fX8_lays a2 (-1000000 : Int32) n0) fun n16 => (fr_ck a1 12 (if (n16 9 (Int32.toNatClampNeg a1)) = 0 then some ((0 : Int32), n16) else fr_ck a1 12 (if (n16 9 (Int32.toNatClampNeg a1)) = (1 : Int32) then some ((0 : Int32), n16) else fX8_bars_51 2000 a1 a2 (0 : Int32) (0 : Int32) n16))) else some ((-1000001 : Int32), n0)) else some ((-1000001 : Int32), n0))
theorem tX8_bars_51 {K : fr_K} {u0 : fr_N} {rz : Int32} {nz : fr_N} (F : fr_F YX8_bars K) (E : fr_R YX8_bars K (some (.int rz)) (u0, nz)) : ∀ (k : Nat) (x1 : Int32) (x2 : Int32) (x3 : Int32) (x4 : Int32) (n0 : fr_N), fX8_bars_51 k x1 x2 x3 x4 n0 = some (rz, nz) → fr_V YX8_bars K 51 [some (.ref 52), some (.int x1), some (.int x2), some (.int x3), some (.int x4)] [] (u0, n0) := by
  intro k
  induction k with
  | zero =>
    intro x1 x2 x3 x4 n0 h
    rw [fX8_bars_51] at h
    cases h
  | succ k ih =>
    intro x1 x2 x3 x4 n0 h
    rw [fX8_bars_51] at h
    refine fr_iload (q := 53) F dX8_bars_51 rfl rfl ?_
    refine fr_aload_n (q := 54) F dX8_bars_53 rfl rfl ?_
    refine fr_gfR (q := 57) (j := 53) F dX8_bars_54 rfl faRX8_7 (by decide) rfl rfl ?_
    refine fr_bipush (q := 59) (v := 6) F dX8_bars_57 rfl (by decide) ?_
    refine fr_ial (q := 60) (x := (n0 1 6)) F dX8_bars_59 rfl (fr_vin rfl) (by decide) rfl rfl ?_
    refine fr_icmp_ge (q := 63) (tgt := 103) F dX8_bars_60 (by decide) rfl (fun hc1 => ?_) (fun hc1 => ?_)
    · rw [if_pos hc1] at h
      refine fr_iload_n (q := 104) F dX8_bars_103 rfl rfl ?_
      obtain ⟨rfl, rfl⟩ := Prod.mk.inj (Option.some.inj h)
      exact fr_iret F E rfl dX8_bars_104
    · rw [if_neg hc1] at h
      refine fr_iload (q := 65) F dX8_bars_63 rfl rfl ?_
      refine fr_iload_n (q := 66) F dX8_bars_65 rfl rfl ?_
      refine fr_icmp_eq (q := 69) (tgt := 97) F dX8_bars_66 (by decide) rfl (fun hc2 => ?_) (fun hc2 => ?_)
      · rw [if_pos hc2] at h
        refine fr_iinc (q := 100) (v := (x4 + (1 : Int32))) F dX8_bars_97 rfl rfl rfl (by decide) rfl ?_
        refine fr_goto (tgt := 51) F dX8_bars_100 (by decide) ?_
        exact fr_wj (ih _ _ _ _ _ h) ⟨rfl, ⟨rfl, ⟨rfl, ⟨rfl, ⟨rfl, trivial⟩⟩⟩⟩⟩
      · rw [if_neg hc2] at h
        refine fr_aload_n (q := 70) F dX8_bars_69 rfl rfl ?_
        refine fr_iload_n (q := 71) F dX8_bars_70 rfl rfl ?_
        refine fr_iload (q := 73) F dX8_bars_71 rfl rfl ?_
        obtain ⟨n5, hr4, h⟩ := fr_bd_some h
        refine fr_callV (q := 76) (M' := (u0, n5)) (rest := []) (st' := []) F dX8_bars_73 rfl (tX8_lays hr4) mlRX8_288 msX8_lays ⟨Nat.le_of_ble_eq_true rfl, Nat.le_of_ble_eq_true rfl⟩ (by decide) rfl rfl rfl (Nat.le_of_ble_eq_true rfl) rfl ?_
        refine fr_iload_n (q := 77) F dX8_bars_76 rfl rfl ?_
        refine fr_aload_n (q := 78) F dX8_bars_77 rfl rfl ?_
        refine fr_gfR (q := 81) (j := 61) F dX8_bars_78 rfl faRX8_35 (by decide) rfl rfl ?_
        refine fr_iload_n (q := 82) F dX8_bars_81 rfl rfl ?_
        obtain ⟨hi6, h⟩ := fr_ck_some h
        refine fr_ial (q := 83) (x := (n5 9 (Int32.toNatClampNeg x1))) F dX8_bars_82 rfl hi6 (by decide) rfl rfl ?_
        refine fr_iconst (q := 84) (v := 1) F dX8_bars_83 rfl (by decide) ?_
        refine fr_icmp_ne (q := 87) (tgt := 94) F dX8_bars_84 (by decide) rfl (fun hc7 => ?_) (fun hc7 => ?_)
        · rw [if_neg hc7] at h
          refine fr_iconst (q := 95) (v := 0) F dX8_bars_94 rfl (by decide) ?_
          refine fr_ior (q := 96) F dX8_bars_95 rfl ?_
          refine fr_istore_n (q := 97) F dX8_bars_96 rfl (by decide) rfl ?_
          refine fr_iinc (q := 100) (v := (x4 + (1 : Int32))) F dX8_bars_97 rfl rfl rfl (by decide) rfl ?_
          refine fr_goto (tgt := 51) F dX8_bars_100 (by decide) ?_
          exact fr_wj (ih _ _ _ _ _ h) ⟨rfl, ⟨rfl, ⟨rfl, ⟨rfl, ⟨rfl, trivial⟩⟩⟩⟩⟩
        · rw [if_pos hc7] at h
          refine fr_iconst (q := 88) (v := 1) F dX8_bars_87 rfl (by decide) ?_
          refine fr_iload (q := 90) F dX8_bars_88 rfl rfl ?_
          refine fr_ishl (q := 91) F dX8_bars_90 rfl ?_
          refine fr_goto (tgt := 95) F dX8_bars_91 (by decide) ?_
          refine fr_ior (q := 96) F dX8_bars_95 rfl ?_
          refine fr_istore_n (q := 97) F dX8_bars_96 rfl (by decide) rfl ?_
          refine fr_iinc (q := 100) (v := (x4 + (1 : Int32))) F dX8_bars_97 rfl rfl rfl (by decide) rfl ?_
          refine fr_goto (tgt := 51) F dX8_bars_100 (by decide) ?_
          exact fr_wj (ih _ _ _ _ _ h) ⟨rfl, ⟨rfl, ⟨rfl, ⟨rfl, ⟨rfl, trivial⟩⟩⟩⟩⟩
theorem tX8_bars {l : Launch} {G : fr_G} {u0 : fr_N} {a1 : Int32} {a2 : Int32} {n0 : fr_N} {rz : Int32} {nz : fr_N} (h : fX8_bars a1 a2 n0 = some (rz, nz)) : fr_Met l G YX8_bars [.ref 52, .int a1, .int a2] (u0, n0) (some (.int rz)) (u0, nz) := by
  refine fr_met (pad := List.replicate 2 none) (by decide) (Nat.le_of_ble_eq_true rfl) (fun _ h => List.eq_of_mem_replicate h) ⟨rfl, rfl⟩ (fun K F hG hL E => ?_)
  subst hG; subst hL
  rw [fX8_bars] at h
  show fr_V YX8_bars K 0 [some (.ref 52), some (.int a1), some (.int a2), none, none] [] (u0, n0)
  refine fr_aload_n (q := 1) F dX8_bars_0 rfl rfl ?_
  refine fr_iload_n (q := 2) F dX8_bars_1 rfl rfl ?_
  obtain ⟨r8, hr9, h⟩ := fr_bd_some h
  refine fr_callV (q := 5) (M' := (u0, n0)) (rest := []) (st' := [.int (fr_b r8)]) F dX8_bars_2 rfl (tX8_isFeast hr9) mlRX8_252 msX8_isFeast ⟨Nat.le_of_ble_eq_true rfl, Nat.le_of_ble_eq_true rfl⟩ (by decide) rfl rfl rfl (Nat.le_of_ble_eq_true rfl) rfl ?_
  refine fr_if_eqb (q := 8) (tgt := 15) F dX8_bars_5 (by decide) rfl (fun hc10 => ?_) (fun hc10 => ?_)
  · rw [if_neg hc10] at h
    refine fr_ldc (q := 17) F dX8_bars_15 rfl kcRX8_209 ?_
    obtain ⟨rfl, rfl⟩ := Prod.mk.inj (Option.some.inj h)
    exact fr_iret F E rfl dX8_bars_17
  · rw [if_pos hc10] at h
    refine fr_iload_n (q := 9) F dX8_bars_8 rfl rfl ?_
    obtain ⟨r11, hr12, h⟩ := fr_bd_some h
    refine fr_callS (q := 12) (M' := (u0, n0)) (rest := []) (st' := [.int (fr_b r11)]) F dX8_bars_9 rfl (tX8_isYear hr12) mlRX8_283 msX8_isYear ⟨Nat.le_of_ble_eq_true rfl, Nat.le_of_ble_eq_true rfl⟩ rfl rfl (Nat.le_of_ble_eq_true rfl) rfl ?_
    refine fr_if_neb (q := 15) (tgt := 18) F dX8_bars_12 (by decide) rfl (fun hc13 => ?_) (fun hc13 => ?_)
    · rw [if_pos hc13] at h
      refine fr_aload_n (q := 19) F dX8_bars_18 rfl rfl ?_
      refine fr_iload_n (q := 20) F dX8_bars_19 rfl rfl ?_
      refine fr_ldc (q := 22) F dX8_bars_20 rfl kcRX8_90 ?_
      obtain ⟨n16, hr15, h⟩ := fr_bd_some h
      refine fr_callV (q := 25) (M' := (u0, n16)) (rest := []) (st' := []) F dX8_bars_22 rfl (tX8_lays hr15) mlRX8_288 msX8_lays ⟨Nat.le_of_ble_eq_true rfl, Nat.le_of_ble_eq_true rfl⟩ (by decide) rfl rfl rfl (Nat.le_of_ble_eq_true rfl) rfl ?_
      refine fr_iconst (q := 26) (v := 0) F dX8_bars_25 rfl (by decide) ?_
      refine fr_istore_n (q := 27) F dX8_bars_26 rfl (by decide) rfl ?_
      refine fr_aload_n (q := 28) F dX8_bars_27 rfl rfl ?_
      refine fr_gfR (q := 31) (j := 61) F dX8_bars_28 rfl faRX8_35 (by decide) rfl rfl ?_
      refine fr_iload_n (q := 32) F dX8_bars_31 rfl rfl ?_
      obtain ⟨hi17, h⟩ := fr_ck_some h
      refine fr_ial (q := 33) (x := (n16 9 (Int32.toNatClampNeg a1))) F dX8_bars_32 rfl hi17 (by decide) rfl rfl ?_
      refine fr_if_eq (q := 36) (tgt := 46) F dX8_bars_33 (by decide) rfl (fun hc18 => ?_) (fun hc18 => ?_)
      · rw [if_pos hc18] at h
        refine fr_iconst (q := 47) (v := 0) F dX8_bars_46 rfl (by decide) ?_
        obtain ⟨rfl, rfl⟩ := Prod.mk.inj (Option.some.inj h)
        exact fr_iret F E rfl dX8_bars_47
      · rw [if_neg hc18] at h
        refine fr_aload_n (q := 37) F dX8_bars_36 rfl rfl ?_
        refine fr_gfR (q := 40) (j := 61) F dX8_bars_37 rfl faRX8_35 (by decide) rfl rfl ?_
        refine fr_iload_n (q := 41) F dX8_bars_40 rfl rfl ?_
        obtain ⟨hi19, h⟩ := fr_ck_some h
        refine fr_ial (q := 42) (x := (n16 9 (Int32.toNatClampNeg a1))) F dX8_bars_41 rfl hi19 (by decide) rfl rfl ?_
        refine fr_iconst (q := 43) (v := 1) F dX8_bars_42 rfl (by decide) ?_
        refine fr_icmp_ne (q := 46) (tgt := 48) F dX8_bars_43 (by decide) rfl (fun hc20 => ?_) (fun hc20 => ?_)
        · rw [if_neg hc20] at h
          refine fr_iconst (q := 49) (v := 0) F dX8_bars_48 rfl (by decide) ?_
          refine fr_istore (q := 51) F dX8_bars_49 rfl (by decide) rfl ?_
          exact fr_wj (tX8_bars_51 F E _ _ _ _ _ _ h) ⟨rfl, ⟨rfl, ⟨rfl, ⟨rfl, ⟨rfl, trivial⟩⟩⟩⟩⟩
        · rw [if_pos hc20] at h
          refine fr_iconst (q := 47) (v := 0) F dX8_bars_46 rfl (by decide) ?_
          obtain ⟨rfl, rfl⟩ := Prod.mk.inj (Option.some.inj h)
          exact fr_iret F E rfl dX8_bars_47
    · rw [if_neg hc13] at h
      refine fr_ldc (q := 17) F dX8_bars_15 rfl kcRX8_209 ?_
      obtain ⟨rfl, rfl⟩ := Prod.mk.inj (Option.some.inj h)
      exact fr_iret F E rfl dX8_bars_17
/-! FeastRota$Book.become (18, 3) -/
def fX1_become_18_3 (n0 : fr_N) : Option fr_N := fr_lt (fr_up n0 18 0 (fr_b true)) fun n1 => (fr_lt (fr_up n1 18 1 (n1 3 1)) fun n3 => (fr_lt (fr_up n3 18 2 (n3 3 2)) fun n5 => (fr_lt (fr_up n5 18 3 (n5 3 3)) fun n7 => (fr_lt (fr_cp n7 4 19 0 0 6) fun n9 => (fr_lt (fr_cp n9 5 20 0 0 48) fun n11 => (fr_lt (fr_cp n11 6 21 0 0 4) fun n13 => (fr_lt (fr_cp n13 7 22 0 0 4) fun n15 => (fr_lt (fr_cp n15 8 23 0 0 4) fun n17 => (fr_lt (fr_cp n17 9 24 0 0 5) fun n19 => (fr_lt (fr_cp n19 10 25 0 0 5) fun n21 => (some n21)))))))))))
theorem tX1_become_18_3 {l : Launch} {G : fr_G} {u0 : fr_N} {n0 : fr_N} {nz : fr_N} (h : fX1_become_18_3 n0 = some nz) : fr_Met l G YX1_become [.ref 18, .ref 3] (n0, u0) none (nz, u0) := by
  refine fr_met (pad := List.replicate 0 none) (by decide) (Nat.le_of_ble_eq_true rfl) (fun _ h => List.eq_of_mem_replicate h) ⟨rfl, rfl⟩ (fun K F hG hL E => ?_)
  subst hG; subst hL
  rw [fX1_become_18_3] at h
  show fr_V YX1_become K 0 [some (.ref 18), some (.ref 3)] [] (n0, u0)
  refine fr_aload_n (q := 1) F dX1_become_0 rfl rfl ?_
  refine fr_iconst (q := 2) (v := 1) F dX1_become_1 rfl (by decide) ?_
  obtain ⟨n1, hn2, h⟩ := fr_lt_some h
  refine fr_pfZ (q := 5) (M' := (n1, u0)) (x := true) F dX1_become_2 rfl fpRX1_44 (by decide) rfl rfl (congrArg (fun z => (z, u0)) hn2) ?_
  refine fr_aload_n (q := 6) F dX1_become_5 rfl rfl ?_
  refine fr_aload_n (q := 7) F dX1_become_6 rfl rfl ?_
  refine fr_gfI (q := 10) (x := (n1 3 1)) F dX1_become_7 rfl faRX1_48 (by decide) rfl rfl rfl ?_
  obtain ⟨n3, hn4, h⟩ := fr_lt_some h
  refine fr_pfI (q := 13) (M' := (n3, u0)) F dX1_become_10 rfl fpRX1_48 (by decide) rfl rfl (congrArg (fun z => (z, u0)) hn4) ?_
  refine fr_aload_n (q := 14) F dX1_become_13 rfl rfl ?_
  refine fr_aload_n (q := 15) F dX1_become_14 rfl rfl ?_
  refine fr_gfI (q := 18) (x := (n3 3 2)) F dX1_become_15 rfl faRX1_52 (by decide) rfl rfl rfl ?_
  obtain ⟨n5, hn6, h⟩ := fr_lt_some h
  refine fr_pfI (q := 21) (M' := (n5, u0)) F dX1_become_18 rfl fpRX1_52 (by decide) rfl rfl (congrArg (fun z => (z, u0)) hn6) ?_
  refine fr_aload_n (q := 22) F dX1_become_21 rfl rfl ?_
  refine fr_aload_n (q := 23) F dX1_become_22 rfl rfl ?_
  refine fr_gfI (q := 26) (x := (n5 3 3)) F dX1_become_23 rfl faRX1_55 (by decide) rfl rfl rfl ?_
  obtain ⟨n7, hn8, h⟩ := fr_lt_some h
  refine fr_pfI (q := 29) (M' := (n7, u0)) F dX1_become_26 rfl fpRX1_55 (by decide) rfl rfl (congrArg (fun z => (z, u0)) hn8) ?_
  refine fr_aload_n (q := 30) F dX1_become_29 rfl rfl ?_
  refine fr_gfR (q := 33) (j := 4) F dX1_become_30 rfl faRX1_9 (by decide) rfl rfl ?_
  refine fr_iconst (q := 34) (v := 0) F dX1_become_33 rfl (by decide) ?_
  refine fr_aload_n (q := 35) F dX1_become_34 rfl rfl ?_
  refine fr_gfR (q := 38) (j := 19) F dX1_become_35 rfl faRX1_9 (by decide) rfl rfl ?_
  refine fr_iconst (q := 39) (v := 0) F dX1_become_38 rfl (by decide) ?_
  refine fr_bipush (q := 41) (v := 6) F dX1_become_39 rfl (by decide) ?_
  obtain ⟨n9, hn10, h⟩ := fr_lt_some h
  refine fr_acp (q := 44) (M' := (n9, u0)) F dX1_become_41 rfl mlRX1_64 mm_acp (by decide) rfl (by decide) rfl (by decide) (by decide) (by decide) (by decide) (by decide) ⟨Nat.le_of_ble_eq_true rfl, Nat.le_of_ble_eq_true rfl⟩ (congrArg (fun z => (z, u0)) hn10) ?_
  refine fr_aload_n (q := 45) F dX1_become_44 rfl rfl ?_
  refine fr_gfR (q := 48) (j := 5) F dX1_become_45 rfl faRX1_15 (by decide) rfl rfl ?_
  refine fr_iconst (q := 49) (v := 0) F dX1_become_48 rfl (by decide) ?_
  refine fr_aload_n (q := 50) F dX1_become_49 rfl rfl ?_
  refine fr_gfR (q := 53) (j := 20) F dX1_become_50 rfl faRX1_15 (by decide) rfl rfl ?_
  refine fr_iconst (q := 54) (v := 0) F dX1_become_53 rfl (by decide) ?_
  refine fr_bipush (q := 56) (v := 48) F dX1_become_54 rfl (by decide) ?_
  obtain ⟨n11, hn12, h⟩ := fr_lt_some h
  refine fr_acp (q := 59) (M' := (n11, u0)) F dX1_become_56 rfl mlRX1_64 mm_acp (by decide) rfl (by decide) rfl (by decide) (by decide) (by decide) (by decide) (by decide) ⟨Nat.le_of_ble_eq_true rfl, Nat.le_of_ble_eq_true rfl⟩ (congrArg (fun z => (z, u0)) hn12) ?_
  refine fr_aload_n (q := 60) F dX1_become_59 rfl rfl ?_
  refine fr_gfR (q := 63) (j := 6) F dX1_become_60 rfl faRX1_18 (by decide) rfl rfl ?_
  refine fr_iconst (q := 64) (v := 0) F dX1_become_63 rfl (by decide) ?_
  refine fr_aload_n (q := 65) F dX1_become_64 rfl rfl ?_
  refine fr_gfR (q := 68) (j := 21) F dX1_become_65 rfl faRX1_18 (by decide) rfl rfl ?_
  refine fr_iconst (q := 69) (v := 0) F dX1_become_68 rfl (by decide) ?_
  refine fr_iconst (q := 70) (v := 4) F dX1_become_69 rfl (by decide) ?_
  obtain ⟨n13, hn14, h⟩ := fr_lt_some h
  refine fr_acp (q := 73) (M' := (n13, u0)) F dX1_become_70 rfl mlRX1_64 mm_acp (by decide) rfl (by decide) rfl (by decide) (by decide) (by decide) (by decide) (by decide) ⟨Nat.le_of_ble_eq_true rfl, Nat.le_of_ble_eq_true rfl⟩ (congrArg (fun z => (z, u0)) hn14) ?_
  refine fr_aload_n (q := 74) F dX1_become_73 rfl rfl ?_
  refine fr_gfR (q := 77) (j := 7) F dX1_become_74 rfl faRX1_21 (by decide) rfl rfl ?_
  refine fr_iconst (q := 78) (v := 0) F dX1_become_77 rfl (by decide) ?_
  refine fr_aload_n (q := 79) F dX1_become_78 rfl rfl ?_
  refine fr_gfR (q := 82) (j := 22) F dX1_become_79 rfl faRX1_21 (by decide) rfl rfl ?_
  refine fr_iconst (q := 83) (v := 0) F dX1_become_82 rfl (by decide) ?_
  refine fr_iconst (q := 84) (v := 4) F dX1_become_83 rfl (by decide) ?_
  obtain ⟨n15, hn16, h⟩ := fr_lt_some h
  refine fr_acp (q := 87) (M' := (n15, u0)) F dX1_become_84 rfl mlRX1_64 mm_acp (by decide) rfl (by decide) rfl (by decide) (by decide) (by decide) (by decide) (by decide) ⟨Nat.le_of_ble_eq_true rfl, Nat.le_of_ble_eq_true rfl⟩ (congrArg (fun z => (z, u0)) hn16) ?_
  refine fr_aload_n (q := 88) F dX1_become_87 rfl rfl ?_
  refine fr_gfR (q := 91) (j := 8) F dX1_become_88 rfl faRX1_24 (by decide) rfl rfl ?_
  refine fr_iconst (q := 92) (v := 0) F dX1_become_91 rfl (by decide) ?_
  refine fr_aload_n (q := 93) F dX1_become_92 rfl rfl ?_
  refine fr_gfR (q := 96) (j := 23) F dX1_become_93 rfl faRX1_24 (by decide) rfl rfl ?_
  refine fr_iconst (q := 97) (v := 0) F dX1_become_96 rfl (by decide) ?_
  refine fr_iconst (q := 98) (v := 4) F dX1_become_97 rfl (by decide) ?_
  obtain ⟨n17, hn18, h⟩ := fr_lt_some h
  refine fr_acp (q := 101) (M' := (n17, u0)) F dX1_become_98 rfl mlRX1_64 mm_acp (by decide) rfl (by decide) rfl (by decide) (by decide) (by decide) (by decide) (by decide) ⟨Nat.le_of_ble_eq_true rfl, Nat.le_of_ble_eq_true rfl⟩ (congrArg (fun z => (z, u0)) hn18) ?_
  refine fr_aload_n (q := 102) F dX1_become_101 rfl rfl ?_
  refine fr_gfR (q := 105) (j := 9) F dX1_become_102 rfl faRX1_27 (by decide) rfl rfl ?_
  refine fr_iconst (q := 106) (v := 0) F dX1_become_105 rfl (by decide) ?_
  refine fr_aload_n (q := 107) F dX1_become_106 rfl rfl ?_
  refine fr_gfR (q := 110) (j := 24) F dX1_become_107 rfl faRX1_27 (by decide) rfl rfl ?_
  refine fr_iconst (q := 111) (v := 0) F dX1_become_110 rfl (by decide) ?_
  refine fr_iconst (q := 112) (v := 5) F dX1_become_111 rfl (by decide) ?_
  obtain ⟨n19, hn20, h⟩ := fr_lt_some h
  refine fr_acp (q := 115) (M' := (n19, u0)) F dX1_become_112 rfl mlRX1_64 mm_acp (by decide) rfl (by decide) rfl (by decide) (by decide) (by decide) (by decide) (by decide) ⟨Nat.le_of_ble_eq_true rfl, Nat.le_of_ble_eq_true rfl⟩ (congrArg (fun z => (z, u0)) hn20) ?_
  refine fr_aload_n (q := 116) F dX1_become_115 rfl rfl ?_
  refine fr_gfR (q := 119) (j := 10) F dX1_become_116 rfl faRX1_30 (by decide) rfl rfl ?_
  refine fr_iconst (q := 120) (v := 0) F dX1_become_119 rfl (by decide) ?_
  refine fr_aload_n (q := 121) F dX1_become_120 rfl rfl ?_
  refine fr_gfR (q := 124) (j := 25) F dX1_become_121 rfl faRX1_30 (by decide) rfl rfl ?_
  refine fr_iconst (q := 125) (v := 0) F dX1_become_124 rfl (by decide) ?_
  refine fr_iconst (q := 126) (v := 5) F dX1_become_125 rfl (by decide) ?_
  obtain ⟨n21, hn22, h⟩ := fr_lt_some h
  refine fr_acp (q := 129) (M' := (n21, u0)) F dX1_become_126 rfl mlRX1_64 mm_acp (by decide) rfl (by decide) rfl (by decide) (by decide) (by decide) (by decide) (by decide) ⟨Nat.le_of_ble_eq_true rfl, Nat.le_of_ble_eq_true rfl⟩ (congrArg (fun z => (z, u0)) hn22) ?_
  obtain rfl := Option.some.inj h
  exact fr_vret F E rfl dX1_become_129
/-! FeastRota$Book.become (26, 3) -/
def fX1_become_26_3 (n0 : fr_N) : Option fr_N := fr_lt (fr_up n0 26 0 (fr_b true)) fun n1 => (fr_lt (fr_up n1 26 1 (n1 3 1)) fun n3 => (fr_lt (fr_up n3 26 2 (n3 3 2)) fun n5 => (fr_lt (fr_up n5 26 3 (n5 3 3)) fun n7 => (fr_lt (fr_cp n7 4 27 0 0 6) fun n9 => (fr_lt (fr_cp n9 5 28 0 0 48) fun n11 => (fr_lt (fr_cp n11 6 29 0 0 4) fun n13 => (fr_lt (fr_cp n13 7 30 0 0 4) fun n15 => (fr_lt (fr_cp n15 8 31 0 0 4) fun n17 => (fr_lt (fr_cp n17 9 32 0 0 5) fun n19 => (fr_lt (fr_cp n19 10 33 0 0 5) fun n21 => (some n21)))))))))))
theorem tX1_become_26_3 {l : Launch} {G : fr_G} {u0 : fr_N} {n0 : fr_N} {nz : fr_N} (h : fX1_become_26_3 n0 = some nz) : fr_Met l G YX1_become [.ref 26, .ref 3] (n0, u0) none (nz, u0) := by
  refine fr_met (pad := List.replicate 0 none) (by decide) (Nat.le_of_ble_eq_true rfl) (fun _ h => List.eq_of_mem_replicate h) ⟨rfl, rfl⟩ (fun K F hG hL E => ?_)
  subst hG; subst hL
  rw [fX1_become_26_3] at h
  show fr_V YX1_become K 0 [some (.ref 26), some (.ref 3)] [] (n0, u0)
  refine fr_aload_n (q := 1) F dX1_become_0 rfl rfl ?_
  refine fr_iconst (q := 2) (v := 1) F dX1_become_1 rfl (by decide) ?_
  obtain ⟨n1, hn2, h⟩ := fr_lt_some h
  refine fr_pfZ (q := 5) (M' := (n1, u0)) (x := true) F dX1_become_2 rfl fpRX1_44 (by decide) rfl rfl (congrArg (fun z => (z, u0)) hn2) ?_
  refine fr_aload_n (q := 6) F dX1_become_5 rfl rfl ?_
  refine fr_aload_n (q := 7) F dX1_become_6 rfl rfl ?_
  refine fr_gfI (q := 10) (x := (n1 3 1)) F dX1_become_7 rfl faRX1_48 (by decide) rfl rfl rfl ?_
  obtain ⟨n3, hn4, h⟩ := fr_lt_some h
  refine fr_pfI (q := 13) (M' := (n3, u0)) F dX1_become_10 rfl fpRX1_48 (by decide) rfl rfl (congrArg (fun z => (z, u0)) hn4) ?_
  refine fr_aload_n (q := 14) F dX1_become_13 rfl rfl ?_
  refine fr_aload_n (q := 15) F dX1_become_14 rfl rfl ?_
  refine fr_gfI (q := 18) (x := (n3 3 2)) F dX1_become_15 rfl faRX1_52 (by decide) rfl rfl rfl ?_
  obtain ⟨n5, hn6, h⟩ := fr_lt_some h
  refine fr_pfI (q := 21) (M' := (n5, u0)) F dX1_become_18 rfl fpRX1_52 (by decide) rfl rfl (congrArg (fun z => (z, u0)) hn6) ?_
  refine fr_aload_n (q := 22) F dX1_become_21 rfl rfl ?_
  refine fr_aload_n (q := 23) F dX1_become_22 rfl rfl ?_
  refine fr_gfI (q := 26) (x := (n5 3 3)) F dX1_become_23 rfl faRX1_55 (by decide) rfl rfl rfl ?_
  obtain ⟨n7, hn8, h⟩ := fr_lt_some h
  refine fr_pfI (q := 29) (M' := (n7, u0)) F dX1_become_26 rfl fpRX1_55 (by decide) rfl rfl (congrArg (fun z => (z, u0)) hn8) ?_
  refine fr_aload_n (q := 30) F dX1_become_29 rfl rfl ?_
  refine fr_gfR (q := 33) (j := 4) F dX1_become_30 rfl faRX1_9 (by decide) rfl rfl ?_
  refine fr_iconst (q := 34) (v := 0) F dX1_become_33 rfl (by decide) ?_
  refine fr_aload_n (q := 35) F dX1_become_34 rfl rfl ?_
  refine fr_gfR (q := 38) (j := 27) F dX1_become_35 rfl faRX1_9 (by decide) rfl rfl ?_
  refine fr_iconst (q := 39) (v := 0) F dX1_become_38 rfl (by decide) ?_
  refine fr_bipush (q := 41) (v := 6) F dX1_become_39 rfl (by decide) ?_
  obtain ⟨n9, hn10, h⟩ := fr_lt_some h
  refine fr_acp (q := 44) (M' := (n9, u0)) F dX1_become_41 rfl mlRX1_64 mm_acp (by decide) rfl (by decide) rfl (by decide) (by decide) (by decide) (by decide) (by decide) ⟨Nat.le_of_ble_eq_true rfl, Nat.le_of_ble_eq_true rfl⟩ (congrArg (fun z => (z, u0)) hn10) ?_
  refine fr_aload_n (q := 45) F dX1_become_44 rfl rfl ?_
  refine fr_gfR (q := 48) (j := 5) F dX1_become_45 rfl faRX1_15 (by decide) rfl rfl ?_
  refine fr_iconst (q := 49) (v := 0) F dX1_become_48 rfl (by decide) ?_
  refine fr_aload_n (q := 50) F dX1_become_49 rfl rfl ?_
  refine fr_gfR (q := 53) (j := 28) F dX1_become_50 rfl faRX1_15 (by decide) rfl rfl ?_
  refine fr_iconst (q := 54) (v := 0) F dX1_become_53 rfl (by decide) ?_
  refine fr_bipush (q := 56) (v := 48) F dX1_become_54 rfl (by decide) ?_
  obtain ⟨n11, hn12, h⟩ := fr_lt_some h
  refine fr_acp (q := 59) (M' := (n11, u0)) F dX1_become_56 rfl mlRX1_64 mm_acp (by decide) rfl (by decide) rfl (by decide) (by decide) (by decide) (by decide) (by decide) ⟨Nat.le_of_ble_eq_true rfl, Nat.le_of_ble_eq_true rfl⟩ (congrArg (fun z => (z, u0)) hn12) ?_
  refine fr_aload_n (q := 60) F dX1_become_59 rfl rfl ?_
  refine fr_gfR (q := 63) (j := 6) F dX1_become_60 rfl faRX1_18 (by decide) rfl rfl ?_
  refine fr_iconst (q := 64) (v := 0) F dX1_become_63 rfl (by decide) ?_
  refine fr_aload_n (q := 65) F dX1_become_64 rfl rfl ?_
  refine fr_gfR (q := 68) (j := 29) F dX1_become_65 rfl faRX1_18 (by decide) rfl rfl ?_
  refine fr_iconst (q := 69) (v := 0) F dX1_become_68 rfl (by decide) ?_
  refine fr_iconst (q := 70) (v := 4) F dX1_become_69 rfl (by decide) ?_
  obtain ⟨n13, hn14, h⟩ := fr_lt_some h
  refine fr_acp (q := 73) (M' := (n13, u0)) F dX1_become_70 rfl mlRX1_64 mm_acp (by decide) rfl (by decide) rfl (by decide) (by decide) (by decide) (by decide) (by decide) ⟨Nat.le_of_ble_eq_true rfl, Nat.le_of_ble_eq_true rfl⟩ (congrArg (fun z => (z, u0)) hn14) ?_
  refine fr_aload_n (q := 74) F dX1_become_73 rfl rfl ?_
  refine fr_gfR (q := 77) (j := 7) F dX1_become_74 rfl faRX1_21 (by decide) rfl rfl ?_
  refine fr_iconst (q := 78) (v := 0) F dX1_become_77 rfl (by decide) ?_
  refine fr_aload_n (q := 79) F dX1_become_78 rfl rfl ?_
  refine fr_gfR (q := 82) (j := 30) F dX1_become_79 rfl faRX1_21 (by decide) rfl rfl ?_
  refine fr_iconst (q := 83) (v := 0) F dX1_become_82 rfl (by decide) ?_
  refine fr_iconst (q := 84) (v := 4) F dX1_become_83 rfl (by decide) ?_
  obtain ⟨n15, hn16, h⟩ := fr_lt_some h
  refine fr_acp (q := 87) (M' := (n15, u0)) F dX1_become_84 rfl mlRX1_64 mm_acp (by decide) rfl (by decide) rfl (by decide) (by decide) (by decide) (by decide) (by decide) ⟨Nat.le_of_ble_eq_true rfl, Nat.le_of_ble_eq_true rfl⟩ (congrArg (fun z => (z, u0)) hn16) ?_
  refine fr_aload_n (q := 88) F dX1_become_87 rfl rfl ?_
  refine fr_gfR (q := 91) (j := 8) F dX1_become_88 rfl faRX1_24 (by decide) rfl rfl ?_
  refine fr_iconst (q := 92) (v := 0) F dX1_become_91 rfl (by decide) ?_
  refine fr_aload_n (q := 93) F dX1_become_92 rfl rfl ?_
  refine fr_gfR (q := 96) (j := 31) F dX1_become_93 rfl faRX1_24 (by decide) rfl rfl ?_
  refine fr_iconst (q := 97) (v := 0) F dX1_become_96 rfl (by decide) ?_
  refine fr_iconst (q := 98) (v := 4) F dX1_become_97 rfl (by decide) ?_
  obtain ⟨n17, hn18, h⟩ := fr_lt_some h
  refine fr_acp (q := 101) (M' := (n17, u0)) F dX1_become_98 rfl mlRX1_64 mm_acp (by decide) rfl (by decide) rfl (by decide) (by decide) (by decide) (by decide) (by decide) ⟨Nat.le_of_ble_eq_true rfl, Nat.le_of_ble_eq_true rfl⟩ (congrArg (fun z => (z, u0)) hn18) ?_
  refine fr_aload_n (q := 102) F dX1_become_101 rfl rfl ?_
  refine fr_gfR (q := 105) (j := 9) F dX1_become_102 rfl faRX1_27 (by decide) rfl rfl ?_
  refine fr_iconst (q := 106) (v := 0) F dX1_become_105 rfl (by decide) ?_
  refine fr_aload_n (q := 107) F dX1_become_106 rfl rfl ?_
  refine fr_gfR (q := 110) (j := 32) F dX1_become_107 rfl faRX1_27 (by decide) rfl rfl ?_
  refine fr_iconst (q := 111) (v := 0) F dX1_become_110 rfl (by decide) ?_
  refine fr_iconst (q := 112) (v := 5) F dX1_become_111 rfl (by decide) ?_
  obtain ⟨n19, hn20, h⟩ := fr_lt_some h
  refine fr_acp (q := 115) (M' := (n19, u0)) F dX1_become_112 rfl mlRX1_64 mm_acp (by decide) rfl (by decide) rfl (by decide) (by decide) (by decide) (by decide) (by decide) ⟨Nat.le_of_ble_eq_true rfl, Nat.le_of_ble_eq_true rfl⟩ (congrArg (fun z => (z, u0)) hn20) ?_
  refine fr_aload_n (q := 116) F dX1_become_115 rfl rfl ?_
  refine fr_gfR (q := 119) (j := 10) F dX1_become_116 rfl faRX1_30 (by decide) rfl rfl ?_
  refine fr_iconst (q := 120) (v := 0) F dX1_become_119 rfl (by decide) ?_
  refine fr_aload_n (q := 121) F dX1_become_120 rfl rfl ?_
  refine fr_gfR (q := 124) (j := 33) F dX1_become_121 rfl faRX1_30 (by decide) rfl rfl ?_
  refine fr_iconst (q := 125) (v := 0) F dX1_become_124 rfl (by decide) ?_
  refine fr_iconst (q := 126) (v := 5) F dX1_become_125 rfl (by decide) ?_
  obtain ⟨n21, hn22, h⟩ := fr_lt_some h
  refine fr_acp (q := 129) (M' := (n21, u0)) F dX1_become_126 rfl mlRX1_64 mm_acp (by decide) rfl (by decide) rfl (by decide) (by decide) (by decide) (by decide) (by decide) ⟨Nat.le_of_ble_eq_true rfl, Nat.le_of_ble_eq_true rfl⟩ (congrArg (fun z => (z, u0)) hn22) ?_
  obtain rfl := Option.some.inj h
  exact fr_vret F E rfl dX1_become_129
/-! FeastRota.image (0, None) -/
def fX7_image (a1 : Int32) (n0 : fr_N) : Option (Int32 × fr_N) := fr_bd (fX7_within a1 (0 : Int32) (1 : Int32)) fun r1 => (if r1 = true then if (n0 3 0) = 0 then some ((-1000002 : Int32), n0) else fr_ck a1 2 (if a1 = 0 then fr_bd (fX1_become_18_3 n0) fun n9 => (some ((1 : Int32), n9)) else fr_bd (fX1_become_26_3 n0) fun n12 => (some ((1 : Int32), n12))) else some ((-1000001 : Int32), n0))
theorem tX7_image {l : Launch} {G : fr_G} {u0 : fr_N} {a1 : Int32} {n0 : fr_N} {rz : Int32} {nz : fr_N} (h : fX7_image a1 n0 = some (rz, nz)) : fr_Met l G YX7_image [.ref 0, .int a1] (n0, u0) (some (.int rz)) (nz, u0) := by
  refine fr_met (pad := List.replicate 0 none) (by decide) (Nat.le_of_ble_eq_true rfl) (fun _ h => List.eq_of_mem_replicate h) ⟨rfl, rfl⟩ (fun K F hG hL E => ?_)
  subst hG; subst hL
  rw [fX7_image] at h
  show fr_V YX7_image K 0 [some (.ref 0), some (.int a1)] [] (n0, u0)
  refine fr_iload_n (q := 1) F dX7_image_0 rfl rfl ?_
  refine fr_iconst (q := 2) (v := 0) F dX7_image_1 rfl (by decide) ?_
  refine fr_iconst (q := 3) (v := 1) F dX7_image_2 rfl (by decide) ?_
  obtain ⟨r1, hr2, h⟩ := fr_bd_some h
  refine fr_callS (q := 6) (M' := (n0, u0)) (rest := []) (st' := [.int (fr_b r1)]) F dX7_image_3 rfl (tX7_within hr2) mlRX7_68 msX7_within ⟨Nat.le_of_ble_eq_true rfl, Nat.le_of_ble_eq_true rfl⟩ rfl rfl (Nat.le_of_ble_eq_true rfl) rfl ?_
  refine fr_if_neb (q := 9) (tgt := 12) F dX7_image_6 (by decide) rfl (fun hc3 => ?_) (fun hc3 => ?_)
  · rw [if_pos hc3] at h
    refine fr_aload_n (q := 13) F dX7_image_12 rfl rfl ?_
    refine fr_gfR (q := 16) (j := 3) F dX7_image_13 rfl faRX7_36 (by decide) rfl rfl ?_
    refine fr_gfI (q := 19) (x := (n0 3 0)) F dX7_image_16 rfl faRX7_128 (by decide) rfl rfl rfl ?_
    refine fr_if_ne (q := 22) (tgt := 25) F dX7_image_19 (by decide) rfl (fun hc4 => ?_) (fun hc4 => ?_)
    · rw [if_neg hc4] at h
      refine fr_aload_n (q := 26) F dX7_image_25 rfl rfl ?_
      refine fr_gfR (q := 29) (j := 17) F dX7_image_26 rfl faRX7_40 (by decide) rfl rfl ?_
      refine fr_iload_n (q := 30) F dX7_image_29 rfl rfl ?_
      obtain ⟨hi5, h⟩ := fr_ck_some h
      by_cases hc6 : a1 = 0
      · rw [if_pos hc6] at h
        refine fr_aal (q := 31) (j := 18) F dX7_image_30 rfl hi5 (by decide) rfl (by rw [hc6]; rfl) ?_
        refine fr_aload_n (q := 32) F dX7_image_31 rfl rfl ?_
        refine fr_gfR (q := 35) (j := 3) F dX7_image_32 rfl faRX7_36 (by decide) rfl rfl ?_
        obtain ⟨n9, hr8, h⟩ := fr_bd_some h
        refine fr_callV (q := 38) (M' := (n9, u0)) (rest := []) (st' := []) F dX7_image_35 rfl (tX1_become_18_3 hr8) mlRX7_95 msX1_become ⟨Nat.le_of_ble_eq_true rfl, Nat.le_of_ble_eq_true rfl⟩ (by decide) rfl rfl rfl (Nat.le_of_ble_eq_true rfl) rfl ?_
        refine fr_iconst (q := 39) (v := 1) F dX7_image_38 rfl (by decide) ?_
        obtain ⟨rfl, rfl⟩ := Prod.mk.inj (Option.some.inj h)
        exact fr_iret F E rfl dX7_image_39
      · rw [if_neg hc6] at h
        refine fr_aal (q := 31) (j := 26) F dX7_image_30 rfl hi5 (by decide) rfl (fr_im1 hi5 hc6) ?_
        refine fr_aload_n (q := 32) F dX7_image_31 rfl rfl ?_
        refine fr_gfR (q := 35) (j := 3) F dX7_image_32 rfl faRX7_36 (by decide) rfl rfl ?_
        obtain ⟨n12, hr11, h⟩ := fr_bd_some h
        refine fr_callV (q := 38) (M' := (n12, u0)) (rest := []) (st' := []) F dX7_image_35 rfl (tX1_become_26_3 hr11) mlRX7_95 msX1_become ⟨Nat.le_of_ble_eq_true rfl, Nat.le_of_ble_eq_true rfl⟩ (by decide) rfl rfl rfl (Nat.le_of_ble_eq_true rfl) rfl ?_
        refine fr_iconst (q := 39) (v := 1) F dX7_image_38 rfl (by decide) ?_
        obtain ⟨rfl, rfl⟩ := Prod.mk.inj (Option.some.inj h)
        exact fr_iret F E rfl dX7_image_39
    · rw [if_pos hc4] at h
      refine fr_ldc (q := 24) F dX7_image_22 rfl kcRX7_105 ?_
      obtain ⟨rfl, rfl⟩ := Prod.mk.inj (Option.some.inj h)
      exact fr_iret F E rfl dX7_image_24
  · rw [if_neg hc3] at h
    refine fr_ldc (q := 11) F dX7_image_9 rfl kcRX7_72 ?_
    obtain ⟨rfl, rfl⟩ := Prod.mk.inj (Option.some.inj h)
    exact fr_iret F E rfl dX7_image_11
/-! FeastRotaModel.copies (53, None, 56, None) -/
def fX8_copies_53_56_3 : Nat → Int32 → Int32 → Int32 → fr_N → Option fr_N
  | 0, _, _, _, _ => none
  | k + 1, x1, x3, x4, n0 => if (79 : Int32) ≤ x4 then some n0 else fr_ck (x1 + x4) 79 (fr_ck (x3 + x4) 158 (fr_lt (fr_up n0 4 (Int32.toNatClampNeg (x3 + x4)) (n0 1 (Int32.toNatClampNeg (x1 + x4)))) fun n4 => ((fX8_copies_53_56_3 k) x1 x3 (x4 + (1 : Int32)) n4)))
def fX8_copies_53_56 (a1 : Int32) (a3 : Int32) (n0 : fr_N) : Option fr_N := fX8_copies_53_56_3 2000 a1 a3 (0 : Int32) n0
theorem tX8_copies_53_56_3 {K : fr_K} {u0 : fr_N} {nz : fr_N} (F : fr_F YX8_copies K) (E : fr_R YX8_copies K none (u0, nz)) : ∀ (k : Nat) (x1 : Int32) (x3 : Int32) (x4 : Int32) (n0 : fr_N), fX8_copies_53_56_3 k x1 x3 x4 n0 = some nz → fr_V YX8_copies K 3 [some (.ref 53), some (.int x1), some (.ref 56), some (.int x3), some (.int x4)] [] (u0, n0) := by
  intro k
  induction k with
  | zero =>
    intro x1 x3 x4 n0 h
    rw [fX8_copies_53_56_3] at h
    cases h
  | succ k ih =>
    intro x1 x3 x4 n0 h
    rw [fX8_copies_53_56_3] at h
    refine fr_iload (q := 5) F dX8_copies_3 rfl rfl ?_
    refine fr_bipush (q := 7) (v := 79) F dX8_copies_5 rfl (by decide) ?_
    refine fr_icmp_ge (q := 10) (tgt := 28) F dX8_copies_7 (by decide) rfl (fun hc1 => ?_) (fun hc1 => ?_)
    · rw [if_pos hc1] at h
      obtain rfl := Option.some.inj h
      exact fr_vret F E rfl dX8_copies_28
    · rw [if_neg hc1] at h
      refine fr_aload_n (q := 11) F dX8_copies_10 rfl rfl ?_
      refine fr_iload_n (q := 12) F dX8_copies_11 rfl rfl ?_
      refine fr_iload (q := 14) F dX8_copies_12 rfl rfl ?_
      refine fr_iadd (q := 15) F dX8_copies_14 rfl ?_
      refine fr_aload_n (q := 16) F dX8_copies_15 rfl rfl ?_
      refine fr_iload_n (q := 17) F dX8_copies_16 rfl rfl ?_
      refine fr_iload (q := 19) F dX8_copies_17 rfl rfl ?_
      refine fr_iadd (q := 20) F dX8_copies_19 rfl ?_
      obtain ⟨hi2, h⟩ := fr_ck_some h
      refine fr_ial (q := 21) (x := (n0 1 (Int32.toNatClampNeg (x1 + x4)))) F dX8_copies_20 rfl hi2 (by decide) rfl rfl ?_
      obtain ⟨hi3, h⟩ := fr_ck_some h
      obtain ⟨n4, hn5, h⟩ := fr_lt_some h
      refine fr_ias (q := 22) (M' := (u0, n4)) F dX8_copies_21 rfl hi3 (by decide) rfl (congrArg (fun z => (u0, z)) hn5) ?_
      refine fr_iinc (q := 25) (v := (x4 + (1 : Int32))) F dX8_copies_22 rfl rfl rfl (by decide) rfl ?_
      refine fr_goto (tgt := 3) F dX8_copies_25 (by decide) ?_
      exact fr_wj (ih _ _ _ _ h) ⟨rfl, ⟨rfl, ⟨rfl, ⟨rfl, ⟨rfl, trivial⟩⟩⟩⟩⟩
theorem tX8_copies_53_56 {l : Launch} {G : fr_G} {u0 : fr_N} {a1 : Int32} {a3 : Int32} {n0 : fr_N} {nz : fr_N} (h : fX8_copies_53_56 a1 a3 n0 = some nz) : fr_Met l G YX8_copies [.ref 53, .int a1, .ref 56, .int a3] (u0, n0) none (u0, nz) := by
  refine fr_met (pad := List.replicate 1 none) (by decide) (Nat.le_of_ble_eq_true rfl) (fun _ h => List.eq_of_mem_replicate h) ⟨rfl, rfl⟩ (fun K F hG hL E => ?_)
  subst hG; subst hL
  rw [fX8_copies_53_56] at h
  show fr_V YX8_copies K 0 [some (.ref 53), some (.int a1), some (.ref 56), some (.int a3), none] [] (u0, n0)
  refine fr_iconst (q := 1) (v := 0) F dX8_copies_0 rfl (by decide) ?_
  refine fr_istore (q := 3) F dX8_copies_1 rfl (by decide) rfl ?_
  exact fr_wj (tX8_copies_53_56_3 F E _ _ _ _ _ h) ⟨rfl, ⟨rfl, ⟨rfl, ⟨rfl, ⟨rfl, trivial⟩⟩⟩⟩⟩
/-! FeastRotaModel.image (52, None) -/
def fX8_image (a1 : Int32) (n0 : fr_N) : Option (Int32 × fr_N) := fr_bd (fX8_in (Int32.toInt64 a1) (0 : Int64) (1 : Int64)) fun r1 => (if r1 = true then fr_bd (fX8_isBook n0) fun r4 => (if r4 = true then fr_bd (fX8_copies_53_56 (0 : Int32) ((79 : Int32) * a1) n0) fun n9 => (fr_ck a1 2 (fr_lt (fr_up n9 5 (Int32.toNatClampNeg a1) (fr_b true)) fun n11 => (some ((1 : Int32), n11)))) else some ((-1000002 : Int32), n0)) else some ((-1000001 : Int32), n0))
theorem tX8_image {l : Launch} {G : fr_G} {u0 : fr_N} {a1 : Int32} {n0 : fr_N} {rz : Int32} {nz : fr_N} (h : fX8_image a1 n0 = some (rz, nz)) : fr_Met l G YX8_image [.ref 52, .int a1] (u0, n0) (some (.int rz)) (u0, nz) := by
  refine fr_met (pad := List.replicate 0 none) (by decide) (Nat.le_of_ble_eq_true rfl) (fun _ h => List.eq_of_mem_replicate h) ⟨rfl, rfl⟩ (fun K F hG hL E => ?_)
  subst hG; subst hL
  rw [fX8_image] at h
  show fr_V YX8_image K 0 [some (.ref 52), some (.int a1)] [] (u0, n0)
  refine fr_iload_n (q := 1) F dX8_image_0 rfl rfl ?_
  refine fr_i2l (q := 2) F dX8_image_1 rfl ?_
  refine fr_lconst (q := 3) (v := 0) F dX8_image_2 rfl (by decide) ?_
  refine fr_lconst (q := 4) (v := 1) F dX8_image_3 rfl (by decide) ?_
  obtain ⟨r1, hr2, h⟩ := fr_bd_some h
  refine fr_callS (q := 7) (M' := (u0, n0)) (rest := []) (st' := [.int (fr_b r1)]) F dX8_image_4 rfl (tX8_in hr2) mlRX8_55 msX8_in ⟨Nat.le_of_ble_eq_true rfl, Nat.le_of_ble_eq_true rfl⟩ rfl rfl (Nat.le_of_ble_eq_true rfl) rfl ?_
  refine fr_if_neb (q := 10) (tgt := 13) F dX8_image_7 (by decide) rfl (fun hc3 => ?_) (fun hc3 => ?_)
  · rw [if_pos hc3] at h
    refine fr_aload_n (q := 14) F dX8_image_13 rfl rfl ?_
    obtain ⟨r4, hr5, h⟩ := fr_bd_some h
    refine fr_callV (q := 17) (M' := (u0, n0)) (rest := []) (st' := [.int (fr_b r4)]) F dX8_image_14 rfl (tX8_isBook hr5) mlRX8_261 msX8_isBook ⟨Nat.le_of_ble_eq_true rfl, Nat.le_of_ble_eq_true rfl⟩ (by decide) rfl rfl rfl (Nat.le_of_ble_eq_true rfl) rfl ?_
    refine fr_if_neb (q := 20) (tgt := 23) F dX8_image_17 (by decide) rfl (fun hc6 => ?_) (fun hc6 => ?_)
    · rw [if_pos hc6] at h
      refine fr_aload_n (q := 24) F dX8_image_23 rfl rfl ?_
      refine fr_gfR (q := 27) (j := 53) F dX8_image_24 rfl faRX8_7 (by decide) rfl rfl ?_
      refine fr_iconst (q := 28) (v := 0) F dX8_image_27 rfl (by decide) ?_
      refine fr_aload_n (q := 29) F dX8_image_28 rfl rfl ?_
      refine fr_gfR (q := 32) (j := 56) F dX8_image_29 rfl faRX8_19 (by decide) rfl rfl ?_
      refine fr_bipush (q := 34) (v := 79) F dX8_image_32 rfl (by decide) ?_
      refine fr_iload_n (q := 35) F dX8_image_34 rfl rfl ?_
      refine fr_imul (q := 36) F dX8_image_35 rfl ?_
      obtain ⟨n9, hr8, h⟩ := fr_bd_some h
      refine fr_callS (q := 39) (M' := (u0, n9)) (rest := []) (st' := []) F dX8_image_36 rfl (tX8_copies_53_56 hr8) mlRX8_231 msX8_copies ⟨Nat.le_of_ble_eq_true rfl, Nat.le_of_ble_eq_true rfl⟩ rfl rfl (Nat.le_of_ble_eq_true rfl) rfl ?_
      refine fr_aload_n (q := 40) F dX8_image_39 rfl rfl ?_
      refine fr_gfR (q := 43) (j := 57) F dX8_image_40 rfl faRX8_22 (by decide) rfl rfl ?_
      refine fr_iload_n (q := 44) F dX8_image_43 rfl rfl ?_
      refine fr_iconst (q := 45) (v := 1) F dX8_image_44 rfl (by decide) ?_
      obtain ⟨hi10, h⟩ := fr_ck_some h
      obtain ⟨n11, hn12, h⟩ := fr_lt_some h
      refine fr_zas (q := 46) (M' := (u0, n11)) (x := true) F dX8_image_45 rfl hi10 (by decide) rfl (congrArg (fun z => (u0, z)) hn12) ?_
      refine fr_iconst (q := 47) (v := 1) F dX8_image_46 rfl (by decide) ?_
      obtain ⟨rfl, rfl⟩ := Prod.mk.inj (Option.some.inj h)
      exact fr_iret F E rfl dX8_image_47
    · rw [if_neg hc6] at h
      refine fr_ldc (q := 22) F dX8_image_20 rfl kcRX8_238 ?_
      obtain ⟨rfl, rfl⟩ := Prod.mk.inj (Option.some.inj h)
      exact fr_iret F E rfl dX8_image_22
  · rw [if_neg hc3] at h
    refine fr_ldc (q := 12) F dX8_image_10 rfl kcRX8_209 ?_
    obtain ⟨rfl, rfl⟩ := Prod.mk.inj (Option.some.inj h)
    exact fr_iret F E rfl dX8_image_12
/-! FeastRota$Book.become (3, 18) -/
def fX1_become_3_18 (n0 : fr_N) : Option fr_N := fr_lt (fr_up n0 3 0 (fr_b true)) fun n1 => (fr_lt (fr_up n1 3 1 (n1 18 1)) fun n3 => (fr_lt (fr_up n3 3 2 (n3 18 2)) fun n5 => (fr_lt (fr_up n5 3 3 (n5 18 3)) fun n7 => (fr_lt (fr_cp n7 19 4 0 0 6) fun n9 => (fr_lt (fr_cp n9 20 5 0 0 48) fun n11 => (fr_lt (fr_cp n11 21 6 0 0 4) fun n13 => (fr_lt (fr_cp n13 22 7 0 0 4) fun n15 => (fr_lt (fr_cp n15 23 8 0 0 4) fun n17 => (fr_lt (fr_cp n17 24 9 0 0 5) fun n19 => (fr_lt (fr_cp n19 25 10 0 0 5) fun n21 => (some n21)))))))))))
theorem tX1_become_3_18 {l : Launch} {G : fr_G} {u0 : fr_N} {n0 : fr_N} {nz : fr_N} (h : fX1_become_3_18 n0 = some nz) : fr_Met l G YX1_become [.ref 3, .ref 18] (n0, u0) none (nz, u0) := by
  refine fr_met (pad := List.replicate 0 none) (by decide) (Nat.le_of_ble_eq_true rfl) (fun _ h => List.eq_of_mem_replicate h) ⟨rfl, rfl⟩ (fun K F hG hL E => ?_)
  subst hG; subst hL
  rw [fX1_become_3_18] at h
  show fr_V YX1_become K 0 [some (.ref 3), some (.ref 18)] [] (n0, u0)
  refine fr_aload_n (q := 1) F dX1_become_0 rfl rfl ?_
  refine fr_iconst (q := 2) (v := 1) F dX1_become_1 rfl (by decide) ?_
  obtain ⟨n1, hn2, h⟩ := fr_lt_some h
  refine fr_pfZ (q := 5) (M' := (n1, u0)) (x := true) F dX1_become_2 rfl fpRX1_44 (by decide) rfl rfl (congrArg (fun z => (z, u0)) hn2) ?_
  refine fr_aload_n (q := 6) F dX1_become_5 rfl rfl ?_
  refine fr_aload_n (q := 7) F dX1_become_6 rfl rfl ?_
  refine fr_gfI (q := 10) (x := (n1 18 1)) F dX1_become_7 rfl faRX1_48 (by decide) rfl rfl rfl ?_
  obtain ⟨n3, hn4, h⟩ := fr_lt_some h
  refine fr_pfI (q := 13) (M' := (n3, u0)) F dX1_become_10 rfl fpRX1_48 (by decide) rfl rfl (congrArg (fun z => (z, u0)) hn4) ?_
  refine fr_aload_n (q := 14) F dX1_become_13 rfl rfl ?_
  refine fr_aload_n (q := 15) F dX1_become_14 rfl rfl ?_
  refine fr_gfI (q := 18) (x := (n3 18 2)) F dX1_become_15 rfl faRX1_52 (by decide) rfl rfl rfl ?_
  obtain ⟨n5, hn6, h⟩ := fr_lt_some h
  refine fr_pfI (q := 21) (M' := (n5, u0)) F dX1_become_18 rfl fpRX1_52 (by decide) rfl rfl (congrArg (fun z => (z, u0)) hn6) ?_
  refine fr_aload_n (q := 22) F dX1_become_21 rfl rfl ?_
  refine fr_aload_n (q := 23) F dX1_become_22 rfl rfl ?_
  refine fr_gfI (q := 26) (x := (n5 18 3)) F dX1_become_23 rfl faRX1_55 (by decide) rfl rfl rfl ?_
  obtain ⟨n7, hn8, h⟩ := fr_lt_some h
  refine fr_pfI (q := 29) (M' := (n7, u0)) F dX1_become_26 rfl fpRX1_55 (by decide) rfl rfl (congrArg (fun z => (z, u0)) hn8) ?_
  refine fr_aload_n (q := 30) F dX1_become_29 rfl rfl ?_
  refine fr_gfR (q := 33) (j := 19) F dX1_become_30 rfl faRX1_9 (by decide) rfl rfl ?_
  refine fr_iconst (q := 34) (v := 0) F dX1_become_33 rfl (by decide) ?_
  refine fr_aload_n (q := 35) F dX1_become_34 rfl rfl ?_
  refine fr_gfR (q := 38) (j := 4) F dX1_become_35 rfl faRX1_9 (by decide) rfl rfl ?_
  refine fr_iconst (q := 39) (v := 0) F dX1_become_38 rfl (by decide) ?_
  refine fr_bipush (q := 41) (v := 6) F dX1_become_39 rfl (by decide) ?_
  obtain ⟨n9, hn10, h⟩ := fr_lt_some h
  refine fr_acp (q := 44) (M' := (n9, u0)) F dX1_become_41 rfl mlRX1_64 mm_acp (by decide) rfl (by decide) rfl (by decide) (by decide) (by decide) (by decide) (by decide) ⟨Nat.le_of_ble_eq_true rfl, Nat.le_of_ble_eq_true rfl⟩ (congrArg (fun z => (z, u0)) hn10) ?_
  refine fr_aload_n (q := 45) F dX1_become_44 rfl rfl ?_
  refine fr_gfR (q := 48) (j := 20) F dX1_become_45 rfl faRX1_15 (by decide) rfl rfl ?_
  refine fr_iconst (q := 49) (v := 0) F dX1_become_48 rfl (by decide) ?_
  refine fr_aload_n (q := 50) F dX1_become_49 rfl rfl ?_
  refine fr_gfR (q := 53) (j := 5) F dX1_become_50 rfl faRX1_15 (by decide) rfl rfl ?_
  refine fr_iconst (q := 54) (v := 0) F dX1_become_53 rfl (by decide) ?_
  refine fr_bipush (q := 56) (v := 48) F dX1_become_54 rfl (by decide) ?_
  obtain ⟨n11, hn12, h⟩ := fr_lt_some h
  refine fr_acp (q := 59) (M' := (n11, u0)) F dX1_become_56 rfl mlRX1_64 mm_acp (by decide) rfl (by decide) rfl (by decide) (by decide) (by decide) (by decide) (by decide) ⟨Nat.le_of_ble_eq_true rfl, Nat.le_of_ble_eq_true rfl⟩ (congrArg (fun z => (z, u0)) hn12) ?_
  refine fr_aload_n (q := 60) F dX1_become_59 rfl rfl ?_
  refine fr_gfR (q := 63) (j := 21) F dX1_become_60 rfl faRX1_18 (by decide) rfl rfl ?_
  refine fr_iconst (q := 64) (v := 0) F dX1_become_63 rfl (by decide) ?_
  refine fr_aload_n (q := 65) F dX1_become_64 rfl rfl ?_
  refine fr_gfR (q := 68) (j := 6) F dX1_become_65 rfl faRX1_18 (by decide) rfl rfl ?_
  refine fr_iconst (q := 69) (v := 0) F dX1_become_68 rfl (by decide) ?_
  refine fr_iconst (q := 70) (v := 4) F dX1_become_69 rfl (by decide) ?_
  obtain ⟨n13, hn14, h⟩ := fr_lt_some h
  refine fr_acp (q := 73) (M' := (n13, u0)) F dX1_become_70 rfl mlRX1_64 mm_acp (by decide) rfl (by decide) rfl (by decide) (by decide) (by decide) (by decide) (by decide) ⟨Nat.le_of_ble_eq_true rfl, Nat.le_of_ble_eq_true rfl⟩ (congrArg (fun z => (z, u0)) hn14) ?_
  refine fr_aload_n (q := 74) F dX1_become_73 rfl rfl ?_
  refine fr_gfR (q := 77) (j := 22) F dX1_become_74 rfl faRX1_21 (by decide) rfl rfl ?_
  refine fr_iconst (q := 78) (v := 0) F dX1_become_77 rfl (by decide) ?_
  refine fr_aload_n (q := 79) F dX1_become_78 rfl rfl ?_
  refine fr_gfR (q := 82) (j := 7) F dX1_become_79 rfl faRX1_21 (by decide) rfl rfl ?_
  refine fr_iconst (q := 83) (v := 0) F dX1_become_82 rfl (by decide) ?_
  refine fr_iconst (q := 84) (v := 4) F dX1_become_83 rfl (by decide) ?_
  obtain ⟨n15, hn16, h⟩ := fr_lt_some h
  refine fr_acp (q := 87) (M' := (n15, u0)) F dX1_become_84 rfl mlRX1_64 mm_acp (by decide) rfl (by decide) rfl (by decide) (by decide) (by decide) (by decide) (by decide) ⟨Nat.le_of_ble_eq_true rfl, Nat.le_of_ble_eq_true rfl⟩ (congrArg (fun z => (z, u0)) hn16) ?_
  refine fr_aload_n (q := 88) F dX1_become_87 rfl rfl ?_
  refine fr_gfR (q := 91) (j := 23) F dX1_become_88 rfl faRX1_24 (by decide) rfl rfl ?_
  refine fr_iconst (q := 92) (v := 0) F dX1_become_91 rfl (by decide) ?_
  refine fr_aload_n (q := 93) F dX1_become_92 rfl rfl ?_
  refine fr_gfR (q := 96) (j := 8) F dX1_become_93 rfl faRX1_24 (by decide) rfl rfl ?_
  refine fr_iconst (q := 97) (v := 0) F dX1_become_96 rfl (by decide) ?_
  refine fr_iconst (q := 98) (v := 4) F dX1_become_97 rfl (by decide) ?_
  obtain ⟨n17, hn18, h⟩ := fr_lt_some h
  refine fr_acp (q := 101) (M' := (n17, u0)) F dX1_become_98 rfl mlRX1_64 mm_acp (by decide) rfl (by decide) rfl (by decide) (by decide) (by decide) (by decide) (by decide) ⟨Nat.le_of_ble_eq_true rfl, Nat.le_of_ble_eq_true rfl⟩ (congrArg (fun z => (z, u0)) hn18) ?_
  refine fr_aload_n (q := 102) F dX1_become_101 rfl rfl ?_
  refine fr_gfR (q := 105) (j := 24) F dX1_become_102 rfl faRX1_27 (by decide) rfl rfl ?_
  refine fr_iconst (q := 106) (v := 0) F dX1_become_105 rfl (by decide) ?_
  refine fr_aload_n (q := 107) F dX1_become_106 rfl rfl ?_
  refine fr_gfR (q := 110) (j := 9) F dX1_become_107 rfl faRX1_27 (by decide) rfl rfl ?_
  refine fr_iconst (q := 111) (v := 0) F dX1_become_110 rfl (by decide) ?_
  refine fr_iconst (q := 112) (v := 5) F dX1_become_111 rfl (by decide) ?_
  obtain ⟨n19, hn20, h⟩ := fr_lt_some h
  refine fr_acp (q := 115) (M' := (n19, u0)) F dX1_become_112 rfl mlRX1_64 mm_acp (by decide) rfl (by decide) rfl (by decide) (by decide) (by decide) (by decide) (by decide) ⟨Nat.le_of_ble_eq_true rfl, Nat.le_of_ble_eq_true rfl⟩ (congrArg (fun z => (z, u0)) hn20) ?_
  refine fr_aload_n (q := 116) F dX1_become_115 rfl rfl ?_
  refine fr_gfR (q := 119) (j := 25) F dX1_become_116 rfl faRX1_30 (by decide) rfl rfl ?_
  refine fr_iconst (q := 120) (v := 0) F dX1_become_119 rfl (by decide) ?_
  refine fr_aload_n (q := 121) F dX1_become_120 rfl rfl ?_
  refine fr_gfR (q := 124) (j := 10) F dX1_become_121 rfl faRX1_30 (by decide) rfl rfl ?_
  refine fr_iconst (q := 125) (v := 0) F dX1_become_124 rfl (by decide) ?_
  refine fr_iconst (q := 126) (v := 5) F dX1_become_125 rfl (by decide) ?_
  obtain ⟨n21, hn22, h⟩ := fr_lt_some h
  refine fr_acp (q := 129) (M' := (n21, u0)) F dX1_become_126 rfl mlRX1_64 mm_acp (by decide) rfl (by decide) rfl (by decide) (by decide) (by decide) (by decide) (by decide) ⟨Nat.le_of_ble_eq_true rfl, Nat.le_of_ble_eq_true rfl⟩ (congrArg (fun z => (z, u0)) hn22) ?_
  obtain rfl := Option.some.inj h
  exact fr_vret F E rfl dX1_become_129
/-! FeastRota$Book.become (3, 26) -/
def fX1_become_3_26 (n0 : fr_N) : Option fr_N := fr_lt (fr_up n0 3 0 (fr_b true)) fun n1 => (fr_lt (fr_up n1 3 1 (n1 26 1)) fun n3 => (fr_lt (fr_up n3 3 2 (n3 26 2)) fun n5 => (fr_lt (fr_up n5 3 3 (n5 26 3)) fun n7 => (fr_lt (fr_cp n7 27 4 0 0 6) fun n9 => (fr_lt (fr_cp n9 28 5 0 0 48) fun n11 => (fr_lt (fr_cp n11 29 6 0 0 4) fun n13 => (fr_lt (fr_cp n13 30 7 0 0 4) fun n15 => (fr_lt (fr_cp n15 31 8 0 0 4) fun n17 => (fr_lt (fr_cp n17 32 9 0 0 5) fun n19 => (fr_lt (fr_cp n19 33 10 0 0 5) fun n21 => (some n21)))))))))))
theorem tX1_become_3_26 {l : Launch} {G : fr_G} {u0 : fr_N} {n0 : fr_N} {nz : fr_N} (h : fX1_become_3_26 n0 = some nz) : fr_Met l G YX1_become [.ref 3, .ref 26] (n0, u0) none (nz, u0) := by
  refine fr_met (pad := List.replicate 0 none) (by decide) (Nat.le_of_ble_eq_true rfl) (fun _ h => List.eq_of_mem_replicate h) ⟨rfl, rfl⟩ (fun K F hG hL E => ?_)
  subst hG; subst hL
  rw [fX1_become_3_26] at h
  show fr_V YX1_become K 0 [some (.ref 3), some (.ref 26)] [] (n0, u0)
  refine fr_aload_n (q := 1) F dX1_become_0 rfl rfl ?_
  refine fr_iconst (q := 2) (v := 1) F dX1_become_1 rfl (by decide) ?_
  obtain ⟨n1, hn2, h⟩ := fr_lt_some h
  refine fr_pfZ (q := 5) (M' := (n1, u0)) (x := true) F dX1_become_2 rfl fpRX1_44 (by decide) rfl rfl (congrArg (fun z => (z, u0)) hn2) ?_
  refine fr_aload_n (q := 6) F dX1_become_5 rfl rfl ?_
  refine fr_aload_n (q := 7) F dX1_become_6 rfl rfl ?_
  refine fr_gfI (q := 10) (x := (n1 26 1)) F dX1_become_7 rfl faRX1_48 (by decide) rfl rfl rfl ?_
  obtain ⟨n3, hn4, h⟩ := fr_lt_some h
  refine fr_pfI (q := 13) (M' := (n3, u0)) F dX1_become_10 rfl fpRX1_48 (by decide) rfl rfl (congrArg (fun z => (z, u0)) hn4) ?_
  refine fr_aload_n (q := 14) F dX1_become_13 rfl rfl ?_
  refine fr_aload_n (q := 15) F dX1_become_14 rfl rfl ?_
  refine fr_gfI (q := 18) (x := (n3 26 2)) F dX1_become_15 rfl faRX1_52 (by decide) rfl rfl rfl ?_
  obtain ⟨n5, hn6, h⟩ := fr_lt_some h
  refine fr_pfI (q := 21) (M' := (n5, u0)) F dX1_become_18 rfl fpRX1_52 (by decide) rfl rfl (congrArg (fun z => (z, u0)) hn6) ?_
  refine fr_aload_n (q := 22) F dX1_become_21 rfl rfl ?_
  refine fr_aload_n (q := 23) F dX1_become_22 rfl rfl ?_
  refine fr_gfI (q := 26) (x := (n5 26 3)) F dX1_become_23 rfl faRX1_55 (by decide) rfl rfl rfl ?_
  obtain ⟨n7, hn8, h⟩ := fr_lt_some h
  refine fr_pfI (q := 29) (M' := (n7, u0)) F dX1_become_26 rfl fpRX1_55 (by decide) rfl rfl (congrArg (fun z => (z, u0)) hn8) ?_
  refine fr_aload_n (q := 30) F dX1_become_29 rfl rfl ?_
  refine fr_gfR (q := 33) (j := 27) F dX1_become_30 rfl faRX1_9 (by decide) rfl rfl ?_
  refine fr_iconst (q := 34) (v := 0) F dX1_become_33 rfl (by decide) ?_
  refine fr_aload_n (q := 35) F dX1_become_34 rfl rfl ?_
  refine fr_gfR (q := 38) (j := 4) F dX1_become_35 rfl faRX1_9 (by decide) rfl rfl ?_
  refine fr_iconst (q := 39) (v := 0) F dX1_become_38 rfl (by decide) ?_
  refine fr_bipush (q := 41) (v := 6) F dX1_become_39 rfl (by decide) ?_
  obtain ⟨n9, hn10, h⟩ := fr_lt_some h
  refine fr_acp (q := 44) (M' := (n9, u0)) F dX1_become_41 rfl mlRX1_64 mm_acp (by decide) rfl (by decide) rfl (by decide) (by decide) (by decide) (by decide) (by decide) ⟨Nat.le_of_ble_eq_true rfl, Nat.le_of_ble_eq_true rfl⟩ (congrArg (fun z => (z, u0)) hn10) ?_
  refine fr_aload_n (q := 45) F dX1_become_44 rfl rfl ?_
  refine fr_gfR (q := 48) (j := 28) F dX1_become_45 rfl faRX1_15 (by decide) rfl rfl ?_
  refine fr_iconst (q := 49) (v := 0) F dX1_become_48 rfl (by decide) ?_
  refine fr_aload_n (q := 50) F dX1_become_49 rfl rfl ?_
  refine fr_gfR (q := 53) (j := 5) F dX1_become_50 rfl faRX1_15 (by decide) rfl rfl ?_
  refine fr_iconst (q := 54) (v := 0) F dX1_become_53 rfl (by decide) ?_
  refine fr_bipush (q := 56) (v := 48) F dX1_become_54 rfl (by decide) ?_
  obtain ⟨n11, hn12, h⟩ := fr_lt_some h
  refine fr_acp (q := 59) (M' := (n11, u0)) F dX1_become_56 rfl mlRX1_64 mm_acp (by decide) rfl (by decide) rfl (by decide) (by decide) (by decide) (by decide) (by decide) ⟨Nat.le_of_ble_eq_true rfl, Nat.le_of_ble_eq_true rfl⟩ (congrArg (fun z => (z, u0)) hn12) ?_
  refine fr_aload_n (q := 60) F dX1_become_59 rfl rfl ?_
  refine fr_gfR (q := 63) (j := 29) F dX1_become_60 rfl faRX1_18 (by decide) rfl rfl ?_
  refine fr_iconst (q := 64) (v := 0) F dX1_become_63 rfl (by decide) ?_
  refine fr_aload_n (q := 65) F dX1_become_64 rfl rfl ?_
  refine fr_gfR (q := 68) (j := 6) F dX1_become_65 rfl faRX1_18 (by decide) rfl rfl ?_
  refine fr_iconst (q := 69) (v := 0) F dX1_become_68 rfl (by decide) ?_
  refine fr_iconst (q := 70) (v := 4) F dX1_become_69 rfl (by decide) ?_
  obtain ⟨n13, hn14, h⟩ := fr_lt_some h
  refine fr_acp (q := 73) (M' := (n13, u0)) F dX1_become_70 rfl mlRX1_64 mm_acp (by decide) rfl (by decide) rfl (by decide) (by decide) (by decide) (by decide) (by decide) ⟨Nat.le_of_ble_eq_true rfl, Nat.le_of_ble_eq_true rfl⟩ (congrArg (fun z => (z, u0)) hn14) ?_
  refine fr_aload_n (q := 74) F dX1_become_73 rfl rfl ?_
  refine fr_gfR (q := 77) (j := 30) F dX1_become_74 rfl faRX1_21 (by decide) rfl rfl ?_
  refine fr_iconst (q := 78) (v := 0) F dX1_become_77 rfl (by decide) ?_
  refine fr_aload_n (q := 79) F dX1_become_78 rfl rfl ?_
  refine fr_gfR (q := 82) (j := 7) F dX1_become_79 rfl faRX1_21 (by decide) rfl rfl ?_
  refine fr_iconst (q := 83) (v := 0) F dX1_become_82 rfl (by decide) ?_
  refine fr_iconst (q := 84) (v := 4) F dX1_become_83 rfl (by decide) ?_
  obtain ⟨n15, hn16, h⟩ := fr_lt_some h
  refine fr_acp (q := 87) (M' := (n15, u0)) F dX1_become_84 rfl mlRX1_64 mm_acp (by decide) rfl (by decide) rfl (by decide) (by decide) (by decide) (by decide) (by decide) ⟨Nat.le_of_ble_eq_true rfl, Nat.le_of_ble_eq_true rfl⟩ (congrArg (fun z => (z, u0)) hn16) ?_
  refine fr_aload_n (q := 88) F dX1_become_87 rfl rfl ?_
  refine fr_gfR (q := 91) (j := 31) F dX1_become_88 rfl faRX1_24 (by decide) rfl rfl ?_
  refine fr_iconst (q := 92) (v := 0) F dX1_become_91 rfl (by decide) ?_
  refine fr_aload_n (q := 93) F dX1_become_92 rfl rfl ?_
  refine fr_gfR (q := 96) (j := 8) F dX1_become_93 rfl faRX1_24 (by decide) rfl rfl ?_
  refine fr_iconst (q := 97) (v := 0) F dX1_become_96 rfl (by decide) ?_
  refine fr_iconst (q := 98) (v := 4) F dX1_become_97 rfl (by decide) ?_
  obtain ⟨n17, hn18, h⟩ := fr_lt_some h
  refine fr_acp (q := 101) (M' := (n17, u0)) F dX1_become_98 rfl mlRX1_64 mm_acp (by decide) rfl (by decide) rfl (by decide) (by decide) (by decide) (by decide) (by decide) ⟨Nat.le_of_ble_eq_true rfl, Nat.le_of_ble_eq_true rfl⟩ (congrArg (fun z => (z, u0)) hn18) ?_
  refine fr_aload_n (q := 102) F dX1_become_101 rfl rfl ?_
  refine fr_gfR (q := 105) (j := 32) F dX1_become_102 rfl faRX1_27 (by decide) rfl rfl ?_
  refine fr_iconst (q := 106) (v := 0) F dX1_become_105 rfl (by decide) ?_
  refine fr_aload_n (q := 107) F dX1_become_106 rfl rfl ?_
  refine fr_gfR (q := 110) (j := 9) F dX1_become_107 rfl faRX1_27 (by decide) rfl rfl ?_
  refine fr_iconst (q := 111) (v := 0) F dX1_become_110 rfl (by decide) ?_
  refine fr_iconst (q := 112) (v := 5) F dX1_become_111 rfl (by decide) ?_
  obtain ⟨n19, hn20, h⟩ := fr_lt_some h
  refine fr_acp (q := 115) (M' := (n19, u0)) F dX1_become_112 rfl mlRX1_64 mm_acp (by decide) rfl (by decide) rfl (by decide) (by decide) (by decide) (by decide) (by decide) ⟨Nat.le_of_ble_eq_true rfl, Nat.le_of_ble_eq_true rfl⟩ (congrArg (fun z => (z, u0)) hn20) ?_
  refine fr_aload_n (q := 116) F dX1_become_115 rfl rfl ?_
  refine fr_gfR (q := 119) (j := 33) F dX1_become_116 rfl faRX1_30 (by decide) rfl rfl ?_
  refine fr_iconst (q := 120) (v := 0) F dX1_become_119 rfl (by decide) ?_
  refine fr_aload_n (q := 121) F dX1_become_120 rfl rfl ?_
  refine fr_gfR (q := 124) (j := 10) F dX1_become_121 rfl faRX1_30 (by decide) rfl rfl ?_
  refine fr_iconst (q := 125) (v := 0) F dX1_become_124 rfl (by decide) ?_
  refine fr_iconst (q := 126) (v := 5) F dX1_become_125 rfl (by decide) ?_
  obtain ⟨n21, hn22, h⟩ := fr_lt_some h
  refine fr_acp (q := 129) (M' := (n21, u0)) F dX1_become_126 rfl mlRX1_64 mm_acp (by decide) rfl (by decide) rfl (by decide) (by decide) (by decide) (by decide) (by decide) ⟨Nat.le_of_ble_eq_true rfl, Nat.le_of_ble_eq_true rfl⟩ (congrArg (fun z => (z, u0)) hn22) ?_
  obtain rfl := Option.some.inj h
  exact fr_vret F E rfl dX1_become_129
/-! FeastRota.restore (0, None) -/
def fX7_restore (a1 : Int32) (n0 : fr_N) : Option (Int32 × fr_N) := fr_bd (fX7_within a1 (0 : Int32) (1 : Int32)) fun r1 => (if r1 = true then fr_ck a1 2 (if a1 = 0 then if (n0 18 0) = 0 then some ((-1000002 : Int32), n0) else fr_ck a1 2 (if a1 = 0 then fr_bd (fX1_become_3_18 n0) fun n11 => (fr_lt (fr_up n11 43 4 (0 : Int32)) fun n12 => (some ((1 : Int32), n12))) else fr_bd (fX1_become_3_26 n0) fun n16 => (fr_lt (fr_up n16 43 4 (0 : Int32)) fun n17 => (some ((1 : Int32), n17)))) else if (n0 26 0) = 0 then some ((-1000002 : Int32), n0) else fr_ck a1 2 (if a1 = 0 then fr_bd (fX1_become_3_18 n0) fun n24 => (fr_lt (fr_up n24 43 4 (0 : Int32)) fun n25 => (some ((1 : Int32), n25))) else fr_bd (fX1_become_3_26 n0) fun n29 => (fr_lt (fr_up n29 43 4 (0 : Int32)) fun n30 => (some ((1 : Int32), n30))))) else some ((-1000001 : Int32), n0))
theorem tX7_restore {l : Launch} {G : fr_G} {u0 : fr_N} {a1 : Int32} {n0 : fr_N} {rz : Int32} {nz : fr_N} (h : fX7_restore a1 n0 = some (rz, nz)) : fr_Met l G YX7_restore [.ref 0, .int a1] (n0, u0) (some (.int rz)) (nz, u0) := by
  refine fr_met (pad := List.replicate 0 none) (by decide) (Nat.le_of_ble_eq_true rfl) (fun _ h => List.eq_of_mem_replicate h) ⟨rfl, rfl⟩ (fun K F hG hL E => ?_)
  subst hG; subst hL
  rw [fX7_restore] at h
  show fr_V YX7_restore K 0 [some (.ref 0), some (.int a1)] [] (n0, u0)
  refine fr_iload_n (q := 1) F dX7_restore_0 rfl rfl ?_
  refine fr_iconst (q := 2) (v := 0) F dX7_restore_1 rfl (by decide) ?_
  refine fr_iconst (q := 3) (v := 1) F dX7_restore_2 rfl (by decide) ?_
  obtain ⟨r1, hr2, h⟩ := fr_bd_some h
  refine fr_callS (q := 6) (M' := (n0, u0)) (rest := []) (st' := [.int (fr_b r1)]) F dX7_restore_3 rfl (tX7_within hr2) mlRX7_68 msX7_within ⟨Nat.le_of_ble_eq_true rfl, Nat.le_of_ble_eq_true rfl⟩ rfl rfl (Nat.le_of_ble_eq_true rfl) rfl ?_
  refine fr_if_neb (q := 9) (tgt := 12) F dX7_restore_6 (by decide) rfl (fun hc3 => ?_) (fun hc3 => ?_)
  · rw [if_pos hc3] at h
    refine fr_aload_n (q := 13) F dX7_restore_12 rfl rfl ?_
    refine fr_gfR (q := 16) (j := 17) F dX7_restore_13 rfl faRX7_40 (by decide) rfl rfl ?_
    refine fr_iload_n (q := 17) F dX7_restore_16 rfl rfl ?_
    obtain ⟨hi4, h⟩ := fr_ck_some h
    by_cases hc5 : a1 = 0
    · rw [if_pos hc5] at h
      refine fr_aal (q := 18) (j := 18) F dX7_restore_17 rfl hi4 (by decide) rfl (by rw [hc5]; rfl) ?_
      refine fr_gfI (q := 21) (x := (n0 18 0)) F dX7_restore_18 rfl faRX7_128 (by decide) rfl rfl rfl ?_
      refine fr_if_ne (q := 24) (tgt := 27) F dX7_restore_21 (by decide) rfl (fun hc6 => ?_) (fun hc6 => ?_)
      · rw [if_neg hc6] at h
        refine fr_aload_n (q := 28) F dX7_restore_27 rfl rfl ?_
        refine fr_gfR (q := 31) (j := 3) F dX7_restore_28 rfl faRX7_36 (by decide) rfl rfl ?_
        refine fr_aload_n (q := 32) F dX7_restore_31 rfl rfl ?_
        refine fr_gfR (q := 35) (j := 17) F dX7_restore_32 rfl faRX7_40 (by decide) rfl rfl ?_
        refine fr_iload_n (q := 36) F dX7_restore_35 rfl rfl ?_
        obtain ⟨hi7, h⟩ := fr_ck_some h
        by_cases hc8 : a1 = 0
        · rw [if_pos hc8] at h
          refine fr_aal (q := 37) (j := 18) F dX7_restore_36 rfl hi7 (by decide) rfl (by rw [hc8]; rfl) ?_
          obtain ⟨n11, hr10, h⟩ := fr_bd_some h
          refine fr_callV (q := 40) (M' := (n11, u0)) (rest := []) (st' := []) F dX7_restore_37 rfl (tX1_become_3_18 hr10) mlRX7_95 msX1_become ⟨Nat.le_of_ble_eq_true rfl, Nat.le_of_ble_eq_true rfl⟩ (by decide) rfl rfl rfl (Nat.le_of_ble_eq_true rfl) rfl ?_
          refine fr_aload_n (q := 41) F dX7_restore_40 rfl rfl ?_
          refine fr_gfR (q := 44) (j := 43) F dX7_restore_41 rfl faRX7_47 (by decide) rfl rfl ?_
          refine fr_iconst (q := 45) (v := 0) F dX7_restore_44 rfl (by decide) ?_
          obtain ⟨n12, hn13, h⟩ := fr_lt_some h
          refine fr_pfI (q := 48) (M' := (n12, u0)) F dX7_restore_45 rfl fpRX7_99 (by decide) rfl rfl (congrArg (fun z => (z, u0)) hn13) ?_
          refine fr_iconst (q := 49) (v := 1) F dX7_restore_48 rfl (by decide) ?_
          obtain ⟨rfl, rfl⟩ := Prod.mk.inj (Option.some.inj h)
          exact fr_iret F E rfl dX7_restore_49
        · rw [if_neg hc8] at h
          refine fr_aal (q := 37) (j := 26) F dX7_restore_36 rfl hi7 (by decide) rfl (fr_im1 hi7 hc8) ?_
          obtain ⟨n16, hr15, h⟩ := fr_bd_some h
          refine fr_callV (q := 40) (M' := (n16, u0)) (rest := []) (st' := []) F dX7_restore_37 rfl (tX1_become_3_26 hr15) mlRX7_95 msX1_become ⟨Nat.le_of_ble_eq_true rfl, Nat.le_of_ble_eq_true rfl⟩ (by decide) rfl rfl rfl (Nat.le_of_ble_eq_true rfl) rfl ?_
          refine fr_aload_n (q := 41) F dX7_restore_40 rfl rfl ?_
          refine fr_gfR (q := 44) (j := 43) F dX7_restore_41 rfl faRX7_47 (by decide) rfl rfl ?_
          refine fr_iconst (q := 45) (v := 0) F dX7_restore_44 rfl (by decide) ?_
          obtain ⟨n17, hn18, h⟩ := fr_lt_some h
          refine fr_pfI (q := 48) (M' := (n17, u0)) F dX7_restore_45 rfl fpRX7_99 (by decide) rfl rfl (congrArg (fun z => (z, u0)) hn18) ?_
          refine fr_iconst (q := 49) (v := 1) F dX7_restore_48 rfl (by decide) ?_
          obtain ⟨rfl, rfl⟩ := Prod.mk.inj (Option.some.inj h)
          exact fr_iret F E rfl dX7_restore_49
      · rw [if_pos hc6] at h
        refine fr_ldc (q := 26) F dX7_restore_24 rfl kcRX7_105 ?_
        obtain ⟨rfl, rfl⟩ := Prod.mk.inj (Option.some.inj h)
        exact fr_iret F E rfl dX7_restore_26
    · rw [if_neg hc5] at h
      refine fr_aal (q := 18) (j := 26) F dX7_restore_17 rfl hi4 (by decide) rfl (fr_im1 hi4 hc5) ?_
      refine fr_gfI (q := 21) (x := (n0 26 0)) F dX7_restore_18 rfl faRX7_128 (by decide) rfl rfl rfl ?_
      refine fr_if_ne (q := 24) (tgt := 27) F dX7_restore_21 (by decide) rfl (fun hc19 => ?_) (fun hc19 => ?_)
      · rw [if_neg hc19] at h
        refine fr_aload_n (q := 28) F dX7_restore_27 rfl rfl ?_
        refine fr_gfR (q := 31) (j := 3) F dX7_restore_28 rfl faRX7_36 (by decide) rfl rfl ?_
        refine fr_aload_n (q := 32) F dX7_restore_31 rfl rfl ?_
        refine fr_gfR (q := 35) (j := 17) F dX7_restore_32 rfl faRX7_40 (by decide) rfl rfl ?_
        refine fr_iload_n (q := 36) F dX7_restore_35 rfl rfl ?_
        obtain ⟨hi20, h⟩ := fr_ck_some h
        by_cases hc21 : a1 = 0
        · rw [if_pos hc21] at h
          refine fr_aal (q := 37) (j := 18) F dX7_restore_36 rfl hi20 (by decide) rfl (by rw [hc21]; rfl) ?_
          obtain ⟨n24, hr23, h⟩ := fr_bd_some h
          refine fr_callV (q := 40) (M' := (n24, u0)) (rest := []) (st' := []) F dX7_restore_37 rfl (tX1_become_3_18 hr23) mlRX7_95 msX1_become ⟨Nat.le_of_ble_eq_true rfl, Nat.le_of_ble_eq_true rfl⟩ (by decide) rfl rfl rfl (Nat.le_of_ble_eq_true rfl) rfl ?_
          refine fr_aload_n (q := 41) F dX7_restore_40 rfl rfl ?_
          refine fr_gfR (q := 44) (j := 43) F dX7_restore_41 rfl faRX7_47 (by decide) rfl rfl ?_
          refine fr_iconst (q := 45) (v := 0) F dX7_restore_44 rfl (by decide) ?_
          obtain ⟨n25, hn26, h⟩ := fr_lt_some h
          refine fr_pfI (q := 48) (M' := (n25, u0)) F dX7_restore_45 rfl fpRX7_99 (by decide) rfl rfl (congrArg (fun z => (z, u0)) hn26) ?_
          refine fr_iconst (q := 49) (v := 1) F dX7_restore_48 rfl (by decide) ?_
          obtain ⟨rfl, rfl⟩ := Prod.mk.inj (Option.some.inj h)
          exact fr_iret F E rfl dX7_restore_49
        · rw [if_neg hc21] at h
          refine fr_aal (q := 37) (j := 26) F dX7_restore_36 rfl hi20 (by decide) rfl (fr_im1 hi20 hc21) ?_
          obtain ⟨n29, hr28, h⟩ := fr_bd_some h
          refine fr_callV (q := 40) (M' := (n29, u0)) (rest := []) (st' := []) F dX7_restore_37 rfl (tX1_become_3_26 hr28) mlRX7_95 msX1_become ⟨Nat.le_of_ble_eq_true rfl, Nat.le_of_ble_eq_true rfl⟩ (by decide) rfl rfl rfl (Nat.le_of_ble_eq_true rfl) rfl ?_
          refine fr_aload_n (q := 41) F dX7_restore_40 rfl rfl ?_
          refine fr_gfR (q := 44) (j := 43) F dX7_restore_41 rfl faRX7_47 (by decide) rfl rfl ?_
          refine fr_iconst (q := 45) (v := 0) F dX7_restore_44 rfl (by decide) ?_
          obtain ⟨n30, hn31, h⟩ := fr_lt_some h
          refine fr_pfI (q := 48) (M' := (n30, u0)) F dX7_restore_45 rfl fpRX7_99 (by decide) rfl rfl (congrArg (fun z => (z, u0)) hn31) ?_
          refine fr_iconst (q := 49) (v := 1) F dX7_restore_48 rfl (by decide) ?_
          obtain ⟨rfl, rfl⟩ := Prod.mk.inj (Option.some.inj h)
          exact fr_iret F E rfl dX7_restore_49
      · rw [if_pos hc19] at h
        refine fr_ldc (q := 26) F dX7_restore_24 rfl kcRX7_105 ?_
        obtain ⟨rfl, rfl⟩ := Prod.mk.inj (Option.some.inj h)
        exact fr_iret F E rfl dX7_restore_26
  · rw [if_neg hc3] at h
    refine fr_ldc (q := 11) F dX7_restore_9 rfl kcRX7_72 ?_
    obtain ⟨rfl, rfl⟩ := Prod.mk.inj (Option.some.inj h)
    exact fr_iret F E rfl dX7_restore_11
/-! FeastRotaModel.copies (56, None, 53, None) -/
def fX8_copies_56_53_3 : Nat → Int32 → Int32 → Int32 → fr_N → Option fr_N
  | 0, _, _, _, _ => none
  | k + 1, x1, x3, x4, n0 => if (79 : Int32) ≤ x4 then some n0 else fr_ck (x1 + x4) 158 (fr_ck (x3 + x4) 79 (fr_lt (fr_up n0 1 (Int32.toNatClampNeg (x3 + x4)) (n0 4 (Int32.toNatClampNeg (x1 + x4)))) fun n4 => ((fX8_copies_56_53_3 k) x1 x3 (x4 + (1 : Int32)) n4)))
def fX8_copies_56_53 (a1 : Int32) (a3 : Int32) (n0 : fr_N) : Option fr_N := fX8_copies_56_53_3 2000 a1 a3 (0 : Int32) n0
theorem tX8_copies_56_53_3 {K : fr_K} {u0 : fr_N} {nz : fr_N} (F : fr_F YX8_copies K) (E : fr_R YX8_copies K none (u0, nz)) : ∀ (k : Nat) (x1 : Int32) (x3 : Int32) (x4 : Int32) (n0 : fr_N), fX8_copies_56_53_3 k x1 x3 x4 n0 = some nz → fr_V YX8_copies K 3 [some (.ref 56), some (.int x1), some (.ref 53), some (.int x3), some (.int x4)] [] (u0, n0) := by
  intro k
  induction k with
  | zero =>
    intro x1 x3 x4 n0 h
    rw [fX8_copies_56_53_3] at h
    cases h
  | succ k ih =>
    intro x1 x3 x4 n0 h
    rw [fX8_copies_56_53_3] at h
    refine fr_iload (q := 5) F dX8_copies_3 rfl rfl ?_
    refine fr_bipush (q := 7) (v := 79) F dX8_copies_5 rfl (by decide) ?_
    refine fr_icmp_ge (q := 10) (tgt := 28) F dX8_copies_7 (by decide) rfl (fun hc1 => ?_) (fun hc1 => ?_)
    · rw [if_pos hc1] at h
      obtain rfl := Option.some.inj h
      exact fr_vret F E rfl dX8_copies_28
    · rw [if_neg hc1] at h
      refine fr_aload_n (q := 11) F dX8_copies_10 rfl rfl ?_
      refine fr_iload_n (q := 12) F dX8_copies_11 rfl rfl ?_
      refine fr_iload (q := 14) F dX8_copies_12 rfl rfl ?_
      refine fr_iadd (q := 15) F dX8_copies_14 rfl ?_
      refine fr_aload_n (q := 16) F dX8_copies_15 rfl rfl ?_
      refine fr_iload_n (q := 17) F dX8_copies_16 rfl rfl ?_
      refine fr_iload (q := 19) F dX8_copies_17 rfl rfl ?_
      refine fr_iadd (q := 20) F dX8_copies_19 rfl ?_
      obtain ⟨hi2, h⟩ := fr_ck_some h
      refine fr_ial (q := 21) (x := (n0 4 (Int32.toNatClampNeg (x1 + x4)))) F dX8_copies_20 rfl hi2 (by decide) rfl rfl ?_
      obtain ⟨hi3, h⟩ := fr_ck_some h
      obtain ⟨n4, hn5, h⟩ := fr_lt_some h
      refine fr_ias (q := 22) (M' := (u0, n4)) F dX8_copies_21 rfl hi3 (by decide) rfl (congrArg (fun z => (u0, z)) hn5) ?_
      refine fr_iinc (q := 25) (v := (x4 + (1 : Int32))) F dX8_copies_22 rfl rfl rfl (by decide) rfl ?_
      refine fr_goto (tgt := 3) F dX8_copies_25 (by decide) ?_
      exact fr_wj (ih _ _ _ _ h) ⟨rfl, ⟨rfl, ⟨rfl, ⟨rfl, ⟨rfl, trivial⟩⟩⟩⟩⟩
theorem tX8_copies_56_53 {l : Launch} {G : fr_G} {u0 : fr_N} {a1 : Int32} {a3 : Int32} {n0 : fr_N} {nz : fr_N} (h : fX8_copies_56_53 a1 a3 n0 = some nz) : fr_Met l G YX8_copies [.ref 56, .int a1, .ref 53, .int a3] (u0, n0) none (u0, nz) := by
  refine fr_met (pad := List.replicate 1 none) (by decide) (Nat.le_of_ble_eq_true rfl) (fun _ h => List.eq_of_mem_replicate h) ⟨rfl, rfl⟩ (fun K F hG hL E => ?_)
  subst hG; subst hL
  rw [fX8_copies_56_53] at h
  show fr_V YX8_copies K 0 [some (.ref 56), some (.int a1), some (.ref 53), some (.int a3), none] [] (u0, n0)
  refine fr_iconst (q := 1) (v := 0) F dX8_copies_0 rfl (by decide) ?_
  refine fr_istore (q := 3) F dX8_copies_1 rfl (by decide) rfl ?_
  exact fr_wj (tX8_copies_56_53_3 F E _ _ _ _ _ h) ⟨rfl, ⟨rfl, ⟨rfl, ⟨rfl, ⟨rfl, trivial⟩⟩⟩⟩⟩
/-! FeastRotaModel.restore (52, None) -/
def fX8_restore (a1 : Int32) (n0 : fr_N) : Option (Int32 × fr_N) := fr_bd (fX8_in (Int32.toInt64 a1) (0 : Int64) (1 : Int64)) fun r1 => (if r1 = true then fr_ck a1 2 (if (n0 5 (Int32.toNatClampNeg a1)) = 0 then some ((-1000002 : Int32), n0) else fr_bd (fX8_copies_56_53 ((79 : Int32) * a1) (0 : Int32) n0) fun n8 => (fr_lt (fr_up n8 0 3 (0 : Int32)) fun n9 => (some ((1 : Int32), n9)))) else some ((-1000001 : Int32), n0))
theorem tX8_restore {l : Launch} {G : fr_G} {u0 : fr_N} {a1 : Int32} {n0 : fr_N} {rz : Int32} {nz : fr_N} (h : fX8_restore a1 n0 = some (rz, nz)) : fr_Met l G YX8_restore [.ref 52, .int a1] (u0, n0) (some (.int rz)) (u0, nz) := by
  refine fr_met (pad := List.replicate 0 none) (by decide) (Nat.le_of_ble_eq_true rfl) (fun _ h => List.eq_of_mem_replicate h) ⟨rfl, rfl⟩ (fun K F hG hL E => ?_)
  subst hG; subst hL
  rw [fX8_restore] at h
  show fr_V YX8_restore K 0 [some (.ref 52), some (.int a1)] [] (u0, n0)
  refine fr_iload_n (q := 1) F dX8_restore_0 rfl rfl ?_
  refine fr_i2l (q := 2) F dX8_restore_1 rfl ?_
  refine fr_lconst (q := 3) (v := 0) F dX8_restore_2 rfl (by decide) ?_
  refine fr_lconst (q := 4) (v := 1) F dX8_restore_3 rfl (by decide) ?_
  obtain ⟨r1, hr2, h⟩ := fr_bd_some h
  refine fr_callS (q := 7) (M' := (u0, n0)) (rest := []) (st' := [.int (fr_b r1)]) F dX8_restore_4 rfl (tX8_in hr2) mlRX8_55 msX8_in ⟨Nat.le_of_ble_eq_true rfl, Nat.le_of_ble_eq_true rfl⟩ rfl rfl (Nat.le_of_ble_eq_true rfl) rfl ?_
  refine fr_if_neb (q := 10) (tgt := 13) F dX8_restore_7 (by decide) rfl (fun hc3 => ?_) (fun hc3 => ?_)
  · rw [if_pos hc3] at h
    refine fr_aload_n (q := 14) F dX8_restore_13 rfl rfl ?_
    refine fr_gfR (q := 17) (j := 57) F dX8_restore_14 rfl faRX8_22 (by decide) rfl rfl ?_
    refine fr_iload_n (q := 18) F dX8_restore_17 rfl rfl ?_
    obtain ⟨hi4, h⟩ := fr_ck_some h
    refine fr_zal (q := 19) (x := (n0 5 (Int32.toNatClampNeg a1))) F dX8_restore_18 rfl hi4 (by decide) rfl rfl ?_
    refine fr_if_ne (q := 22) (tgt := 25) F dX8_restore_19 (by decide) rfl (fun hc5 => ?_) (fun hc5 => ?_)
    · rw [if_neg hc5] at h
      refine fr_aload_n (q := 26) F dX8_restore_25 rfl rfl ?_
      refine fr_gfR (q := 29) (j := 56) F dX8_restore_26 rfl faRX8_19 (by decide) rfl rfl ?_
      refine fr_bipush (q := 31) (v := 79) F dX8_restore_29 rfl (by decide) ?_
      refine fr_iload_n (q := 32) F dX8_restore_31 rfl rfl ?_
      refine fr_imul (q := 33) F dX8_restore_32 rfl ?_
      refine fr_aload_n (q := 34) F dX8_restore_33 rfl rfl ?_
      refine fr_gfR (q := 37) (j := 53) F dX8_restore_34 rfl faRX8_7 (by decide) rfl rfl ?_
      refine fr_iconst (q := 38) (v := 0) F dX8_restore_37 rfl (by decide) ?_
      obtain ⟨n8, hr7, h⟩ := fr_bd_some h
      refine fr_callS (q := 41) (M' := (u0, n8)) (rest := []) (st' := []) F dX8_restore_38 rfl (tX8_copies_56_53 hr7) mlRX8_231 msX8_copies ⟨Nat.le_of_ble_eq_true rfl, Nat.le_of_ble_eq_true rfl⟩ rfl rfl (Nat.le_of_ble_eq_true rfl) rfl ?_
      refine fr_aload_n (q := 42) F dX8_restore_41 rfl rfl ?_
      refine fr_iconst (q := 43) (v := 0) F dX8_restore_42 rfl (by decide) ?_
      obtain ⟨n9, hn10, h⟩ := fr_lt_some h
      refine fr_pfI (q := 46) (M' := (u0, n9)) F dX8_restore_43 rfl fpRX8_235 (by decide) rfl rfl (congrArg (fun z => (u0, z)) hn10) ?_
      refine fr_iconst (q := 47) (v := 1) F dX8_restore_46 rfl (by decide) ?_
      obtain ⟨rfl, rfl⟩ := Prod.mk.inj (Option.some.inj h)
      exact fr_iret F E rfl dX8_restore_47
    · rw [if_pos hc5] at h
      refine fr_ldc (q := 24) F dX8_restore_22 rfl kcRX8_238 ?_
      obtain ⟨rfl, rfl⟩ := Prod.mk.inj (Option.some.inj h)
      exact fr_iret F E rfl dX8_restore_24
  · rw [if_neg hc3] at h
    refine fr_ldc (q := 12) F dX8_restore_10 rfl kcRX8_209 ?_
    obtain ⟨rfl, rfl⟩ := Prod.mk.inj (Option.some.inj h)
    exact fr_iret F E rfl dX8_restore_12
/-! FeastRota.count (0, None) -/
def fX7_count (a1 : Int32) (n0 : fr_N) : Option Int32 := if a1 = (0 : Int32) then some (n0 3 1) else (if a1 = (1 : Int32) then some (n0 3 2) else (if a1 = (2 : Int32) then some (n0 3 3) else (if a1 = (3 : Int32) then some (n0 43 4) else (if a1 = (4 : Int32) then some (n0 1 1) else (some (-1000001 : Int32))))))
theorem tX7_count {l : Launch} {G : fr_G} {u0 : fr_N} {a1 : Int32} {n0 : fr_N} {rz : Int32} (h : fX7_count a1 n0 = some rz) : fr_Met l G YX7_count [.ref 0, .int a1] (n0, u0) (some (.int rz)) (n0, u0) := by
  refine fr_met (pad := List.replicate 0 none) (by decide) (Nat.le_of_ble_eq_true rfl) (fun _ h => List.eq_of_mem_replicate h) ⟨rfl, rfl⟩ (fun K F hG hL E => ?_)
  subst hG; subst hL
  rw [fX7_count] at h
  show fr_V YX7_count K 0 [some (.ref 0), some (.int a1)] [] (n0, u0)
  refine fr_iload_n (q := 1) F dX7_count_0 rfl rfl ?_
  by_cases hc1 : a1 = (0 : Int32)
  · rw [if_pos hc1] at h
    refine fr_tswI (k := 0) (off := 35) (tgt := 36) F hc1 dX7_count_1 (by decide) (by decide) (by decide) (by decide) ?_
    refine fr_aload_n (q := 37) F dX7_count_36 rfl rfl ?_
    refine fr_gfR (q := 40) (j := 3) F dX7_count_37 rfl faRX7_36 (by decide) rfl rfl ?_
    refine fr_gfI (q := 43) (x := (n0 3 1)) F dX7_count_40 rfl faRX7_102 (by decide) rfl rfl rfl ?_
    obtain rfl := Option.some.inj h
    exact fr_iret F E rfl dX7_count_43
  · rw [if_neg hc1] at h
    by_cases hc2 : a1 = (1 : Int32)
    · rw [if_pos hc2] at h
      refine fr_tswI (k := 1) (off := 43) (tgt := 44) F hc2 dX7_count_1 (by decide) (by decide) (by decide) (by decide) ?_
      refine fr_aload_n (q := 45) F dX7_count_44 rfl rfl ?_
      refine fr_gfR (q := 48) (j := 3) F dX7_count_45 rfl faRX7_36 (by decide) rfl rfl ?_
      refine fr_gfI (q := 51) (x := (n0 3 2)) F dX7_count_48 rfl faRX7_268 (by decide) rfl rfl rfl ?_
      obtain rfl := Option.some.inj h
      exact fr_iret F E rfl dX7_count_51
    · rw [if_neg hc2] at h
      by_cases hc3 : a1 = (2 : Int32)
      · rw [if_pos hc3] at h
        refine fr_tswI (k := 2) (off := 51) (tgt := 52) F hc3 dX7_count_1 (by decide) (by decide) (by decide) (by decide) ?_
        refine fr_aload_n (q := 53) F dX7_count_52 rfl rfl ?_
        refine fr_gfR (q := 56) (j := 3) F dX7_count_53 rfl faRX7_36 (by decide) rfl rfl ?_
        refine fr_gfI (q := 59) (x := (n0 3 3)) F dX7_count_56 rfl faRX7_271 (by decide) rfl rfl rfl ?_
        obtain rfl := Option.some.inj h
        exact fr_iret F E rfl dX7_count_59
      · rw [if_neg hc3] at h
        by_cases hc4 : a1 = (3 : Int32)
        · rw [if_pos hc4] at h
          refine fr_tswI (k := 3) (off := 59) (tgt := 60) F hc4 dX7_count_1 (by decide) (by decide) (by decide) (by decide) ?_
          refine fr_aload_n (q := 61) F dX7_count_60 rfl rfl ?_
          refine fr_gfR (q := 64) (j := 43) F dX7_count_61 rfl faRX7_47 (by decide) rfl rfl ?_
          refine fr_gfI (q := 67) (x := (n0 43 4)) F dX7_count_64 rfl faRX7_99 (by decide) rfl rfl rfl ?_
          obtain rfl := Option.some.inj h
          exact fr_iret F E rfl dX7_count_67
        · rw [if_neg hc4] at h
          by_cases hc5 : a1 = (4 : Int32)
          · rw [if_pos hc5] at h
            refine fr_tswI (k := 4) (off := 67) (tgt := 68) F hc5 dX7_count_1 (by decide) (by decide) (by decide) (by decide) ?_
            refine fr_aload_n (q := 69) F dX7_count_68 rfl rfl ?_
            refine fr_gfR (q := 72) (j := 1) F dX7_count_69 rfl faRX7_23 (by decide) rfl rfl ?_
            refine fr_gfI (q := 75) (x := (n0 1 1)) F dX7_count_72 rfl faRX7_77 (by decide) rfl rfl rfl ?_
            obtain rfl := Option.some.inj h
            exact fr_iret F E rfl dX7_count_75
          · rw [if_neg hc5] at h
            refine fr_tswO (tgt := 76) F dX7_count_1 (fr_out (n := 4) (by decide) (fun k hk => match k, hk with | 0, _ => hc1 | 1, _ => hc2 | 2, _ => hc3 | 3, _ => hc4 | 4, _ => hc5 | k + 5, hk => absurd hk (by omega))) (by decide) ?_
            refine fr_ldc (q := 78) F dX7_count_76 rfl kcRX7_72 ?_
            obtain rfl := Option.some.inj h
            exact fr_iret F E rfl dX7_count_78
/-! FeastRotaModel.count (52, None) -/
def fX8_count (a1 : Int32) (n0 : fr_N) : Option Int32 := if a1 = (0 : Int32) then some (n0 1 6) else (if a1 = (1 : Int32) then some (n0 1 7) else (if a1 = (2 : Int32) then some (n0 1 8) else (if a1 = (3 : Int32) then some (n0 0 3) else (if a1 = (4 : Int32) then some (n0 0 7) else (some (-1000001 : Int32))))))
theorem tX8_count {l : Launch} {G : fr_G} {u0 : fr_N} {a1 : Int32} {n0 : fr_N} {rz : Int32} (h : fX8_count a1 n0 = some rz) : fr_Met l G YX8_count [.ref 52, .int a1] (u0, n0) (some (.int rz)) (u0, n0) := by
  refine fr_met (pad := List.replicate 0 none) (by decide) (Nat.le_of_ble_eq_true rfl) (fun _ h => List.eq_of_mem_replicate h) ⟨rfl, rfl⟩ (fun K F hG hL E => ?_)
  subst hG; subst hL
  rw [fX8_count] at h
  show fr_V YX8_count K 0 [some (.ref 52), some (.int a1)] [] (u0, n0)
  refine fr_iload_n (q := 1) F dX8_count_0 rfl rfl ?_
  by_cases hc1 : a1 = (0 : Int32)
  · rw [if_pos hc1] at h
    refine fr_tswI (k := 0) (off := 35) (tgt := 36) F hc1 dX8_count_1 (by decide) (by decide) (by decide) (by decide) ?_
    refine fr_aload_n (q := 37) F dX8_count_36 rfl rfl ?_
    refine fr_gfR (q := 40) (j := 53) F dX8_count_37 rfl faRX8_7 (by decide) rfl rfl ?_
    refine fr_bipush (q := 42) (v := 6) F dX8_count_40 rfl (by decide) ?_
    refine fr_ial (q := 43) (x := (n0 1 6)) F dX8_count_42 rfl (fr_vin rfl) (by decide) rfl rfl ?_
    obtain rfl := Option.some.inj h
    exact fr_iret F E rfl dX8_count_43
  · rw [if_neg hc1] at h
    by_cases hc2 : a1 = (1 : Int32)
    · rw [if_pos hc2] at h
      refine fr_tswI (k := 1) (off := 43) (tgt := 44) F hc2 dX8_count_1 (by decide) (by decide) (by decide) (by decide) ?_
      refine fr_aload_n (q := 45) F dX8_count_44 rfl rfl ?_
      refine fr_gfR (q := 48) (j := 53) F dX8_count_45 rfl faRX8_7 (by decide) rfl rfl ?_
      refine fr_bipush (q := 50) (v := 7) F dX8_count_48 rfl (by decide) ?_
      refine fr_ial (q := 51) (x := (n0 1 7)) F dX8_count_50 rfl (fr_vin rfl) (by decide) rfl rfl ?_
      obtain rfl := Option.some.inj h
      exact fr_iret F E rfl dX8_count_51
    · rw [if_neg hc2] at h
      by_cases hc3 : a1 = (2 : Int32)
      · rw [if_pos hc3] at h
        refine fr_tswI (k := 2) (off := 51) (tgt := 52) F hc3 dX8_count_1 (by decide) (by decide) (by decide) (by decide) ?_
        refine fr_aload_n (q := 53) F dX8_count_52 rfl rfl ?_
        refine fr_gfR (q := 56) (j := 53) F dX8_count_53 rfl faRX8_7 (by decide) rfl rfl ?_
        refine fr_bipush (q := 58) (v := 8) F dX8_count_56 rfl (by decide) ?_
        refine fr_ial (q := 59) (x := (n0 1 8)) F dX8_count_58 rfl (fr_vin rfl) (by decide) rfl rfl ?_
        obtain rfl := Option.some.inj h
        exact fr_iret F E rfl dX8_count_59
      · rw [if_neg hc3] at h
        by_cases hc4 : a1 = (3 : Int32)
        · rw [if_pos hc4] at h
          refine fr_tswI (k := 3) (off := 59) (tgt := 60) F hc4 dX8_count_1 (by decide) (by decide) (by decide) (by decide) ?_
          refine fr_aload_n (q := 61) F dX8_count_60 rfl rfl ?_
          refine fr_gfI (q := 64) (x := (n0 0 3)) F dX8_count_61 rfl faRX8_235 (by decide) rfl rfl rfl ?_
          obtain rfl := Option.some.inj h
          exact fr_iret F E rfl dX8_count_64
        · rw [if_neg hc4] at h
          by_cases hc5 : a1 = (4 : Int32)
          · rw [if_pos hc5] at h
            refine fr_tswI (k := 4) (off := 64) (tgt := 65) F hc5 dX8_count_1 (by decide) (by decide) (by decide) (by decide) ?_
            refine fr_aload_n (q := 66) F dX8_count_65 rfl rfl ?_
            refine fr_gfI (q := 69) (x := (n0 0 7)) F dX8_count_66 rfl faRX8_152 (by decide) rfl rfl rfl ?_
            obtain rfl := Option.some.inj h
            exact fr_iret F E rfl dX8_count_69
          · rw [if_neg hc5] at h
            refine fr_tswO (tgt := 70) F dX8_count_1 (fr_out (n := 4) (by decide) (fun k hk => match k, hk with | 0, _ => hc1 | 1, _ => hc2 | 2, _ => hc3 | 3, _ => hc4 | 4, _ => hc5 | k + 5, hk => absurd hk (by omega))) (by decide) ?_
            refine fr_ldc (q := 72) F dX8_count_70 rfl kcRX8_209 ?_
            obtain rfl := Option.some.inj h
            exact fr_iret F E rfl dX8_count_72
