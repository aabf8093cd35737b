/-! FeastRota$Reader.psalter (34,) -/
def fX4_psalter (n0 : fr_N) : Option (Bool × fr_N) := fr_bd2 (fX4_sign (112 : Int32) n0) fun r1 n3 => (if r1 = true then fr_bd2 (fX4_lawNumber (3 : Int32) (44 : Int32) n3) fun r5 n7 => (if r5 = true then fr_bd2 (fX4_lawNumber (4 : Int32) (59 : Int32) n7) fun r9 n11 => (if r9 = true then some (true, n11) else some (false, n11)) else some (false, n7)) else some (false, n3))
theorem tX4_psalter {l : Launch} {G : fr_G} {u0 : fr_N} {n0 : fr_N} {rz : Bool} {nz : fr_N} (h : fX4_psalter n0 = some (rz, nz)) : fr_Met l G YX4_psalter [.ref 34] (n0, u0) (some (.int (fr_b rz))) (nz, u0) := by
  refine fr_met (pad := List.replicate 0 none) (by decide) (Nat.le_of_ble_eq_true rfl) (fun _ h => List.eq_of_mem_replicate h) ⟨rfl, rfl⟩ (fun K F hG hL E => ?_)
  subst hG; subst hL
  rw [fX4_psalter] at h
  show fr_V YX4_psalter K 0 [some (.ref 34)] [] (n0, u0)
  refine fr_aload_n (q := 1) F dX4_psalter_0 rfl rfl ?_
  refine fr_bipush (q := 3) (v := 112) F dX4_psalter_1 rfl (by decide) ?_
  obtain ⟨r1, n3, hr2, h⟩ := fr_bd2_some h
  refine fr_callV (q := 6) (M' := (n3, u0)) (rest := []) (st' := [.int (fr_b r1)]) F dX4_psalter_3 rfl (tX4_sign hr2) mlRX4_53 msX4_sign ⟨Nat.le_of_ble_eq_true rfl, Nat.le_of_ble_eq_true rfl⟩ (by decide) rfl rfl rfl (Nat.le_of_ble_eq_true rfl) rfl ?_
  refine fr_if_eqb (q := 9) (tgt := 33) F dX4_psalter_6 (by decide) rfl (fun hc4 => ?_) (fun hc4 => ?_)
  · rw [if_neg hc4] at h
    refine fr_iconst (q := 34) (v := 0) F dX4_psalter_33 rfl (by decide) ?_
    obtain ⟨rfl, rfl⟩ := Prod.mk.inj (Option.some.inj h)
    exact fr_zret F E rfl dX4_psalter_34
  · rw [if_pos hc4] at h
    refine fr_aload_n (q := 10) F dX4_psalter_9 rfl rfl ?_
    refine fr_iconst (q := 11) (v := 3) F dX4_psalter_10 rfl (by decide) ?_
    refine fr_bipush (q := 13) (v := 44) F dX4_psalter_11 rfl (by decide) ?_
    obtain ⟨r5, n7, hr6, h⟩ := fr_bd2_some h
    refine fr_callV (q := 16) (M' := (n7, u0)) (rest := []) (st' := [.int (fr_b r5)]) F dX4_psalter_13 rfl (tX4_lawNumber hr6) mlRX4_57 msX4_lawNumber ⟨Nat.le_of_ble_eq_true rfl, Nat.le_of_ble_eq_true rfl⟩ (by decide) rfl rfl rfl (Nat.le_of_ble_eq_true rfl) rfl ?_
    refine fr_if_eqb (q := 19) (tgt := 33) F dX4_psalter_16 (by decide) rfl (fun hc8 => ?_) (fun hc8 => ?_)
    · rw [if_neg hc8] at h
      refine fr_iconst (q := 34) (v := 0) F dX4_psalter_33 rfl (by decide) ?_
      obtain ⟨rfl, rfl⟩ := Prod.mk.inj (Option.some.inj h)
      exact fr_zret F E rfl dX4_psalter_34
    · rw [if_pos hc8] at h
      refine fr_aload_n (q := 20) F dX4_psalter_19 rfl rfl ?_
      refine fr_iconst (q := 21) (v := 4) F dX4_psalter_20 rfl (by decide) ?_
      refine fr_bipush (q := 23) (v := 59) F dX4_psalter_21 rfl (by decide) ?_
      obtain ⟨r9, n11, hr10, h⟩ := fr_bd2_some h
      refine fr_callV (q := 26) (M' := (n11, u0)) (rest := []) (st' := [.int (fr_b r9)]) F dX4_psalter_23 rfl (tX4_lawNumber hr10) mlRX4_57 msX4_lawNumber ⟨Nat.le_of_ble_eq_true rfl, Nat.le_of_ble_eq_true rfl⟩ (by decide) rfl rfl rfl (Nat.le_of_ble_eq_true rfl) rfl ?_
      refine fr_if_eqb (q := 29) (tgt := 33) F dX4_psalter_26 (by decide) rfl (fun hc12 => ?_) (fun hc12 => ?_)
      · rw [if_neg hc12] at h
        refine fr_iconst (q := 34) (v := 0) F dX4_psalter_33 rfl (by decide) ?_
        obtain ⟨rfl, rfl⟩ := Prod.mk.inj (Option.some.inj h)
        exact fr_zret F E rfl dX4_psalter_34
      · rw [if_pos hc12] at h
        refine fr_iconst (q := 30) (v := 1) F dX4_psalter_29 rfl (by decide) ?_
        refine fr_goto (tgt := 34) F dX4_psalter_30 (by decide) ?_
        obtain ⟨rfl, rfl⟩ := Prod.mk.inj (Option.some.inj h)
        exact fr_zret F E rfl dX4_psalter_34
/-! FeastRota$Reader.choirs (34,) -/
def fX4_choirs (n0 : fr_N) : Option (Bool × fr_N) := fr_bd2 (fX4_sign (99 : Int32) n0) fun r1 n3 => (if r1 = true then fr_bd2 (fX4_number (2 : Int32) (5 : Int32) (44 : Int32) n3) fun r5 n7 => (if r5 = true then fr_lt (fr_up n7 35 3 (n7 34 3)) fun n9 => (fr_bd2 (fX4_lawNumber (5 : Int32) (59 : Int32) n9) fun r11 n13 => (some (r11, n13))) else some (false, n7)) else some (false, n3))
theorem tX4_choirs {l : Launch} {G : fr_G} {u0 : fr_N} {n0 : fr_N} {rz : Bool} {nz : fr_N} (h : fX4_choirs n0 = some (rz, nz)) : fr_Met l G YX4_choirs [.ref 34] (n0, u0) (some (.int (fr_b rz))) (nz, u0) := by
  refine fr_met (pad := List.replicate 0 none) (by decide) (Nat.le_of_ble_eq_true rfl) (fun _ h => List.eq_of_mem_replicate h) ⟨rfl, rfl⟩ (fun K F hG hL E => ?_)
  subst hG; subst hL
  rw [fX4_choirs] at h
  show fr_V YX4_choirs K 0 [some (.ref 34)] [] (n0, u0)
  refine fr_aload_n (q := 1) F dX4_choirs_0 rfl rfl ?_
  refine fr_bipush (q := 3) (v := 99) F dX4_choirs_1 rfl (by decide) ?_
  obtain ⟨r1, n3, hr2, h⟩ := fr_bd2_some h
  refine fr_callV (q := 6) (M' := (n3, u0)) (rest := []) (st' := [.int (fr_b r1)]) F dX4_choirs_3 rfl (tX4_sign hr2) mlRX4_53 msX4_sign ⟨Nat.le_of_ble_eq_true rfl, Nat.le_of_ble_eq_true rfl⟩ (by decide) rfl rfl rfl (Nat.le_of_ble_eq_true rfl) rfl ?_
  refine fr_if_eqb (q := 9) (tgt := 20) F dX4_choirs_6 (by decide) rfl (fun hc4 => ?_) (fun hc4 => ?_)
  · rw [if_neg hc4] at h
    refine fr_iconst (q := 21) (v := 0) F dX4_choirs_20 rfl (by decide) ?_
    obtain ⟨rfl, rfl⟩ := Prod.mk.inj (Option.some.inj h)
    exact fr_zret F E rfl dX4_choirs_21
  · rw [if_pos hc4] at h
    refine fr_aload_n (q := 10) F dX4_choirs_9 rfl rfl ?_
    refine fr_iconst (q := 11) (v := 2) F dX4_choirs_10 rfl (by decide) ?_
    refine fr_iconst (q := 12) (v := 5) F dX4_choirs_11 rfl (by decide) ?_
    refine fr_bipush (q := 14) (v := 44) F dX4_choirs_12 rfl (by decide) ?_
    obtain ⟨r5, n7, hr6, h⟩ := fr_bd2_some h
    refine fr_callV (q := 17) (M' := (n7, u0)) (rest := []) (st' := [.int (fr_b r5)]) F dX4_choirs_14 rfl (tX4_number hr6) mlRX4_84 msX4_number ⟨Nat.le_of_ble_eq_true rfl, Nat.le_of_ble_eq_true rfl⟩ (by decide) rfl rfl rfl (Nat.le_of_ble_eq_true rfl) rfl ?_
    refine fr_if_neb (q := 20) (tgt := 22) F dX4_choirs_17 (by decide) rfl (fun hc8 => ?_) (fun hc8 => ?_)
    · rw [if_pos hc8] at h
      refine fr_aload_n (q := 23) F dX4_choirs_22 rfl rfl ?_
      refine fr_gfR (q := 26) (j := 35) F dX4_choirs_23 rfl faRX4_15 (by decide) rfl rfl ?_
      refine fr_aload_n (q := 27) F dX4_choirs_26 rfl rfl ?_
      refine fr_gfI (q := 30) (x := (n7 34 3)) F dX4_choirs_27 rfl faRX4_88 (by decide) rfl rfl rfl ?_
      obtain ⟨n9, hn10, h⟩ := fr_lt_some h
      refine fr_pfI (q := 33) (M' := (n9, u0)) F dX4_choirs_30 rfl fpRX4_107 (by decide) rfl rfl (congrArg (fun z => (z, u0)) hn10) ?_
      refine fr_aload_n (q := 34) F dX4_choirs_33 rfl rfl ?_
      refine fr_iconst (q := 35) (v := 5) F dX4_choirs_34 rfl (by decide) ?_
      refine fr_bipush (q := 37) (v := 59) F dX4_choirs_35 rfl (by decide) ?_
      obtain ⟨r11, n13, hr12, h⟩ := fr_bd2_some h
      refine fr_callV (q := 40) (M' := (n13, u0)) (rest := []) (st' := [.int (fr_b r11)]) F dX4_choirs_37 rfl (tX4_lawNumber hr12) mlRX4_57 msX4_lawNumber ⟨Nat.le_of_ble_eq_true rfl, Nat.le_of_ble_eq_true rfl⟩ (by decide) rfl rfl rfl (Nat.le_of_ble_eq_true rfl) rfl ?_
      obtain ⟨rfl, rfl⟩ := Prod.mk.inj (Option.some.inj h)
      exact fr_zret F E rfl dX4_choirs_40
    · rw [if_neg hc8] at h
      refine fr_iconst (q := 21) (v := 0) F dX4_choirs_20 rfl (by decide) ?_
      obtain ⟨rfl, rfl⟩ := Prod.mk.inj (Option.some.inj h)
      exact fr_zret F E rfl dX4_choirs_21
/-! FeastRota$Reader.end (34,) -/
def fX4_end (n0 : fr_N) : Option (Bool × fr_N) := if (n0 1 1) ≤ (n0 34 2) then some (true, n0) else fr_bd2 (fX4_fails (1 : Int32) n0) fun r2 n4 => (if r2 = true then some (true, n4) else some (false, n4))
theorem tX4_end {l : Launch} {G : fr_G} {u0 : fr_N} {n0 : fr_N} {rz : Bool} {nz : fr_N} (h : fX4_end n0 = some (rz, nz)) : fr_Met l G YX4_end [.ref 34] (n0, u0) (some (.int (fr_b rz))) (nz, u0) := by
  refine fr_met (pad := List.replicate 0 none) (by decide) (Nat.le_of_ble_eq_true rfl) (fun _ h => List.eq_of_mem_replicate h) ⟨rfl, rfl⟩ (fun K F hG hL E => ?_)
  subst hG; subst hL
  rw [fX4_end] at h
  show fr_V YX4_end K 0 [some (.ref 34)] [] (n0, u0)
  refine fr_aload_n (q := 1) F dX4_end_0 rfl rfl ?_
  refine fr_gfI (q := 4) (x := (n0 34 2)) F dX4_end_1 rfl faRX4_19 (by decide) rfl rfl rfl ?_
  refine fr_aload_n (q := 5) F dX4_end_4 rfl rfl ?_
  refine fr_gfR (q := 8) (j := 1) F dX4_end_5 rfl faRX4_9 (by decide) rfl rfl ?_
  refine fr_gfI (q := 11) (x := (n0 1 1)) F dX4_end_8 rfl faRX4_109 (by decide) rfl rfl rfl ?_
  refine fr_icmp_ge (q := 14) (tgt := 22) F dX4_end_11 (by decide) rfl (fun hc1 => ?_) (fun hc1 => ?_)
  · rw [if_pos hc1] at h
    refine fr_iconst (q := 23) (v := 1) F dX4_end_22 rfl (by decide) ?_
    refine fr_goto (tgt := 27) F dX4_end_23 (by decide) ?_
    obtain ⟨rfl, rfl⟩ := Prod.mk.inj (Option.some.inj h)
    exact fr_zret F E rfl dX4_end_27
  · rw [if_neg hc1] at h
    refine fr_aload_n (q := 15) F dX4_end_14 rfl rfl ?_
    refine fr_iconst (q := 16) (v := 1) F dX4_end_15 rfl (by decide) ?_
    obtain ⟨r2, n4, hr3, h⟩ := fr_bd2_some h
    refine fr_callV (q := 19) (M' := (n4, u0)) (rest := []) (st' := [.int (fr_b r2)]) F dX4_end_16 rfl (tX4_fails hr3) mlRX4_72 msX4_fails ⟨Nat.le_of_ble_eq_true rfl, Nat.le_of_ble_eq_true rfl⟩ (by decide) rfl rfl rfl (Nat.le_of_ble_eq_true rfl) rfl ?_
    refine fr_if_eqb (q := 22) (tgt := 26) F dX4_end_19 (by decide) rfl (fun hc5 => ?_) (fun hc5 => ?_)
    · rw [if_neg hc5] at h
      refine fr_iconst (q := 27) (v := 0) F dX4_end_26 rfl (by decide) ?_
      obtain ⟨rfl, rfl⟩ := Prod.mk.inj (Option.some.inj h)
      exact fr_zret F E rfl dX4_end_27
    · rw [if_pos hc5] at h
      refine fr_iconst (q := 23) (v := 1) F dX4_end_22 rfl (by decide) ?_
      refine fr_goto (tgt := 27) F dX4_end_23 (by decide) ?_
      obtain ⟨rfl, rfl⟩ := Prod.mk.inj (Option.some.inj h)
      exact fr_zret F E rfl dX4_end_27
/-! FeastRota$Reader.readsAll (34,) -/
def fX4_readsAll (n0 : fr_N) : Option (Bool × fr_N) := fr_lt (fr_up n0 34 2 (0 : Int32)) fun n1 => (fr_lt (fr_up n1 34 4 (0 : Int32)) fun n3 => (fr_lt (fr_up n3 34 5 (0 : Int32)) fun n5 => (fr_bd (fX1_empty_35 n5) fun n9 => (fr_bd2 (fX4_head n9) fun r10 n12 => (if r10 = true then fr_bd2 (fX4_feasts n12) fun r14 n16 => (if r14 = true then fr_bd2 (fX4_seasons n16) fun r18 n20 => (if r18 = true then fr_bd2 (fX4_psalter n20) fun r22 n24 => (if r22 = true then fr_bd2 (fX4_choirs n24) fun r26 n28 => (if r26 = true then fr_bd2 (fX4_end n28) fun r30 n32 => (if r30 = true then some (true, n32) else some (false, n32)) else some (false, n28)) else some (false, n24)) else some (false, n20)) else some (false, n16)) else some (false, n12))))))
theorem tX4_readsAll {l : Launch} {G : fr_G} {u0 : fr_N} {n0 : fr_N} {rz : Bool} {nz : fr_N} (h : fX4_readsAll n0 = some (rz, nz)) : fr_Met l G YX4_readsAll [.ref 34] (n0, u0) (some (.int (fr_b rz))) (nz, u0) := by
  refine fr_met (pad := List.replicate 0 none) (by decide) (Nat.le_of_ble_eq_true rfl) (fun _ h => List.eq_of_mem_replicate h) ⟨rfl, rfl⟩ (fun K F hG hL E => ?_)
  subst hG; subst hL
  rw [fX4_readsAll] at h
  show fr_V YX4_readsAll K 0 [some (.ref 34)] [] (n0, u0)
  refine fr_aload_n (q := 1) F dX4_readsAll_0 rfl rfl ?_
  refine fr_iconst (q := 2) (v := 0) F dX4_readsAll_1 rfl (by decide) ?_
  obtain ⟨n1, hn2, h⟩ := fr_lt_some h
  refine fr_pfI (q := 5) (M' := (n1, u0)) F dX4_readsAll_2 rfl fpRX4_19 (by decide) rfl rfl (congrArg (fun z => (z, u0)) hn2) ?_
  refine fr_aload_n (q := 6) F dX4_readsAll_5 rfl rfl ?_
  refine fr_iconst (q := 7) (v := 0) F dX4_readsAll_6 rfl (by decide) ?_
  obtain ⟨n3, hn4, h⟩ := fr_lt_some h
  refine fr_pfI (q := 10) (M' := (n3, u0)) F dX4_readsAll_7 rfl fpRX4_23 (by decide) rfl rfl (congrArg (fun z => (z, u0)) hn4) ?_
  refine fr_aload_n (q := 11) F dX4_readsAll_10 rfl rfl ?_
  refine fr_iconst (q := 12) (v := 0) F dX4_readsAll_11 rfl (by decide) ?_
  obtain ⟨n5, hn6, h⟩ := fr_lt_some h
  refine fr_pfI (q := 15) (M' := (n5, u0)) F dX4_readsAll_12 rfl fpRX4_26 (by decide) rfl rfl (congrArg (fun z => (z, u0)) hn6) ?_
  refine fr_aload_n (q := 16) F dX4_readsAll_15 rfl rfl ?_
  refine fr_gfR (q := 19) (j := 35) F dX4_readsAll_16 rfl faRX4_15 (by decide) rfl rfl ?_
  obtain ⟨n9, hr8, h⟩ := fr_bd_some h
  refine fr_callV (q := 22) (M' := (n9, u0)) (rest := []) (st' := []) F dX4_readsAll_19 rfl (tX1_empty_35 hr8) mlRX4_29 msX1_empty ⟨Nat.le_of_ble_eq_true rfl, Nat.le_of_ble_eq_true rfl⟩ (by decide) rfl rfl rfl (Nat.le_of_ble_eq_true rfl) rfl ?_
  refine fr_aload_n (q := 23) F dX4_readsAll_22 rfl rfl ?_
  obtain ⟨r10, n12, hr11, h⟩ := fr_bd2_some h
  refine fr_callV (q := 26) (M' := (n12, u0)) (rest := []) (st' := [.int (fr_b r10)]) F dX4_readsAll_23 rfl (tX4_head hr11) mlRX4_34 msX4_head ⟨Nat.le_of_ble_eq_true rfl, Nat.le_of_ble_eq_true rfl⟩ (by decide) rfl rfl rfl (Nat.le_of_ble_eq_true rfl) rfl ?_
  refine fr_if_eqb (q := 29) (tgt := 68) F dX4_readsAll_26 (by decide) rfl (fun hc13 => ?_) (fun hc13 => ?_)
  · rw [if_neg hc13] at h
    refine fr_iconst (q := 69) (v := 0) F dX4_readsAll_68 rfl (by decide) ?_
    obtain ⟨rfl, rfl⟩ := Prod.mk.inj (Option.some.inj h)
    exact fr_zret F E rfl dX4_readsAll_69
  · rw [if_pos hc13] at h
    refine fr_aload_n (q := 30) F dX4_readsAll_29 rfl rfl ?_
    obtain ⟨r14, n16, hr15, h⟩ := fr_bd2_some h
    refine fr_callV (q := 33) (M' := (n16, u0)) (rest := []) (st' := [.int (fr_b r14)]) F dX4_readsAll_30 rfl (tX4_feasts hr15) mlRX4_38 msX4_feasts ⟨Nat.le_of_ble_eq_true rfl, Nat.le_of_ble_eq_true rfl⟩ (by decide) rfl rfl rfl (Nat.le_of_ble_eq_true rfl) rfl ?_
    refine fr_if_eqb (q := 36) (tgt := 68) F dX4_readsAll_33 (by decide) rfl (fun hc17 => ?_) (fun hc17 => ?_)
    · rw [if_neg hc17] at h
      refine fr_iconst (q := 69) (v := 0) F dX4_readsAll_68 rfl (by decide) ?_
      obtain ⟨rfl, rfl⟩ := Prod.mk.inj (Option.some.inj h)
      exact fr_zret F E rfl dX4_readsAll_69
    · rw [if_pos hc17] at h
      refine fr_aload_n (q := 37) F dX4_readsAll_36 rfl rfl ?_
      obtain ⟨r18, n20, hr19, h⟩ := fr_bd2_some h
      refine fr_callV (q := 40) (M' := (n20, u0)) (rest := []) (st' := [.int (fr_b r18)]) F dX4_readsAll_37 rfl (tX4_seasons hr19) mlRX4_41 msX4_seasons ⟨Nat.le_of_ble_eq_true rfl, Nat.le_of_ble_eq_true rfl⟩ (by decide) rfl rfl rfl (Nat.le_of_ble_eq_true rfl) rfl ?_
      refine fr_if_eqb (q := 43) (tgt := 68) F dX4_readsAll_40 (by decide) rfl (fun hc21 => ?_) (fun hc21 => ?_)
      · rw [if_neg hc21] at h
        refine fr_iconst (q := 69) (v := 0) F dX4_readsAll_68 rfl (by decide) ?_
        obtain ⟨rfl, rfl⟩ := Prod.mk.inj (Option.some.inj h)
        exact fr_zret F E rfl dX4_readsAll_69
      · rw [if_pos hc21] at h
        refine fr_aload_n (q := 44) F dX4_readsAll_43 rfl rfl ?_
        obtain ⟨r22, n24, hr23, h⟩ := fr_bd2_some h
        refine fr_callV (q := 47) (M' := (n24, u0)) (rest := []) (st' := [.int (fr_b r22)]) F dX4_readsAll_44 rfl (tX4_psalter hr23) mlRX4_44 msX4_psalter ⟨Nat.le_of_ble_eq_true rfl, Nat.le_of_ble_eq_true rfl⟩ (by decide) rfl rfl rfl (Nat.le_of_ble_eq_true rfl) rfl ?_
        refine fr_if_eqb (q := 50) (tgt := 68) F dX4_readsAll_47 (by decide) rfl (fun hc25 => ?_) (fun hc25 => ?_)
        · rw [if_neg hc25] at h
          refine fr_iconst (q := 69) (v := 0) F dX4_readsAll_68 rfl (by decide) ?_
          obtain ⟨rfl, rfl⟩ := Prod.mk.inj (Option.some.inj h)
          exact fr_zret F E rfl dX4_readsAll_69
        · rw [if_pos hc25] at h
          refine fr_aload_n (q := 51) F dX4_readsAll_50 rfl rfl ?_
          obtain ⟨r26, n28, hr27, h⟩ := fr_bd2_some h
          refine fr_callV (q := 54) (M' := (n28, u0)) (rest := []) (st' := [.int (fr_b r26)]) F dX4_readsAll_51 rfl (tX4_choirs hr27) mlRX4_47 msX4_choirs ⟨Nat.le_of_ble_eq_true rfl, Nat.le_of_ble_eq_true rfl⟩ (by decide) rfl rfl rfl (Nat.le_of_ble_eq_true rfl) rfl ?_
          refine fr_if_eqb (q := 57) (tgt := 68) F dX4_readsAll_54 (by decide) rfl (fun hc29 => ?_) (fun hc29 => ?_)
          · rw [if_neg hc29] at h
            refine fr_iconst (q := 69) (v := 0) F dX4_readsAll_68 rfl (by decide) ?_
            obtain ⟨rfl, rfl⟩ := Prod.mk.inj (Option.some.inj h)
            exact fr_zret F E rfl dX4_readsAll_69
          · rw [if_pos hc29] at h
            refine fr_aload_n (q := 58) F dX4_readsAll_57 rfl rfl ?_
            obtain ⟨r30, n32, hr31, h⟩ := fr_bd2_some h
            refine fr_callV (q := 61) (M' := (n32, u0)) (rest := []) (st' := [.int (fr_b r30)]) F dX4_readsAll_58 rfl (tX4_end hr31) mlRX4_50 msX4_end ⟨Nat.le_of_ble_eq_true rfl, Nat.le_of_ble_eq_true rfl⟩ (by decide) rfl rfl rfl (Nat.le_of_ble_eq_true rfl) rfl ?_
            refine fr_if_eqb (q := 64) (tgt := 68) F dX4_readsAll_61 (by decide) rfl (fun hc33 => ?_) (fun hc33 => ?_)
            · rw [if_neg hc33] at h
              refine fr_iconst (q := 69) (v := 0) F dX4_readsAll_68 rfl (by decide) ?_
              obtain ⟨rfl, rfl⟩ := Prod.mk.inj (Option.some.inj h)
              exact fr_zret F E rfl dX4_readsAll_69
            · rw [if_pos hc33] at h
              refine fr_iconst (q := 65) (v := 1) F dX4_readsAll_64 rfl (by decide) ?_
              refine fr_goto (tgt := 69) F dX4_readsAll_65 (by decide) ?_
              obtain ⟨rfl, rfl⟩ := Prod.mk.inj (Option.some.inj h)
              exact fr_zret F E rfl dX4_readsAll_69
/-! FeastRota$Book.become (3, 35) -/
def fX1_become_3_35 (n0 : fr_N) : Option fr_N := fr_lt (fr_up n0 3 0 (fr_b true)) fun n1 => (fr_lt (fr_up n1 3 1 (n1 35 1)) fun n3 => (fr_lt (fr_up n3 3 2 (n3 35 2)) fun n5 => (fr_lt (fr_up n5 3 3 (n5 35 3)) fun n7 => (fr_lt (fr_cp n7 36 4 0 0 6) fun n9 => (fr_lt (fr_cp n9 37 5 0 0 48) fun n11 => (fr_lt (fr_cp n11 38 6 0 0 4) fun n13 => (fr_lt (fr_cp n13 39 7 0 0 4) fun n15 => (fr_lt (fr_cp n15 40 8 0 0 4) fun n17 => (fr_lt (fr_cp n17 41 9 0 0 5) fun n19 => (fr_lt (fr_cp n19 42 10 0 0 5) fun n21 => (some n21)))))))))))
theorem tX1_become_3_35 {l : Launch} {G : fr_G} {u0 : fr_N} {n0 : fr_N} {nz : fr_N} (h : fX1_become_3_35 n0 = some nz) : fr_Met l G YX1_become [.ref 3, .ref 35] (n0, u0) none (nz, u0) := by
  refine fr_met (pad := List.replicate 0 none) (by decide) (Nat.le_of_ble_eq_true rfl) (fun _ h => List.eq_of_mem_replicate h) ⟨rfl, rfl⟩ (fun K F hG hL E => ?_)
  subst hG; subst hL
  rw [fX1_become_3_35] at h
  show fr_V YX1_become K 0 [some (.ref 3), some (.ref 35)] [] (n0, u0)
  refine fr_aload_n (q := 1) F dX1_become_0 rfl rfl ?_
  refine fr_iconst (q := 2) (v := 1) F dX1_become_1 rfl (by decide) ?_
  obtain ⟨n1, hn2, h⟩ := fr_lt_some h
  refine fr_pfZ (q := 5) (M' := (n1, u0)) (x := true) F dX1_become_2 rfl fpRX1_44 (by decide) rfl rfl (congrArg (fun z => (z, u0)) hn2) ?_
  refine fr_aload_n (q := 6) F dX1_become_5 rfl rfl ?_
  refine fr_aload_n (q := 7) F dX1_become_6 rfl rfl ?_
  refine fr_gfI (q := 10) (x := (n1 35 1)) F dX1_become_7 rfl faRX1_48 (by decide) rfl rfl rfl ?_
  obtain ⟨n3, hn4, h⟩ := fr_lt_some h
  refine fr_pfI (q := 13) (M' := (n3, u0)) F dX1_become_10 rfl fpRX1_48 (by decide) rfl rfl (congrArg (fun z => (z, u0)) hn4) ?_
  refine fr_aload_n (q := 14) F dX1_become_13 rfl rfl ?_
  refine fr_aload_n (q := 15) F dX1_become_14 rfl rfl ?_
  refine fr_gfI (q := 18) (x := (n3 35 2)) F dX1_become_15 rfl faRX1_52 (by decide) rfl rfl rfl ?_
  obtain ⟨n5, hn6, h⟩ := fr_lt_some h
  refine fr_pfI (q := 21) (M' := (n5, u0)) F dX1_become_18 rfl fpRX1_52 (by decide) rfl rfl (congrArg (fun z => (z, u0)) hn6) ?_
  refine fr_aload_n (q := 22) F dX1_become_21 rfl rfl ?_
  refine fr_aload_n (q := 23) F dX1_become_22 rfl rfl ?_
  refine fr_gfI (q := 26) (x := (n5 35 3)) F dX1_become_23 rfl faRX1_55 (by decide) rfl rfl rfl ?_
  obtain ⟨n7, hn8, h⟩ := fr_lt_some h
  refine fr_pfI (q := 29) (M' := (n7, u0)) F dX1_become_26 rfl fpRX1_55 (by decide) rfl rfl (congrArg (fun z => (z, u0)) hn8) ?_
  refine fr_aload_n (q := 30) F dX1_become_29 rfl rfl ?_
  refine fr_gfR (q := 33) (j := 36) F dX1_become_30 rfl faRX1_9 (by decide) rfl rfl ?_
  refine fr_iconst (q := 34) (v := 0) F dX1_become_33 rfl (by decide) ?_
  refine fr_aload_n (q := 35) F dX1_become_34 rfl rfl ?_
  refine fr_gfR (q := 38) (j := 4) F dX1_become_35 rfl faRX1_9 (by decide) rfl rfl ?_
  refine fr_iconst (q := 39) (v := 0) F dX1_become_38 rfl (by decide) ?_
  refine fr_bipush (q := 41) (v := 6) F dX1_become_39 rfl (by decide) ?_
  obtain ⟨n9, hn10, h⟩ := fr_lt_some h
  refine fr_acp (q := 44) (M' := (n9, u0)) F dX1_become_41 rfl mlRX1_64 mm_acp (by decide) rfl (by decide) rfl (by decide) (by decide) (by decide) (by decide) (by decide) ⟨Nat.le_of_ble_eq_true rfl, Nat.le_of_ble_eq_true rfl⟩ (congrArg (fun z => (z, u0)) hn10) ?_
  refine fr_aload_n (q := 45) F dX1_become_44 rfl rfl ?_
  refine fr_gfR (q := 48) (j := 37) F dX1_become_45 rfl faRX1_15 (by decide) rfl rfl ?_
  refine fr_iconst (q := 49) (v := 0) F dX1_become_48 rfl (by decide) ?_
  refine fr_aload_n (q := 50) F dX1_become_49 rfl rfl ?_
  refine fr_gfR (q := 53) (j := 5) F dX1_become_50 rfl faRX1_15 (by decide) rfl rfl ?_
  refine fr_iconst (q := 54) (v := 0) F dX1_become_53 rfl (by decide) ?_
  refine fr_bipush (q := 56) (v := 48) F dX1_become_54 rfl (by decide) ?_
  obtain ⟨n11, hn12, h⟩ := fr_lt_some h
  refine fr_acp (q := 59) (M' := (n11, u0)) F dX1_become_56 rfl mlRX1_64 mm_acp (by decide) rfl (by decide) rfl (by decide) (by decide) (by decide) (by decide) (by decide) ⟨Nat.le_of_ble_eq_true rfl, Nat.le_of_ble_eq_true rfl⟩ (congrArg (fun z => (z, u0)) hn12) ?_
  refine fr_aload_n (q := 60) F dX1_become_59 rfl rfl ?_
  refine fr_gfR (q := 63) (j := 38) F dX1_become_60 rfl faRX1_18 (by decide) rfl rfl ?_
  refine fr_iconst (q := 64) (v := 0) F dX1_become_63 rfl (by decide) ?_
  refine fr_aload_n (q := 65) F dX1_become_64 rfl rfl ?_
  refine fr_gfR (q := 68) (j := 6) F dX1_become_65 rfl faRX1_18 (by decide) rfl rfl ?_
  refine fr_iconst (q := 69) (v := 0) F dX1_become_68 rfl (by decide) ?_
  refine fr_iconst (q := 70) (v := 4) F dX1_become_69 rfl (by decide) ?_
  obtain ⟨n13, hn14, h⟩ := fr_lt_some h
  refine fr_acp (q := 73) (M' := (n13, u0)) F dX1_become_70 rfl mlRX1_64 mm_acp (by decide) rfl (by decide) rfl (by decide) (by decide) (by decide) (by decide) (by decide) ⟨Nat.le_of_ble_eq_true rfl, Nat.le_of_ble_eq_true rfl⟩ (congrArg (fun z => (z, u0)) hn14) ?_
  refine fr_aload_n (q := 74) F dX1_become_73 rfl rfl ?_
  refine fr_gfR (q := 77) (j := 39) F dX1_become_74 rfl faRX1_21 (by decide) rfl rfl ?_
  refine fr_iconst (q := 78) (v := 0) F dX1_become_77 rfl (by decide) ?_
  refine fr_aload_n (q := 79) F dX1_become_78 rfl rfl ?_
  refine fr_gfR (q := 82) (j := 7) F dX1_become_79 rfl faRX1_21 (by decide) rfl rfl ?_
  refine fr_iconst (q := 83) (v := 0) F dX1_become_82 rfl (by decide) ?_
  refine fr_iconst (q := 84) (v := 4) F dX1_become_83 rfl (by decide) ?_
  obtain ⟨n15, hn16, h⟩ := fr_lt_some h
  refine fr_acp (q := 87) (M' := (n15, u0)) F dX1_become_84 rfl mlRX1_64 mm_acp (by decide) rfl (by decide) rfl (by decide) (by decide) (by decide) (by decide) (by decide) ⟨Nat.le_of_ble_eq_true rfl, Nat.le_of_ble_eq_true rfl⟩ (congrArg (fun z => (z, u0)) hn16) ?_
  refine fr_aload_n (q := 88) F dX1_become_87 rfl rfl ?_
  refine fr_gfR (q := 91) (j := 40) F dX1_become_88 rfl faRX1_24 (by decide) rfl rfl ?_
  refine fr_iconst (q := 92) (v := 0) F dX1_become_91 rfl (by decide) ?_
  refine fr_aload_n (q := 93) F dX1_become_92 rfl rfl ?_
  refine fr_gfR (q := 96) (j := 8) F dX1_become_93 rfl faRX1_24 (by decide) rfl rfl ?_
  refine fr_iconst (q := 97) (v := 0) F dX1_become_96 rfl (by decide) ?_
  refine fr_iconst (q := 98) (v := 4) F dX1_become_97 rfl (by decide) ?_
  obtain ⟨n17, hn18, h⟩ := fr_lt_some h
  refine fr_acp (q := 101) (M' := (n17, u0)) F dX1_become_98 rfl mlRX1_64 mm_acp (by decide) rfl (by decide) rfl (by decide) (by decide) (by decide) (by decide) (by decide) ⟨Nat.le_of_ble_eq_true rfl, Nat.le_of_ble_eq_true rfl⟩ (congrArg (fun z => (z, u0)) hn18) ?_
  refine fr_aload_n (q := 102) F dX1_become_101 rfl rfl ?_
  refine fr_gfR (q := 105) (j := 41) F dX1_become_102 rfl faRX1_27 (by decide) rfl rfl ?_
  refine fr_iconst (q := 106) (v := 0) F dX1_become_105 rfl (by decide) ?_
  refine fr_aload_n (q := 107) F dX1_become_106 rfl rfl ?_
  refine fr_gfR (q := 110) (j := 9) F dX1_become_107 rfl faRX1_27 (by decide) rfl rfl ?_
  refine fr_iconst (q := 111) (v := 0) F dX1_become_110 rfl (by decide) ?_
  refine fr_iconst (q := 112) (v := 5) F dX1_become_111 rfl (by decide) ?_
  obtain ⟨n19, hn20, h⟩ := fr_lt_some h
  refine fr_acp (q := 115) (M' := (n19, u0)) F dX1_become_112 rfl mlRX1_64 mm_acp (by decide) rfl (by decide) rfl (by decide) (by decide) (by decide) (by decide) (by decide) ⟨Nat.le_of_ble_eq_true rfl, Nat.le_of_ble_eq_true rfl⟩ (congrArg (fun z => (z, u0)) hn20) ?_
  refine fr_aload_n (q := 116) F dX1_become_115 rfl rfl ?_
  refine fr_gfR (q := 119) (j := 42) F dX1_become_116 rfl faRX1_30 (by decide) rfl rfl ?_
  refine fr_iconst (q := 120) (v := 0) F dX1_become_119 rfl (by decide) ?_
  refine fr_aload_n (q := 121) F dX1_become_120 rfl rfl ?_
  refine fr_gfR (q := 124) (j := 10) F dX1_become_121 rfl faRX1_30 (by decide) rfl rfl ?_
  refine fr_iconst (q := 125) (v := 0) F dX1_become_124 rfl (by decide) ?_
  refine fr_iconst (q := 126) (v := 5) F dX1_become_125 rfl (by decide) ?_
  obtain ⟨n21, hn22, h⟩ := fr_lt_some h
  refine fr_acp (q := 129) (M' := (n21, u0)) F dX1_become_126 rfl mlRX1_64 mm_acp (by decide) rfl (by decide) rfl (by decide) (by decide) (by decide) (by decide) (by decide) ⟨Nat.le_of_ble_eq_true rfl, Nat.le_of_ble_eq_true rfl⟩ (congrArg (fun z => (z, u0)) hn22) ?_
  obtain rfl := Option.some.inj h
  exact fr_vret F E rfl dX1_become_129
/-! FeastRota.book (0,) -/
def fX7_book (n0 : fr_N) : Option (Int32 × fr_N) := fr_bd2 (fX4_readsAll n0) fun r1 n3 => (fr_lt (fr_up n3 1 1 (0 : Int32)) fun n4 => (if r1 = true then fr_bd (fX1_become_3_35 n4) fun n9 => (fr_lt (fr_up n9 43 4 (0 : Int32)) fun n10 => (some ((n10 3 1), n10))) else fr_lt (fr_up n4 0 7 (n4 34 4)) fun n12 => (some (((-1000100 : Int32) - (n12 34 5)), n12))))
theorem tX7_book {l : Launch} {G : fr_G} {u0 : fr_N} {n0 : fr_N} {rz : Int32} {nz : fr_N} (h : fX7_book n0 = some (rz, nz)) : fr_Met l G YX7_book [.ref 0] (n0, u0) (some (.int rz)) (nz, u0) := by
  refine fr_met (pad := List.replicate 1 none) (by decide) (Nat.le_of_ble_eq_true rfl) (fun _ h => List.eq_of_mem_replicate h) ⟨rfl, rfl⟩ (fun K F hG hL E => ?_)
  subst hG; subst hL
  rw [fX7_book] at h
  show fr_V YX7_book K 0 [some (.ref 0), none] [] (n0, u0)
  refine fr_aload_n (q := 1) F dX7_book_0 rfl rfl ?_
  refine fr_gfR (q := 4) (j := 34) F dX7_book_1 rfl faRX7_32 (by decide) rfl rfl ?_
  obtain ⟨r1, n3, hr2, h⟩ := fr_bd2_some h
  refine fr_callV (q := 7) (M' := (n3, u0)) (rest := []) (st' := [.int (fr_b r1)]) F dX7_book_4 rfl (tX4_readsAll hr2) mlRX7_81 msX4_readsAll ⟨Nat.le_of_ble_eq_true rfl, Nat.le_of_ble_eq_true rfl⟩ (by decide) rfl rfl rfl (Nat.le_of_ble_eq_true rfl) rfl ?_
  refine fr_istore_n (q := 8) F dX7_book_7 rfl (by decide) rfl ?_
  refine fr_aload_n (q := 9) F dX7_book_8 rfl rfl ?_
  refine fr_gfR (q := 12) (j := 1) F dX7_book_9 rfl faRX7_23 (by decide) rfl rfl ?_
  refine fr_iconst (q := 13) (v := 0) F dX7_book_12 rfl (by decide) ?_
  obtain ⟨n4, hn5, h⟩ := fr_lt_some h
  refine fr_pfI (q := 16) (M' := (n4, u0)) F dX7_book_13 rfl fpRX7_77 (by decide) rfl rfl (congrArg (fun z => (z, u0)) hn5) ?_
  refine fr_iload_n (q := 17) F dX7_book_16 rfl rfl ?_
  refine fr_if_neb (q := 20) (tgt := 42) F dX7_book_17 (by decide) rfl (fun hc6 => ?_) (fun hc6 => ?_)
  · rw [if_pos hc6] at h
    refine fr_aload_n (q := 43) F dX7_book_42 rfl rfl ?_
    refine fr_gfR (q := 46) (j := 3) F dX7_book_43 rfl faRX7_36 (by decide) rfl rfl ?_
    refine fr_aload_n (q := 47) F dX7_book_46 rfl rfl ?_
    refine fr_gfR (q := 50) (j := 34) F dX7_book_47 rfl faRX7_32 (by decide) rfl rfl ?_
    refine fr_gfR (q := 53) (j := 35) F dX7_book_50 rfl faRX7_92 (by decide) rfl rfl ?_
    obtain ⟨n9, hr8, h⟩ := fr_bd_some h
    refine fr_callV (q := 56) (M' := (n9, u0)) (rest := []) (st' := []) F dX7_book_53 rfl (tX1_become_3_35 hr8) mlRX7_95 msX1_become ⟨Nat.le_of_ble_eq_true rfl, Nat.le_of_ble_eq_true rfl⟩ (by decide) rfl rfl rfl (Nat.le_of_ble_eq_true rfl) rfl ?_
    refine fr_aload_n (q := 57) F dX7_book_56 rfl rfl ?_
    refine fr_gfR (q := 60) (j := 43) F dX7_book_57 rfl faRX7_47 (by decide) rfl rfl ?_
    refine fr_iconst (q := 61) (v := 0) F dX7_book_60 rfl (by decide) ?_
    obtain ⟨n10, hn11, h⟩ := fr_lt_some h
    refine fr_pfI (q := 64) (M' := (n10, u0)) F dX7_book_61 rfl fpRX7_99 (by decide) rfl rfl (congrArg (fun z => (z, u0)) hn11) ?_
    refine fr_aload_n (q := 65) F dX7_book_64 rfl rfl ?_
    refine fr_gfR (q := 68) (j := 3) F dX7_book_65 rfl faRX7_36 (by decide) rfl rfl ?_
    refine fr_gfI (q := 71) (x := (n10 3 1)) F dX7_book_68 rfl faRX7_102 (by decide) rfl rfl rfl ?_
    obtain ⟨rfl, rfl⟩ := Prod.mk.inj (Option.some.inj h)
    exact fr_iret F E rfl dX7_book_71
  · rw [if_neg hc6] at h
    refine fr_aload_n (q := 21) F dX7_book_20 rfl rfl ?_
    refine fr_aload_n (q := 22) F dX7_book_21 rfl rfl ?_
    refine fr_gfR (q := 25) (j := 34) F dX7_book_22 rfl faRX7_32 (by decide) rfl rfl ?_
    refine fr_gfI (q := 28) (x := (n4 34 4)) F dX7_book_25 rfl faRX7_85 (by decide) rfl rfl rfl ?_
    obtain ⟨n12, hn13, h⟩ := fr_lt_some h
    refine fr_pfI (q := 31) (M' := (n12, u0)) F dX7_book_28 rfl fpRX7_64 (by decide) rfl rfl (congrArg (fun z => (z, u0)) hn13) ?_
    refine fr_ldc (q := 33) F dX7_book_31 rfl kcRX7_88 ?_
    refine fr_aload_n (q := 34) F dX7_book_33 rfl rfl ?_
    refine fr_gfR (q := 37) (j := 34) F dX7_book_34 rfl faRX7_32 (by decide) rfl rfl ?_
    refine fr_gfI (q := 40) (x := (n12 34 5)) F dX7_book_37 rfl faRX7_89 (by decide) rfl rfl rfl ?_
    refine fr_isub (q := 41) F dX7_book_40 rfl ?_
    obtain ⟨rfl, rfl⟩ := Prod.mk.inj (Option.some.inj h)
    exact fr_iret F E rfl dX7_book_41
/-! FeastRotaModel.byteAt (52, None) -/
def fX8_byteAt (a1 : Int32) (n0 : fr_N) : Option Int32 := if (n0 0 7) ≤ a1 then some (-1 : Int32) else fr_ck a1 160 (some (n0 6 (Int32.toNatClampNeg a1)))
theorem tX8_byteAt {l : Launch} {G : fr_G} {u0 : fr_N} {a1 : Int32} {n0 : fr_N} {rz : Int32} (h : fX8_byteAt a1 n0 = some rz) : fr_Met l G YX8_byteAt [.ref 52, .int a1] (u0, n0) (some (.int rz)) (u0, n0) := by
  refine fr_met (pad := List.replicate 0 none) (by decide) (Nat.le_of_ble_eq_true rfl) (fun _ h => List.eq_of_mem_replicate h) ⟨rfl, rfl⟩ (fun K F hG hL E => ?_)
  subst hG; subst hL
  rw [fX8_byteAt] at h
  show fr_V YX8_byteAt K 0 [some (.ref 52), some (.int a1)] [] (u0, n0)
  refine fr_iload_n (q := 1) F dX8_byteAt_0 rfl rfl ?_
  refine fr_aload_n (q := 2) F dX8_byteAt_1 rfl rfl ?_
  refine fr_gfI (q := 5) (x := (n0 0 7)) F dX8_byteAt_2 rfl faRX8_152 (by decide) rfl rfl rfl ?_
  refine fr_icmp_ge (q := 8) (tgt := 17) F dX8_byteAt_5 (by decide) rfl (fun hc1 => ?_) (fun hc1 => ?_)
  · rw [if_pos hc1] at h
    refine fr_iconst (q := 18) (v := (-1)) F dX8_byteAt_17 rfl (by decide) ?_
    obtain rfl := Option.some.inj h
    exact fr_iret F E rfl dX8_byteAt_18
  · rw [if_neg hc1] at h
    refine fr_aload_n (q := 9) F dX8_byteAt_8 rfl rfl ?_
    refine fr_gfR (q := 12) (j := 58) F dX8_byteAt_9 rfl faRX8_26 (by decide) rfl rfl ?_
    refine fr_iload_n (q := 13) F dX8_byteAt_12 rfl rfl ?_
    obtain ⟨hi2, h⟩ := fr_ck_some h
    refine fr_ial (q := 14) (x := (n0 6 (Int32.toNatClampNeg a1))) F dX8_byteAt_13 rfl hi2 (by decide) rfl rfl ?_
    refine fr_goto (tgt := 18) F dX8_byteAt_14 (by decide) ?_
    obtain rfl := Option.some.inj h
    exact fr_iret F E rfl dX8_byteAt_18
/-! FeastRotaModel.reads (52,) -/
def fX8_reads_182 (k121 : fr_N → Option fr_N) (s0 : Int32) (n0 : fr_N) : Option fr_N := fr_lt (fr_up n0 0 11 s0) fun n1 => (fr_lt (fr_up n1 0 8 ((n1 0 8) + (1 : Int32))) fun n3 => (k121 n3))
def fX8_reads_217 (s0 : Int32) (n0 : fr_N) : Option fr_N := fr_lt (fr_up n0 0 10 s0) fun n5 => (some n5)
def fX8_reads_121 : Nat → fr_N → Option fr_N
  | 0, _ => none
  | k + 1, n0 => fr_bd (fX8_byteAt (n0 0 8) n0) fun r7 => (fr_bd (fX8_in (Int32.toInt64 r7) (48 : Int64) (57 : Int64)) fun r9 => (if r9 = true then if (3 : Int32) ≤ ((n0 0 8) - (n0 0 9)) then fX8_reads_182 (fX8_reads_121 k) (n0 0 11) n0 else fr_bd (fX8_byteAt (n0 0 8) n0) fun r14 => (fX8_reads_182 (fX8_reads_121 k) ((((10 : Int32) * (n0 0 11)) + r14) - (48 : Int32)) n0) else if ((n0 0 8) - (n0 0 9)) ≤ (3 : Int32) then fX8_reads_217 (2 : Int32) n0 else fX8_reads_217 (4 : Int32) n0))
def fX8_reads_102 (x1 : Int32) (s0 : Int32) (n0 : fr_N) : Option fr_N := fr_lt (fr_up n0 0 10 s0) fun n16 => (if (n16 0 10) = (2 : Int32) then fr_lt (fr_up n16 0 11 (x1 - (48 : Int32))) fun n19 => (fX8_reads_121 2000 n19) else some n16)
def fX8_reads_36 (x1 : Int32) (s0 : Bool) (s1 : Int32) (n0 : fr_N) : Option fr_N := fr_lt (fr_up n0 0 8 (s1 + (fr_b s0))) fun n21 => (if 0 ≤ x1 then fr_bd (fX8_in (Int32.toInt64 x1) (97 : Int64) (122 : Int64)) fun r24 => (if r24 = true then fX8_reads_102 x1 (1 : Int32) n21 else fr_bd (fX8_in (Int32.toInt64 x1) (48 : Int64) (57 : Int64)) fun r27 => (if r27 = true then fX8_reads_102 x1 (2 : Int32) n21 else if x1 = (44 : Int32) then fX8_reads_102 x1 (3 : Int32) n21 else if x1 = (59 : Int32) then fX8_reads_102 x1 (3 : Int32) n21 else fX8_reads_102 x1 (4 : Int32) n21)) else fX8_reads_102 x1 (0 : Int32) n21)
def fX8_reads (n0 : fr_N) : Option fr_N := fr_lt (fr_up n0 0 9 (n0 0 8)) fun n32 => (fr_bd (fX8_byteAt (n32 0 8) n32) fun r34 => (fr_lt (fr_up n32 0 11 r34) fun n36 => (if 0 ≤ r34 then fX8_reads_36 r34 true (n36 0 8) n36 else fX8_reads_36 r34 false (n36 0 8) n36)))
theorem tX8_reads_182 {K : fr_K} {k121 : fr_N → Option fr_N} {u0 : fr_N} {nz : fr_N} (F : fr_F YX8_reads K) (E : fr_R YX8_reads K none (u0, nz)) (H121 : ∀ (n : fr_N), k121 n = some nz → fr_V YX8_reads K 121 [some (.ref 52), none] [] (u0, n)) {s0 : Int32} {n0 : fr_N} (h : fX8_reads_182 k121 s0 n0 = some nz) : fr_V YX8_reads K 182 [some (.ref 52), none] [.int s0, .ref 52] (u0, n0) := by
  rw [fX8_reads_182] at h
  obtain ⟨n1, hn2, h⟩ := fr_lt_some h
  refine fr_pfI (q := 185) (M' := (u0, n1)) F dX8_reads_182 rfl fpRX8_164 (by decide) rfl rfl (congrArg (fun z => (u0, z)) hn2) ?_
  refine fr_aload_n (q := 186) F dX8_reads_185 rfl rfl ?_
  refine fr_dup (q := 187) F dX8_reads_186 rfl rfl ?_
  refine fr_gfI (q := 190) (x := (n1 0 8)) F dX8_reads_187 rfl faRX8_155 (by decide) rfl rfl rfl ?_
  refine fr_iconst (q := 191) (v := 1) F dX8_reads_190 rfl (by decide) ?_
  refine fr_iadd (q := 192) F dX8_reads_191 rfl ?_
  obtain ⟨n3, hn4, h⟩ := fr_lt_some h
  refine fr_pfI (q := 195) (M' := (u0, n3)) F dX8_reads_192 rfl fpRX8_155 (by decide) rfl rfl (congrArg (fun z => (u0, z)) hn4) ?_
  refine fr_goto (tgt := 121) F dX8_reads_195 (by decide) ?_
  exact fr_wj (H121 _ h) ⟨rfl, trivial⟩
theorem tX8_reads_217 {K : fr_K} {u0 : fr_N} {nz : fr_N} (F : fr_F YX8_reads K) (E : fr_R YX8_reads K none (u0, nz)) {s0 : Int32} {n0 : fr_N} (h : fX8_reads_217 s0 n0 = some nz) : fr_V YX8_reads K 217 [none, none] [.int s0, .ref 52] (u0, n0) := by
  rw [fX8_reads_217] at h
  obtain ⟨n5, hn6, h⟩ := fr_lt_some h
  refine fr_pfI (q := 220) (M' := (u0, n5)) F dX8_reads_217 rfl fpRX8_175 (by decide) rfl rfl (congrArg (fun z => (u0, z)) hn6) ?_
  obtain rfl := Option.some.inj h
  exact fr_vret F E rfl dX8_reads_220
theorem tX8_reads_121 {K : fr_K} {u0 : fr_N} {nz : fr_N} (F : fr_F YX8_reads K) (E : fr_R YX8_reads K none (u0, nz)) : ∀ (k : Nat) (n0 : fr_N), fX8_reads_121 k n0 = some nz → fr_V YX8_reads K 121 [some (.ref 52), none] [] (u0, n0) := by
  intro k
  induction k with
  | zero =>
    intro n0 h
    rw [fX8_reads_121] at h
    cases h
  | succ k ih =>
    intro n0 h
    rw [fX8_reads_121] at h
    refine fr_aload_n (q := 122) F dX8_reads_121 rfl rfl ?_
    refine fr_aload_n (q := 123) F dX8_reads_122 rfl rfl ?_
    refine fr_gfI (q := 126) (x := (n0 0 8)) F dX8_reads_123 rfl faRX8_155 (by decide) rfl rfl rfl ?_
    obtain ⟨r7, hr8, h⟩ := fr_bd_some h
    refine fr_callV (q := 129) (M' := (u0, n0)) (rest := []) (st' := [.int r7]) F dX8_reads_126 rfl (tX8_byteAt hr8) mlRX8_161 msX8_byteAt ⟨Nat.le_of_ble_eq_true rfl, Nat.le_of_ble_eq_true rfl⟩ (by decide) rfl rfl rfl (Nat.le_of_ble_eq_true rfl) rfl ?_
    refine fr_i2l (q := 130) F dX8_reads_129 rfl ?_
    refine fr_ldc2 (q := 133) F dX8_reads_130 rfl klRX8_171 ?_
    refine fr_ldc2 (q := 136) F dX8_reads_133 rfl klRX8_173 ?_
    obtain ⟨r9, hr10, h⟩ := fr_bd_some h
    refine fr_callS (q := 139) (M' := (u0, n0)) (rest := []) (st' := [.int (fr_b r9)]) F dX8_reads_136 rfl (tX8_in hr10) mlRX8_55 msX8_in ⟨Nat.le_of_ble_eq_true rfl, Nat.le_of_ble_eq_true rfl⟩ rfl rfl (Nat.le_of_ble_eq_true rfl) rfl ?_
    refine fr_if_eqb (q := 142) (tgt := 198) F dX8_reads_139 (by decide) rfl (fun hc11 => ?_) (fun hc11 => ?_)
    · rw [if_neg hc11] at h
      refine fr_aload_n (q := 199) F dX8_reads_198 rfl rfl ?_
      refine fr_aload_n (q := 200) F dX8_reads_199 rfl rfl ?_
      refine fr_gfI (q := 203) (x := (n0 0 8)) F dX8_reads_200 rfl faRX8_155 (by decide) rfl rfl rfl ?_
      refine fr_aload_n (q := 204) F dX8_reads_203 rfl rfl ?_
      refine fr_gfI (q := 207) (x := (n0 0 9)) F dX8_reads_204 rfl faRX8_158 (by decide) rfl rfl rfl ?_
      refine fr_isub (q := 208) F dX8_reads_207 rfl ?_
      refine fr_iconst (q := 209) (v := 3) F dX8_reads_208 rfl (by decide) ?_
      refine fr_icmp_le (q := 212) (tgt := 216) F dX8_reads_209 (by decide) rfl (fun hc12 => ?_) (fun hc12 => ?_)
      · rw [if_pos hc12] at h
        refine fr_iconst (q := 217) (v := 2) F dX8_reads_216 rfl (by decide) ?_
        exact fr_wj (tX8_reads_217 F E h) trivial
      · rw [if_neg hc12] at h
        refine fr_iconst (q := 213) (v := 4) F dX8_reads_212 rfl (by decide) ?_
        refine fr_goto (tgt := 217) F dX8_reads_213 (by decide) ?_
        exact fr_wj (tX8_reads_217 F E h) trivial
    · rw [if_pos hc11] at h
      refine fr_aload_n (q := 143) F dX8_reads_142 rfl rfl ?_
      refine fr_aload_n (q := 144) F dX8_reads_143 rfl rfl ?_
      refine fr_gfI (q := 147) (x := (n0 0 8)) F dX8_reads_144 rfl faRX8_155 (by decide) rfl rfl rfl ?_
      refine fr_aload_n (q := 148) F dX8_reads_147 rfl rfl ?_
      refine fr_gfI (q := 151) (x := (n0 0 9)) F dX8_reads_148 rfl faRX8_158 (by decide) rfl rfl rfl ?_
      refine fr_isub (q := 152) F dX8_reads_151 rfl ?_
      refine fr_iconst (q := 153) (v := 3) F dX8_reads_152 rfl (by decide) ?_
      refine fr_icmp_ge (q := 156) (tgt := 178) F dX8_reads_153 (by decide) rfl (fun hc13 => ?_) (fun hc13 => ?_)
      · rw [if_pos hc13] at h
        refine fr_aload_n (q := 179) F dX8_reads_178 rfl rfl ?_
        refine fr_gfI (q := 182) (x := (n0 0 11)) F dX8_reads_179 rfl faRX8_164 (by decide) rfl rfl rfl ?_
        exact fr_wj (tX8_reads_182 F E ih h) ⟨rfl, trivial⟩
      · rw [if_neg hc13] at h
        refine fr_bipush (q := 158) (v := 10) F dX8_reads_156 rfl (by decide) ?_
        refine fr_aload_n (q := 159) F dX8_reads_158 rfl rfl ?_
        refine fr_gfI (q := 162) (x := (n0 0 11)) F dX8_reads_159 rfl faRX8_164 (by decide) rfl rfl rfl ?_
        refine fr_imul (q := 163) F dX8_reads_162 rfl ?_
        refine fr_aload_n (q := 164) F dX8_reads_163 rfl rfl ?_
        refine fr_aload_n (q := 165) F dX8_reads_164 rfl rfl ?_
        refine fr_gfI (q := 168) (x := (n0 0 8)) F dX8_reads_165 rfl faRX8_155 (by decide) rfl rfl rfl ?_
        obtain ⟨r14, hr15, h⟩ := fr_bd_some h
        refine fr_callV (q := 171) (M' := (u0, n0)) (rest := [.int ((10 : Int32) * (n0 0 11)), .ref 52]) (st' := [.int r14, .int ((10 : Int32) * (n0 0 11)), .ref 52]) F dX8_reads_168 rfl (tX8_byteAt hr15) mlRX8_161 msX8_byteAt ⟨Nat.le_of_ble_eq_true rfl, Nat.le_of_ble_eq_true rfl⟩ (by decide) rfl rfl rfl (Nat.le_of_ble_eq_true rfl) rfl ?_
        refine fr_iadd (q := 172) F dX8_reads_171 rfl ?_
        refine fr_bipush (q := 174) (v := 48) F dX8_reads_172 rfl (by decide) ?_
        refine fr_isub (q := 175) F dX8_reads_174 rfl ?_
        refine fr_goto (tgt := 182) F dX8_reads_175 (by decide) ?_
        exact fr_wj (tX8_reads_182 F E ih h) ⟨rfl, trivial⟩
theorem tX8_reads_102 {K : fr_K} {u0 : fr_N} {nz : fr_N} (F : fr_F YX8_reads K) (E : fr_R YX8_reads K none (u0, nz)) {x1 : Int32} {s0 : Int32} {n0 : fr_N} (h : fX8_reads_102 x1 s0 n0 = some nz) : fr_V YX8_reads K 102 [some (.ref 52), some (.int x1)] [.int s0, .ref 52] (u0, n0) := by
  rw [fX8_reads_102] at h
  obtain ⟨n16, hn17, h⟩ := fr_lt_some h
  refine fr_pfI (q := 105) (M' := (u0, n16)) F dX8_reads_102 rfl fpRX8_175 (by decide) rfl rfl (congrArg (fun z => (u0, z)) hn17) ?_
  refine fr_aload_n (q := 106) F dX8_reads_105 rfl rfl ?_
  refine fr_gfI (q := 109) (x := (n16 0 10)) F dX8_reads_106 rfl faRX8_175 (by decide) rfl rfl rfl ?_
  refine fr_iconst (q := 110) (v := 2) F dX8_reads_109 rfl (by decide) ?_
  refine fr_icmp_ne (q := 113) (tgt := 220) F dX8_reads_110 (by decide) rfl (fun hc18 => ?_) (fun hc18 => ?_)
  · rw [if_neg hc18] at h
    obtain rfl := Option.some.inj h
    exact fr_vret F E rfl dX8_reads_220
  · rw [if_pos hc18] at h
    refine fr_aload_n (q := 114) F dX8_reads_113 rfl rfl ?_
    refine fr_iload_n (q := 115) F dX8_reads_114 rfl rfl ?_
    refine fr_bipush (q := 117) (v := 48) F dX8_reads_115 rfl (by decide) ?_
    refine fr_isub (q := 118) F dX8_reads_117 rfl ?_
    obtain ⟨n19, hn20, h⟩ := fr_lt_some h
    refine fr_pfI (q := 121) (M' := (u0, n19)) F dX8_reads_118 rfl fpRX8_164 (by decide) rfl rfl (congrArg (fun z => (u0, z)) hn20) ?_
    exact fr_wj (tX8_reads_121 F E _ _ h) ⟨rfl, trivial⟩
theorem tX8_reads_36 {K : fr_K} {u0 : fr_N} {nz : fr_N} (F : fr_F YX8_reads K) (E : fr_R YX8_reads K none (u0, nz)) {x1 : Int32} {s0 : Bool} {s1 : Int32} {n0 : fr_N} (h : fX8_reads_36 x1 s0 s1 n0 = some nz) : fr_V YX8_reads K 36 [some (.ref 52), some (.int x1)] [.int (fr_b s0), .int s1, .ref 52] (u0, n0) := by
  rw [fX8_reads_36] at h
  refine fr_iadd (q := 37) F dX8_reads_36 rfl ?_
  obtain ⟨n21, hn22, h⟩ := fr_lt_some h
  refine fr_pfI (q := 40) (M' := (u0, n21)) F dX8_reads_37 rfl fpRX8_155 (by decide) rfl rfl (congrArg (fun z => (u0, z)) hn22) ?_
  refine fr_aload_n (q := 41) F dX8_reads_40 rfl rfl ?_
  refine fr_iload_n (q := 42) F dX8_reads_41 rfl rfl ?_
  refine fr_if_ge (q := 45) (tgt := 49) F dX8_reads_42 (by decide) rfl (fun hc23 => ?_) (fun hc23 => ?_)
  · rw [if_pos hc23] at h
    refine fr_iload_n (q := 50) F dX8_reads_49 rfl rfl ?_
    refine fr_i2l (q := 51) F dX8_reads_50 rfl ?_
    refine fr_ldc2 (q := 54) F dX8_reads_51 rfl klRX8_167 ?_
    refine fr_ldc2 (q := 57) F dX8_reads_54 rfl klRX8_169 ?_
    obtain ⟨r24, hr25, h⟩ := fr_bd_some h
    refine fr_callS (q := 60) (M' := (u0, n21)) (rest := [.ref 52]) (st' := [.int (fr_b r24), .ref 52]) F dX8_reads_57 rfl (tX8_in hr25) mlRX8_55 msX8_in ⟨Nat.le_of_ble_eq_true rfl, Nat.le_of_ble_eq_true rfl⟩ rfl rfl (Nat.le_of_ble_eq_true rfl) rfl ?_
    refine fr_if_eqb (q := 63) (tgt := 67) F dX8_reads_60 (by decide) rfl (fun hc26 => ?_) (fun hc26 => ?_)
    · rw [if_neg hc26] at h
      refine fr_iload_n (q := 68) F dX8_reads_67 rfl rfl ?_
      refine fr_i2l (q := 69) F dX8_reads_68 rfl ?_
      refine fr_ldc2 (q := 72) F dX8_reads_69 rfl klRX8_171 ?_
      refine fr_ldc2 (q := 75) F dX8_reads_72 rfl klRX8_173 ?_
      obtain ⟨r27, hr28, h⟩ := fr_bd_some h
      refine fr_callS (q := 78) (M' := (u0, n21)) (rest := [.ref 52]) (st' := [.int (fr_b r27), .ref 52]) F dX8_reads_75 rfl (tX8_in hr28) mlRX8_55 msX8_in ⟨Nat.le_of_ble_eq_true rfl, Nat.le_of_ble_eq_true rfl⟩ rfl rfl (Nat.le_of_ble_eq_true rfl) rfl ?_
      refine fr_if_eqb (q := 81) (tgt := 85) F dX8_reads_78 (by decide) rfl (fun hc29 => ?_) (fun hc29 => ?_)
      · rw [if_neg hc29] at h
        refine fr_iload_n (q := 86) F dX8_reads_85 rfl rfl ?_
        refine fr_bipush (q := 88) (v := 44) F dX8_reads_86 rfl (by decide) ?_
        refine fr_icmp_eq (q := 91) (tgt := 97) F dX8_reads_88 (by decide) rfl (fun hc30 => ?_) (fun hc30 => ?_)
        · rw [if_pos hc30] at h
          refine fr_iconst (q := 98) (v := 3) F dX8_reads_97 rfl (by decide) ?_
          refine fr_goto (tgt := 102) F dX8_reads_98 (by decide) ?_
          exact fr_wj (tX8_reads_102 F E h) ⟨rfl, ⟨rfl, trivial⟩⟩
        · rw [if_neg hc30] at h
          refine fr_iload_n (q := 92) F dX8_reads_91 rfl rfl ?_
          refine fr_bipush (q := 94) (v := 59) F dX8_reads_92 rfl (by decide) ?_
          refine fr_icmp_ne (q := 97) (tgt := 101) F dX8_reads_94 (by decide) rfl (fun hc31 => ?_) (fun hc31 => ?_)
          · rw [if_neg hc31] at h
            refine fr_iconst (q := 102) (v := 4) F dX8_reads_101 rfl (by decide) ?_
            exact fr_wj (tX8_reads_102 F E h) ⟨rfl, ⟨rfl, trivial⟩⟩
          · rw [if_pos hc31] at h
            refine fr_iconst (q := 98) (v := 3) F dX8_reads_97 rfl (by decide) ?_
            refine fr_goto (tgt := 102) F dX8_reads_98 (by decide) ?_
            exact fr_wj (tX8_reads_102 F E h) ⟨rfl, ⟨rfl, trivial⟩⟩
      · rw [if_pos hc29] at h
        refine fr_iconst (q := 82) (v := 2) F dX8_reads_81 rfl (by decide) ?_
        refine fr_goto (tgt := 102) F dX8_reads_82 (by decide) ?_
        exact fr_wj (tX8_reads_102 F E h) ⟨rfl, ⟨rfl, trivial⟩⟩
    · rw [if_pos hc26] at h
      refine fr_iconst (q := 64) (v := 1) F dX8_reads_63 rfl (by decide) ?_
      refine fr_goto (tgt := 102) F dX8_reads_64 (by decide) ?_
      exact fr_wj (tX8_reads_102 F E h) ⟨rfl, ⟨rfl, trivial⟩⟩
  · rw [if_neg hc23] at h
    refine fr_iconst (q := 46) (v := 0) F dX8_reads_45 rfl (by decide) ?_
    refine fr_goto (tgt := 102) F dX8_reads_46 (by decide) ?_
    exact fr_wj (tX8_reads_102 F E h) ⟨rfl, ⟨rfl, trivial⟩⟩
theorem tX8_reads {l : Launch} {G : fr_G} {u0 : fr_N} {n0 : fr_N} {nz : fr_N} (h : fX8_reads n0 = some nz) : fr_Met l G YX8_reads [.ref 52] (u0, n0) none (u0, nz) := by
  refine fr_met (pad := List.replicate 1 none) (by decide) (Nat.le_of_ble_eq_true rfl) (fun _ h => List.eq_of_mem_replicate h) ⟨rfl, rfl⟩ (fun K F hG hL E => ?_)
  subst hG; subst hL
  rw [fX8_reads] at h
  show fr_V YX8_reads K 0 [some (.ref 52), none] [] (u0, n0)
  refine fr_aload_n (q := 1) F dX8_reads_0 rfl rfl ?_
  refine fr_aload_n (q := 2) F dX8_reads_1 rfl rfl ?_
  refine fr_gfI (q := 5) (x := (n0 0 8)) F dX8_reads_2 rfl faRX8_155 (by decide) rfl rfl rfl ?_
  obtain ⟨n32, hn33, h⟩ := fr_lt_some h
  refine fr_pfI (q := 8) (M' := (u0, n32)) F dX8_reads_5 rfl fpRX8_158 (by decide) rfl rfl (congrArg (fun z => (u0, z)) hn33) ?_
  refine fr_aload_n (q := 9) F dX8_reads_8 rfl rfl ?_
  refine fr_aload_n (q := 10) F dX8_reads_9 rfl rfl ?_
  refine fr_gfI (q := 13) (x := (n32 0 8)) F dX8_reads_10 rfl faRX8_155 (by decide) rfl rfl rfl ?_
  obtain ⟨r34, hr35, h⟩ := fr_bd_some h
  refine fr_callV (q := 16) (M' := (u0, n32)) (rest := []) (st' := [.int r34]) F dX8_reads_13 rfl (tX8_byteAt hr35) mlRX8_161 msX8_byteAt ⟨Nat.le_of_ble_eq_true rfl, Nat.le_of_ble_eq_true rfl⟩ (by decide) rfl rfl rfl (Nat.le_of_ble_eq_true rfl) rfl ?_
  refine fr_istore_n (q := 17) F dX8_reads_16 rfl (by decide) rfl ?_
  refine fr_aload_n (q := 18) F dX8_reads_17 rfl rfl ?_
  refine fr_iload_n (q := 19) F dX8_reads_18 rfl rfl ?_
  obtain ⟨n36, hn37, h⟩ := fr_lt_some h
  refine fr_pfI (q := 22) (M' := (u0, n36)) F dX8_reads_19 rfl fpRX8_164 (by decide) rfl rfl (congrArg (fun z => (u0, z)) hn37) ?_
  refine fr_aload_n (q := 23) F dX8_reads_22 rfl rfl ?_
  refine fr_dup (q := 24) F dX8_reads_23 rfl rfl ?_
  refine fr_gfI (q := 27) (x := (n36 0 8)) F dX8_reads_24 rfl faRX8_155 (by decide) rfl rfl rfl ?_
  refine fr_iload_n (q := 28) F dX8_reads_27 rfl rfl ?_
  refine fr_if_ge (q := 31) (tgt := 35) F dX8_reads_28 (by decide) rfl (fun hc38 => ?_) (fun hc38 => ?_)
  · rw [if_pos hc38] at h
    refine fr_iconst (q := 36) (v := 1) F dX8_reads_35 rfl (by decide) ?_
    exact fr_wj (tX8_reads_36 F E h) ⟨rfl, ⟨rfl, trivial⟩⟩
  · rw [if_neg hc38] at h
    refine fr_iconst (q := 32) (v := 0) F dX8_reads_31 rfl (by decide) ?_
    refine fr_goto (tgt := 36) F dX8_reads_32 (by decide) ?_
    exact fr_wj (tX8_reads_36 F E h) ⟨rfl, ⟨rfl, trivial⟩⟩
/-! FeastRotaModel.isLetter (52, None) -/
def fX8_isLetter (a1 : Int32) (n0 : fr_N) : Option Bool := if (n0 0 12) = 0 then if (n0 0 10) = (1 : Int32) then if (n0 0 11) = a1 then some true else some false else some false else some false
theorem tX8_isLetter {l : Launch} {G : fr_G} {u0 : fr_N} {a1 : Int32} {n0 : fr_N} {rz : Bool} (h : fX8_isLetter a1 n0 = some rz) : fr_Met l G YX8_isLetter [.ref 52, .int a1] (u0, n0) (some (.int (fr_b rz))) (u0, n0) := by
  refine fr_met (pad := List.replicate 0 none) (by decide) (Nat.le_of_ble_eq_true rfl) (fun _ h => List.eq_of_mem_replicate h) ⟨rfl, rfl⟩ (fun K F hG hL E => ?_)
  subst hG; subst hL
  rw [fX8_isLetter] at h
  show fr_V YX8_isLetter K 0 [some (.ref 52), some (.int a1)] [] (u0, n0)
  refine fr_aload_n (q := 1) F dX8_isLetter_0 rfl rfl ?_
  refine fr_gfI (q := 4) (x := (n0 0 12)) F dX8_isLetter_1 rfl faRX8_178 (by decide) rfl rfl rfl ?_
  refine fr_if_ne (q := 7) (tgt := 27) F dX8_isLetter_4 (by decide) rfl (fun hc1 => ?_) (fun hc1 => ?_)
  · rw [if_neg hc1] at h
    refine fr_iconst (q := 28) (v := 0) F dX8_isLetter_27 rfl (by decide) ?_
    obtain rfl := Option.some.inj h
    exact fr_zret F E rfl dX8_isLetter_28
  · rw [if_pos hc1] at h
    refine fr_aload_n (q := 8) F dX8_isLetter_7 rfl rfl ?_
    refine fr_gfI (q := 11) (x := (n0 0 10)) F dX8_isLetter_8 rfl faRX8_175 (by decide) rfl rfl rfl ?_
    refine fr_iconst (q := 12) (v := 1) F dX8_isLetter_11 rfl (by decide) ?_
    refine fr_icmp_ne (q := 15) (tgt := 27) F dX8_isLetter_12 (by decide) rfl (fun hc2 => ?_) (fun hc2 => ?_)
    · rw [if_neg hc2] at h
      refine fr_iconst (q := 28) (v := 0) F dX8_isLetter_27 rfl (by decide) ?_
      obtain rfl := Option.some.inj h
      exact fr_zret F E rfl dX8_isLetter_28
    · rw [if_pos hc2] at h
      refine fr_aload_n (q := 16) F dX8_isLetter_15 rfl rfl ?_
      refine fr_gfI (q := 19) (x := (n0 0 11)) F dX8_isLetter_16 rfl faRX8_164 (by decide) rfl rfl rfl ?_
      refine fr_iload_n (q := 20) F dX8_isLetter_19 rfl rfl ?_
      refine fr_icmp_ne (q := 23) (tgt := 27) F dX8_isLetter_20 (by decide) rfl (fun hc3 => ?_) (fun hc3 => ?_)
      · rw [if_neg hc3] at h
        refine fr_iconst (q := 28) (v := 0) F dX8_isLetter_27 rfl (by decide) ?_
        obtain rfl := Option.some.inj h
        exact fr_zret F E rfl dX8_isLetter_28
      · rw [if_pos hc3] at h
        refine fr_iconst (q := 24) (v := 1) F dX8_isLetter_23 rfl (by decide) ?_
        refine fr_goto (tgt := 28) F dX8_isLetter_24 (by decide) ?_
        obtain rfl := Option.some.inj h
        exact fr_zret F E rfl dX8_isLetter_28
/-! FeastRotaModel.goesOn (52,) -/
def fX8_goesOn (n0 : fr_N) : Option fr_N := if (n0 0 12) = 0 then fr_bd (fX8_reads n0) fun n4 => (some n4) else some n0
theorem tX8_goesOn {l : Launch} {G : fr_G} {u0 : fr_N} {n0 : fr_N} {nz : fr_N} (h : fX8_goesOn n0 = some nz) : fr_Met l G YX8_goesOn [.ref 52] (u0, n0) none (u0, nz) := by
  refine fr_met (pad := List.replicate 0 none) (by decide) (Nat.le_of_ble_eq_true rfl) (fun _ h => List.eq_of_mem_replicate h) ⟨rfl, rfl⟩ (fun K F hG hL E => ?_)
  subst hG; subst hL
  rw [fX8_goesOn] at h
  show fr_V YX8_goesOn K 0 [some (.ref 52)] [] (u0, n0)
  refine fr_aload_n (q := 1) F dX8_goesOn_0 rfl rfl ?_
  refine fr_gfI (q := 4) (x := (n0 0 12)) F dX8_goesOn_1 rfl faRX8_178 (by decide) rfl rfl rfl ?_
  refine fr_if_ne (q := 7) (tgt := 11) F dX8_goesOn_4 (by decide) rfl (fun hc1 => ?_) (fun hc1 => ?_)
  · rw [if_neg hc1] at h
    obtain rfl := Option.some.inj h
    exact fr_vret F E rfl dX8_goesOn_11
  · rw [if_pos hc1] at h
    refine fr_aload_n (q := 8) F dX8_goesOn_7 rfl rfl ?_
    obtain ⟨n4, hr3, h⟩ := fr_bd_some h
    refine fr_callV (q := 11) (M' := (u0, n4)) (rest := []) (st' := []) F dX8_goesOn_8 rfl (tX8_reads hr3) mlRX8_184 msX8_reads ⟨Nat.le_of_ble_eq_true rfl, Nat.le_of_ble_eq_true rfl⟩ (by decide) rfl rfl rfl (Nat.le_of_ble_eq_true rfl) rfl ?_
    obtain rfl := Option.some.inj h
    exact fr_vret F E rfl dX8_goesOn_11
/-! FeastRotaModel.bad (52, None) -/
def fX8_bad (a1 : Int32) (n0 : fr_N) : Option fr_N := if (n0 0 12) = 0 then fr_lt (fr_up n0 0 12 a1) fun n2 => (fr_lt (fr_up n2 0 13 (n2 0 9)) fun n4 => (some n4)) else some n0
theorem tX8_bad {l : Launch} {G : fr_G} {u0 : fr_N} {a1 : Int32} {n0 : fr_N} {nz : fr_N} (h : fX8_bad a1 n0 = some nz) : fr_Met l G YX8_bad [.ref 52, .int a1] (u0, n0) none (u0, nz) := by
  refine fr_met (pad := List.replicate 0 none) (by decide) (Nat.le_of_ble_eq_true rfl) (fun _ h => List.eq_of_mem_replicate h) ⟨rfl, rfl⟩ (fun K F hG hL E => ?_)
  subst hG; subst hL
  rw [fX8_bad] at h
  show fr_V YX8_bad K 0 [some (.ref 52), some (.int a1)] [] (u0, n0)
  refine fr_aload_n (q := 1) F dX8_bad_0 rfl rfl ?_
  refine fr_gfI (q := 4) (x := (n0 0 12)) F dX8_bad_1 rfl faRX8_178 (by decide) rfl rfl rfl ?_
  refine fr_if_ne (q := 7) (tgt := 20) F dX8_bad_4 (by decide) rfl (fun hc1 => ?_) (fun hc1 => ?_)
  · rw [if_neg hc1] at h
    obtain rfl := Option.some.inj h
    exact fr_vret F E rfl dX8_bad_20
  · rw [if_pos hc1] at h
    refine fr_aload_n (q := 8) F dX8_bad_7 rfl rfl ?_
    refine fr_iload_n (q := 9) F dX8_bad_8 rfl rfl ?_
    obtain ⟨n2, hn3, h⟩ := fr_lt_some h
    refine fr_pfI (q := 12) (M' := (u0, n2)) F dX8_bad_9 rfl fpRX8_178 (by decide) rfl rfl (congrArg (fun z => (u0, z)) hn3) ?_
    refine fr_aload_n (q := 13) F dX8_bad_12 rfl rfl ?_
    refine fr_aload_n (q := 14) F dX8_bad_13 rfl rfl ?_
    refine fr_gfI (q := 17) (x := (n2 0 9)) F dX8_bad_14 rfl faRX8_158 (by decide) rfl rfl rfl ?_
    obtain ⟨n4, hn5, h⟩ := fr_lt_some h
    refine fr_pfI (q := 20) (M' := (u0, n4)) F dX8_bad_17 rfl fpRX8_181 (by decide) rfl rfl (congrArg (fun z => (u0, z)) hn5) ?_
    obtain rfl := Option.some.inj h
    exact fr_vret F E rfl dX8_bad_20
/-! FeastRotaModel.letter (52, None) -/
def fX8_letter_13 (n0 : fr_N) : Option fr_N := fr_bd (fX8_goesOn n0) fun n3 => (some n3)
def fX8_letter (a1 : Int32) (n0 : fr_N) : Option fr_N := fr_bd (fX8_isLetter a1 n0) fun r4 => (if r4 = true then fX8_letter_13 n0 else fr_bd (fX8_bad (1 : Int32) n0) fun n9 => (fX8_letter_13 n9))
theorem tX8_letter_13 {K : fr_K} {u0 : fr_N} {nz : fr_N} (F : fr_F YX8_letter K) (E : fr_R YX8_letter K none (u0, nz)) {n0 : fr_N} (h : fX8_letter_13 n0 = some nz) : fr_V YX8_letter K 13 [some (.ref 52), none] [] (u0, n0) := by
  rw [fX8_letter_13] at h
  refine fr_aload_n (q := 14) F dX8_letter_13 rfl rfl ?_
  obtain ⟨n3, hr2, h⟩ := fr_bd_some h
  refine fr_callV (q := 17) (M' := (u0, n3)) (rest := []) (st' := []) F dX8_letter_14 rfl (tX8_goesOn hr2) mlRX8_190 msX8_goesOn ⟨Nat.le_of_ble_eq_true rfl, Nat.le_of_ble_eq_true rfl⟩ (by decide) rfl rfl rfl (Nat.le_of_ble_eq_true rfl) rfl ?_
  obtain rfl := Option.some.inj h
  exact fr_vret F E rfl dX8_letter_17
theorem tX8_letter {l : Launch} {G : fr_G} {u0 : fr_N} {a1 : Int32} {n0 : fr_N} {nz : fr_N} (h : fX8_letter a1 n0 = some nz) : fr_Met l G YX8_letter [.ref 52, .int a1] (u0, n0) none (u0, nz) := by
  refine fr_met (pad := List.replicate 0 none) (by decide) (Nat.le_of_ble_eq_true rfl) (fun _ h => List.eq_of_mem_replicate h) ⟨rfl, rfl⟩ (fun K F hG hL E => ?_)
  subst hG; subst hL
  rw [fX8_letter] at h
  show fr_V YX8_letter K 0 [some (.ref 52), some (.int a1)] [] (u0, n0)
  refine fr_aload_n (q := 1) F dX8_letter_0 rfl rfl ?_
  refine fr_iload_n (q := 2) F dX8_letter_1 rfl rfl ?_
  obtain ⟨r4, hr5, h⟩ := fr_bd_some h
  refine fr_callV (q := 5) (M' := (u0, n0)) (rest := []) (st' := [.int (fr_b r4)]) F dX8_letter_2 rfl (tX8_isLetter hr5) mlRX8_193 msX8_isLetter ⟨Nat.le_of_ble_eq_true rfl, Nat.le_of_ble_eq_true rfl⟩ (by decide) rfl rfl rfl (Nat.le_of_ble_eq_true rfl) rfl ?_
  refine fr_if_neb (q := 8) (tgt := 13) F dX8_letter_5 (by decide) rfl (fun hc6 => ?_) (fun hc6 => ?_)
  · rw [if_pos hc6] at h
    exact fr_wj (tX8_letter_13 F E h) ⟨rfl, trivial⟩
  · rw [if_neg hc6] at h
    refine fr_aload_n (q := 9) F dX8_letter_8 rfl rfl ?_
    refine fr_iconst (q := 10) (v := 1) F dX8_letter_9 rfl (by decide) ?_
    obtain ⟨n9, hr8, h⟩ := fr_bd_some h
    refine fr_callV (q := 13) (M' := (u0, n9)) (rest := []) (st' := []) F dX8_letter_10 rfl (tX8_bad hr8) mlRX8_187 msX8_bad ⟨Nat.le_of_ble_eq_true rfl, Nat.le_of_ble_eq_true rfl⟩ (by decide) rfl rfl rfl (Nat.le_of_ble_eq_true rfl) rfl ?_
    exact fr_wj (tX8_letter_13 F E h) ⟨rfl, trivial⟩
/-! FeastRotaModel.number (52, None, None, None) -/
def fX8_number_85 (x4 : Int32) (n0 : fr_N) : Option (Int32 × fr_N) := fr_bd (fX8_goesOn n0) fun n3 => (some (x4, n3))
def fX8_number_80 (x4 : Int32) (n0 : fr_N) : Option (Int32 × fr_N) := fr_bd (fX8_bad (1 : Int32) n0) fun n6 => (fX8_number_85 x4 n6)
def fX8_number_51 (x3 : Int32) (s0 : Int32) (n0 : fr_N) : Option (Int32 × fr_N) := fr_bd (fX8_goesOn n0) fun n9 => (if (n9 0 12) = 0 then if (n9 0 10) = (3 : Int32) then if (n9 0 11) = x3 then fX8_number_85 s0 n9 else fX8_number_80 s0 n9 else fX8_number_80 s0 n9 else fX8_number_85 s0 n9)
def fX8_number_36 (x1 : Int32) (x3 : Int32) (n0 : fr_N) : Option (Int32 × fr_N) := if (n0 0 12) = 0 then fX8_number_51 x3 (n0 0 11) n0 else fX8_number_51 x3 x1 n0
def fX8_number (a1 : Int32) (a2 : Int32) (a3 : Int32) (n0 : fr_N) : Option (Int32 × fr_N) := if (n0 0 10) = (2 : Int32) then fr_bd (fX8_in (Int32.toInt64 (n0 0 11)) (Int32.toInt64 a1) (Int32.toInt64 a2)) fun r15 => (if r15 = true then fX8_number_36 a1 a3 n0 else fr_bd (fX8_bad (2 : Int32) n0) fun n20 => (fX8_number_36 a1 a3 n20)) else fr_bd (fX8_bad (1 : Int32) n0) fun n23 => (fX8_number_36 a1 a3 n23)
theorem tX8_number_85 {K : fr_K} {u0 : fr_N} {rz : Int32} {nz : fr_N} (F : fr_F YX8_number K) (E : fr_R YX8_number K (some (.int rz)) (u0, nz)) {x4 : Int32} {n0 : fr_N} (h : fX8_number_85 x4 n0 = some (rz, nz)) : fr_V YX8_number K 85 [some (.ref 52), none, none, none, some (.int x4)] [] (u0, n0) := by
  rw [fX8_number_85] at h
  refine fr_aload_n (q := 86) F dX8_number_85 rfl rfl ?_
  obtain ⟨n3, hr2, h⟩ := fr_bd_some h
  refine fr_callV (q := 89) (M' := (u0, n3)) (rest := []) (st' := []) F dX8_number_86 rfl (tX8_goesOn hr2) mlRX8_190 msX8_goesOn ⟨Nat.le_of_ble_eq_true rfl, Nat.le_of_ble_eq_true rfl⟩ (by decide) rfl rfl rfl (Nat.le_of_ble_eq_true rfl) rfl ?_
  refine fr_iload (q := 91) F dX8_number_89 rfl rfl ?_
  obtain ⟨rfl, rfl⟩ := Prod.mk.inj (Option.some.inj h)
  exact fr_iret F E rfl dX8_number_91
theorem tX8_number_80 {K : fr_K} {u0 : fr_N} {rz : Int32} {nz : fr_N} (F : fr_F YX8_number K) (E : fr_R YX8_number K (some (.int rz)) (u0, nz)) {x4 : Int32} {n0 : fr_N} (h : fX8_number_80 x4 n0 = some (rz, nz)) : fr_V YX8_number K 80 [some (.ref 52), none, none, none, some (.int x4)] [] (u0, n0) := by
  rw [fX8_number_80] at h
  refine fr_aload_n (q := 81) F dX8_number_80 rfl rfl ?_
  refine fr_iconst (q := 82) (v := 1) F dX8_number_81 rfl (by decide) ?_
  obtain ⟨n6, hr5, h⟩ := fr_bd_some h
  refine fr_callV (q := 85) (M' := (u0, n6)) (rest := []) (st' := []) F dX8_number_82 rfl (tX8_bad hr5) mlRX8_187 msX8_bad ⟨Nat.le_of_ble_eq_true rfl, Nat.le_of_ble_eq_true rfl⟩ (by decide) rfl rfl rfl (Nat.le_of_ble_eq_true rfl) rfl ?_
  exact fr_wj (tX8_number_85 F E h) ⟨rfl, ⟨rfl, trivial⟩⟩
theorem tX8_number_51 {K : fr_K} {u0 : fr_N} {rz : Int32} {nz : fr_N} (F : fr_F YX8_number K) (E : fr_R YX8_number K (some (.int rz)) (u0, nz)) {x3 : Int32} {s0 : Int32} {n0 : fr_N} (h : fX8_number_51 x3 s0 n0 = some (rz, nz)) : fr_V YX8_number K 51 [some (.ref 52), none, none, some (.int x3), none] [.int s0] (u0, n0) := by
  rw [fX8_number_51] at h
  refine fr_istore (q := 53) F dX8_number_51 rfl (by decide) rfl ?_
  refine fr_aload_n (q := 54) F dX8_number_53 rfl rfl ?_
  obtain ⟨n9, hr8, h⟩ := fr_bd_some h
  refine fr_callV (q := 57) (M' := (u0, n9)) (rest := []) (st' := []) F dX8_number_54 rfl (tX8_goesOn hr8) mlRX8_190 msX8_goesOn ⟨Nat.le_of_ble_eq_true rfl, Nat.le_of_ble_eq_true rfl⟩ (by decide) rfl rfl rfl (Nat.le_of_ble_eq_true rfl) rfl ?_
  refine fr_aload_n (q := 58) F dX8_number_57 rfl rfl ?_
  refine fr_gfI (q := 61) (x := (n9 0 12)) F dX8_number_58 rfl faRX8_178 (by decide) rfl rfl rfl ?_
  refine fr_if_ne (q := 64) (tgt := 85) F dX8_number_61 (by decide) rfl (fun hc10 => ?_) (fun hc10 => ?_)
  · rw [if_neg hc10] at h
    exact fr_wj (tX8_number_85 F E h) ⟨rfl, ⟨rfl, trivial⟩⟩
  · rw [if_pos hc10] at h
    refine fr_aload_n (q := 65) F dX8_number_64 rfl rfl ?_
    refine fr_gfI (q := 68) (x := (n9 0 10)) F dX8_number_65 rfl faRX8_175 (by decide) rfl rfl rfl ?_
    refine fr_iconst (q := 69) (v := 3) F dX8_number_68 rfl (by decide) ?_
    refine fr_icmp_ne (q := 72) (tgt := 80) F dX8_number_69 (by decide) rfl (fun hc11 => ?_) (fun hc11 => ?_)
    · rw [if_neg hc11] at h
      exact fr_wj (tX8_number_80 F E h) ⟨rfl, ⟨rfl, trivial⟩⟩
    · rw [if_pos hc11] at h
      refine fr_aload_n (q := 73) F dX8_number_72 rfl rfl ?_
      refine fr_gfI (q := 76) (x := (n9 0 11)) F dX8_number_73 rfl faRX8_164 (by decide) rfl rfl rfl ?_
      refine fr_iload_n (q := 77) F dX8_number_76 rfl rfl ?_
      refine fr_icmp_eq (q := 80) (tgt := 85) F dX8_number_77 (by decide) rfl (fun hc12 => ?_) (fun hc12 => ?_)
      · rw [if_pos hc12] at h
        exact fr_wj (tX8_number_85 F E h) ⟨rfl, ⟨rfl, trivial⟩⟩
      · rw [if_neg hc12] at h
        exact fr_wj (tX8_number_80 F E h) ⟨rfl, ⟨rfl, trivial⟩⟩
theorem tX8_number_36 {K : fr_K} {u0 : fr_N} {rz : Int32} {nz : fr_N} (F : fr_F YX8_number K) (E : fr_R YX8_number K (some (.int rz)) (u0, nz)) {x1 : Int32} {x3 : Int32} {n0 : fr_N} (h : fX8_number_36 x1 x3 n0 = some (rz, nz)) : fr_V YX8_number K 36 [some (.ref 52), some (.int x1), none, some (.int x3), none] [] (u0, n0) := by
  rw [fX8_number_36] at h
  refine fr_aload_n (q := 37) F dX8_number_36 rfl rfl ?_
  refine fr_gfI (q := 40) (x := (n0 0 12)) F dX8_number_37 rfl faRX8_178 (by decide) rfl rfl rfl ?_
  refine fr_if_ne (q := 43) (tgt := 50) F dX8_number_40 (by decide) rfl (fun hc13 => ?_) (fun hc13 => ?_)
  · rw [if_neg hc13] at h
    refine fr_iload_n (q := 51) F dX8_number_50 rfl rfl ?_
    exact fr_wj (tX8_number_51 F E h) ⟨rfl, ⟨rfl, trivial⟩⟩
  · rw [if_pos hc13] at h
    refine fr_aload_n (q := 44) F dX8_number_43 rfl rfl ?_
    refine fr_gfI (q := 47) (x := (n0 0 11)) F dX8_number_44 rfl faRX8_164 (by decide) rfl rfl rfl ?_
    refine fr_goto (tgt := 51) F dX8_number_47 (by decide) ?_
    exact fr_wj (tX8_number_51 F E h) ⟨rfl, ⟨rfl, trivial⟩⟩
theorem tX8_number {l : Launch} {G : fr_G} {u0 : fr_N} {a1 : Int32} {a2 : Int32} {a3 : Int32} {n0 : fr_N} {rz : Int32} {nz : fr_N} (h : fX8_number a1 a2 a3 n0 = some (rz, nz)) : fr_Met l G YX8_number [.ref 52, .int a1, .int a2, .int a3] (u0, n0) (some (.int rz)) (u0, nz) := by
  refine fr_met (pad := List.replicate 1 none) (by decide) (Nat.le_of_ble_eq_true rfl) (fun _ h => List.eq_of_mem_replicate h) ⟨rfl, rfl⟩ (fun K F hG hL E => ?_)
  subst hG; subst hL
  rw [fX8_number] at h
  show fr_V YX8_number K 0 [some (.ref 52), some (.int a1), some (.int a2), some (.int a3), none] [] (u0, n0)
  refine fr_aload_n (q := 1) F dX8_number_0 rfl rfl ?_
  refine fr_gfI (q := 4) (x := (n0 0 10)) F dX8_number_1 rfl faRX8_175 (by decide) rfl rfl rfl ?_
  refine fr_iconst (q := 5) (v := 2) F dX8_number_4 rfl (by decide) ?_
  refine fr_icmp_eq (q := 8) (tgt := 16) F dX8_number_5 (by decide) rfl (fun hc14 => ?_) (fun hc14 => ?_)
  · rw [if_pos hc14] at h
    refine fr_aload_n (q := 17) F dX8_number_16 rfl rfl ?_
    refine fr_gfI (q := 20) (x := (n0 0 11)) F dX8_number_17 rfl faRX8_164 (by decide) rfl rfl rfl ?_
    refine fr_i2l (q := 21) F dX8_number_20 rfl ?_
    refine fr_iload_n (q := 22) F dX8_number_21 rfl rfl ?_
    refine fr_i2l (q := 23) F dX8_number_22 rfl ?_
    refine fr_iload_n (q := 24) F dX8_number_23 rfl rfl ?_
    refine fr_i2l (q := 25) F dX8_number_24 rfl ?_
    obtain ⟨r15, hr16, h⟩ := fr_bd_some h
    refine fr_callS (q := 28) (M' := (u0, n0)) (rest := []) (st' := [.int (fr_b r15)]) F dX8_number_25 rfl (tX8_in hr16) mlRX8_55 msX8_in ⟨Nat.le_of_ble_eq_true rfl, Nat.le_of_ble_eq_true rfl⟩ rfl rfl (Nat.le_of_ble_eq_true rfl) rfl ?_
    refine fr_if_neb (q := 31) (tgt := 36) F dX8_number_28 (by decide) rfl (fun hc17 => ?_) (fun hc17 => ?_)
    · rw [if_pos hc17] at h
      exact fr_wj (tX8_number_36 F E h) ⟨rfl, ⟨rfl, ⟨rfl, trivial⟩⟩⟩
    · rw [if_neg hc17] at h
      refine fr_aload_n (q := 32) F dX8_number_31 rfl rfl ?_
      refine fr_iconst (q := 33) (v := 2) F dX8_number_32 rfl (by decide) ?_
      obtain ⟨n20, hr19, h⟩ := fr_bd_some h
      refine fr_callV (q := 36) (M' := (u0, n20)) (rest := []) (st' := []) F dX8_number_33 rfl (tX8_bad hr19) mlRX8_187 msX8_bad ⟨Nat.le_of_ble_eq_true rfl, Nat.le_of_ble_eq_true rfl⟩ (by decide) rfl rfl rfl (Nat.le_of_ble_eq_true rfl) rfl ?_
      exact fr_wj (tX8_number_36 F E h) ⟨rfl, ⟨rfl, ⟨rfl, trivial⟩⟩⟩
  · rw [if_neg hc14] at h
    refine fr_aload_n (q := 9) F dX8_number_8 rfl rfl ?_
    refine fr_iconst (q := 10) (v := 1) F dX8_number_9 rfl (by decide) ?_
    obtain ⟨n23, hr22, h⟩ := fr_bd_some h
    refine fr_callV (q := 13) (M' := (u0, n23)) (rest := []) (st' := []) F dX8_number_10 rfl (tX8_bad hr22) mlRX8_187 msX8_bad ⟨Nat.le_of_ble_eq_true rfl, Nat.le_of_ble_eq_true rfl⟩ (by decide) rfl rfl rfl (Nat.le_of_ble_eq_true rfl) rfl ?_
    refine fr_goto (tgt := 36) F dX8_number_13 (by decide) ?_
    exact fr_wj (tX8_number_36 F E h) ⟨rfl, ⟨rfl, ⟨rfl, trivial⟩⟩⟩
/-! FeastRotaModel.sort (52,) -/
def fX8_sort (n0 : fr_N) : Option Int32 := fr_bd (fX8_isLetter (98 : Int32) n0) fun r1 => (if r1 = true then some (0 : Int32) else fr_bd (fX8_isLetter (102 : Int32) n0) fun r4 => (if r4 = true then some (1 : Int32) else fr_bd (fX8_isLetter (110 : Int32) n0) fun r7 => (if r7 = true then some (2 : Int32) else fr_bd (fX8_isLetter (100 : Int32) n0) fun r10 => (if r10 = true then some (3 : Int32) else some (-1000000 : Int32)))))
theorem tX8_sort {l : Launch} {G : fr_G} {u0 : fr_N} {n0 : fr_N} {rz : Int32} (h : fX8_sort n0 = some rz) : fr_Met l G YX8_sort [.ref 52] (u0, n0) (some (.int rz)) (u0, n0) := by
  refine fr_met (pad := List.replicate 0 none) (by decide) (Nat.le_of_ble_eq_true rfl) (fun _ h => List.eq_of_mem_replicate h) ⟨rfl, rfl⟩ (fun K F hG hL E => ?_)
  subst hG; subst hL
  rw [fX8_sort] at h
  show fr_V YX8_sort K 0 [some (.ref 52)] [] (u0, n0)
  refine fr_aload_n (q := 1) F dX8_sort_0 rfl rfl ?_
  refine fr_bipush (q := 3) (v := 98) F dX8_sort_1 rfl (by decide) ?_
  obtain ⟨r1, hr2, h⟩ := fr_bd_some h
  refine fr_callV (q := 6) (M' := (u0, n0)) (rest := []) (st' := [.int (fr_b r1)]) F dX8_sort_3 rfl (tX8_isLetter hr2) mlRX8_193 msX8_isLetter ⟨Nat.le_of_ble_eq_true rfl, Nat.le_of_ble_eq_true rfl⟩ (by decide) rfl rfl rfl (Nat.le_of_ble_eq_true rfl) rfl ?_
  refine fr_if_eqb (q := 9) (tgt := 13) F dX8_sort_6 (by decide) rfl (fun hc3 => ?_) (fun hc3 => ?_)
  · rw [if_neg hc3] at h
    refine fr_aload_n (q := 14) F dX8_sort_13 rfl rfl ?_
    refine fr_bipush (q := 16) (v := 102) F dX8_sort_14 rfl (by decide) ?_
    obtain ⟨r4, hr5, h⟩ := fr_bd_some h
    refine fr_callV (q := 19) (M' := (u0, n0)) (rest := []) (st' := [.int (fr_b r4)]) F dX8_sort_16 rfl (tX8_isLetter hr5) mlRX8_193 msX8_isLetter ⟨Nat.le_of_ble_eq_true rfl, Nat.le_of_ble_eq_true rfl⟩ (by decide) rfl rfl rfl (Nat.le_of_ble_eq_true rfl) rfl ?_
    refine fr_if_eqb (q := 22) (tgt := 26) F dX8_sort_19 (by decide) rfl (fun hc6 => ?_) (fun hc6 => ?_)
    · rw [if_neg hc6] at h
      refine fr_aload_n (q := 27) F dX8_sort_26 rfl rfl ?_
      refine fr_bipush (q := 29) (v := 110) F dX8_sort_27 rfl (by decide) ?_
      obtain ⟨r7, hr8, h⟩ := fr_bd_some h
      refine fr_callV (q := 32) (M' := (u0, n0)) (rest := []) (st' := [.int (fr_b r7)]) F dX8_sort_29 rfl (tX8_isLetter hr8) mlRX8_193 msX8_isLetter ⟨Nat.le_of_ble_eq_true rfl, Nat.le_of_ble_eq_true rfl⟩ (by decide) rfl rfl rfl (Nat.le_of_ble_eq_true rfl) rfl ?_
      refine fr_if_eqb (q := 35) (tgt := 39) F dX8_sort_32 (by decide) rfl (fun hc9 => ?_) (fun hc9 => ?_)
      · rw [if_neg hc9] at h
        refine fr_aload_n (q := 40) F dX8_sort_39 rfl rfl ?_
        refine fr_bipush (q := 42) (v := 100) F dX8_sort_40 rfl (by decide) ?_
        obtain ⟨r10, hr11, h⟩ := fr_bd_some h
        refine fr_callV (q := 45) (M' := (u0, n0)) (rest := []) (st' := [.int (fr_b r10)]) F dX8_sort_42 rfl (tX8_isLetter hr11) mlRX8_193 msX8_isLetter ⟨Nat.le_of_ble_eq_true rfl, Nat.le_of_ble_eq_true rfl⟩ (by decide) rfl rfl rfl (Nat.le_of_ble_eq_true rfl) rfl ?_
        refine fr_if_eqb (q := 48) (tgt := 52) F dX8_sort_45 (by decide) rfl (fun hc12 => ?_) (fun hc12 => ?_)
        · rw [if_neg hc12] at h
          refine fr_ldc (q := 54) F dX8_sort_52 rfl kcRX8_90 ?_
          obtain rfl := Option.some.inj h
          exact fr_iret F E rfl dX8_sort_54
        · rw [if_pos hc12] at h
          refine fr_iconst (q := 49) (v := 3) F dX8_sort_48 rfl (by decide) ?_
          refine fr_goto (tgt := 54) F dX8_sort_49 (by decide) ?_
          obtain rfl := Option.some.inj h
          exact fr_iret F E rfl dX8_sort_54
      · rw [if_pos hc9] at h
        refine fr_iconst (q := 36) (v := 2) F dX8_sort_35 rfl (by decide) ?_
        refine fr_goto (tgt := 54) F dX8_sort_36 (by decide) ?_
        obtain rfl := Option.some.inj h
        exact fr_iret F E rfl dX8_sort_54
    · rw [if_pos hc6] at h
      refine fr_iconst (q := 23) (v := 1) F dX8_sort_22 rfl (by decide) ?_
      refine fr_goto (tgt := 54) F dX8_sort_23 (by decide) ?_
      obtain rfl := Option.some.inj h
      exact fr_iret F E rfl dX8_sort_54
  · rw [if_pos hc3] at h
    refine fr_iconst (q := 10) (v := 0) F dX8_sort_9 rfl (by decide) ?_
    refine fr_goto (tgt := 54) F dX8_sort_10 (by decide) ?_
    obtain rfl := Option.some.inj h
    exact fr_iret F E rfl dX8_sort_54
/-! FeastRotaModel.readsSeason (52,) -/
def fX8_readsSeason_65 (x1 : Int32) (n0 : fr_N) : Option fr_N := fr_bd2 (fX8_number (0 : Int32) ((n0 2 6) - (1 : Int32)) (44 : Int32) n0) fun r1 n3 => (fr_bd2 (fX8_number (1 : Int32) (6 : Int32) (59 : Int32) n3) fun r4 n6 => (if (n6 0 12) = 0 then fr_ck ((57 : Int32) + ((3 : Int32) * (n6 2 7))) 79 (fr_lt (fr_up n6 2 (Int32.toNatClampNeg ((57 : Int32) + ((3 : Int32) * (n6 2 7)))) x1) fun n9 => (fr_ck (((57 : Int32) + ((3 : Int32) * (n6 2 7))) + (1 : Int32)) 79 (fr_lt (fr_up n9 2 (Int32.toNatClampNeg (((57 : Int32) + ((3 : Int32) * (n6 2 7))) + (1 : Int32))) r1) fun n12 => (fr_ck (((57 : Int32) + ((3 : Int32) * (n6 2 7))) + (2 : Int32)) 79 (fr_lt (fr_up n12 2 (Int32.toNatClampNeg (((57 : Int32) + ((3 : Int32) * (n6 2 7))) + (2 : Int32))) r4) fun n15 => (fr_lt (fr_up n15 2 7 ((n15 2 7) + (1 : Int32))) fun n17 => (some n17))))))) else some n6))
def fX8_readsSeason_16 (n0 : fr_N) : Option fr_N := fr_bd (fX8_goesOn n0) fun n21 => (fr_bd2 (fX8_number (0 : Int32) ((n21 2 6) - (1 : Int32)) (44 : Int32) n21) fun r22 n24 => (if (n24 0 12) = 0 then if (n24 0 10) = (2 : Int32) then if (n24 0 11) = r22 then fr_bd (fX8_bad (2 : Int32) n24) fun n30 => (fX8_readsSeason_65 r22 n30) else fX8_readsSeason_65 r22 n24 else fX8_readsSeason_65 r22 n24 else fX8_readsSeason_65 r22 n24))
def fX8_readsSeason (n0 : fr_N) : Option fr_N := if (n0 2 7) = (4 : Int32) then fr_bd (fX8_bad (3 : Int32) n0) fun n34 => (fX8_readsSeason_16 n34) else fX8_readsSeason_16 n0
theorem tX8_readsSeason_65 {K : fr_K} {u0 : fr_N} {nz : fr_N} (F : fr_F YX8_readsSeason K) (E : fr_R YX8_readsSeason K none (u0, nz)) {x1 : Int32} {n0 : fr_N} (h : fX8_readsSeason_65 x1 n0 = some nz) : fr_V YX8_readsSeason K 65 [some (.ref 52), some (.int x1), none, none, none] [] (u0, n0) := by
  rw [fX8_readsSeason_65] at h
  refine fr_aload_n (q := 66) F dX8_readsSeason_65 rfl rfl ?_
  refine fr_iconst (q := 67) (v := 0) F dX8_readsSeason_66 rfl (by decide) ?_
  refine fr_aload_n (q := 68) F dX8_readsSeason_67 rfl rfl ?_
  refine fr_gfR (q := 71) (j := 54) F dX8_readsSeason_68 rfl faRX8_13 (by decide) rfl rfl ?_
  refine fr_bipush (q := 73) (v := 6) F dX8_readsSeason_71 rfl (by decide) ?_
  refine fr_ial (q := 74) (x := (n0 2 6)) F dX8_readsSeason_73 rfl (fr_vin rfl) (by decide) rfl rfl ?_
  refine fr_iconst (q := 75) (v := 1) F dX8_readsSeason_74 rfl (by decide) ?_
  refine fr_isub (q := 76) F dX8_readsSeason_75 rfl ?_
  refine fr_bipush (q := 78) (v := 44) F dX8_readsSeason_76 rfl (by decide) ?_
  obtain ⟨r1, n3, hr2, h⟩ := fr_bd2_some h
  refine fr_callV (q := 81) (M' := (u0, n3)) (rest := []) (st' := [.int r1]) F dX8_readsSeason_78 rfl (tX8_number hr2) mlRX8_199 msX8_number ⟨Nat.le_of_ble_eq_true rfl, Nat.le_of_ble_eq_true rfl⟩ (by decide) rfl rfl rfl (Nat.le_of_ble_eq_true rfl) rfl ?_
  refine fr_istore_n (q := 82) F dX8_readsSeason_81 rfl (by decide) rfl ?_
  refine fr_aload_n (q := 83) F dX8_readsSeason_82 rfl rfl ?_
  refine fr_iconst (q := 84) (v := 1) F dX8_readsSeason_83 rfl (by decide) ?_
  refine fr_bipush (q := 86) (v := 6) F dX8_readsSeason_84 rfl (by decide) ?_
  refine fr_bipush (q := 88) (v := 59) F dX8_readsSeason_86 rfl (by decide) ?_
  obtain ⟨r4, n6, hr5, h⟩ := fr_bd2_some h
  refine fr_callV (q := 91) (M' := (u0, n6)) (rest := []) (st' := [.int r4]) F dX8_readsSeason_88 rfl (tX8_number hr5) mlRX8_199 msX8_number ⟨Nat.le_of_ble_eq_true rfl, Nat.le_of_ble_eq_true rfl⟩ (by decide) rfl rfl rfl (Nat.le_of_ble_eq_true rfl) rfl ?_
  refine fr_istore_n (q := 92) F dX8_readsSeason_91 rfl (by decide) rfl ?_
  refine fr_aload_n (q := 93) F dX8_readsSeason_92 rfl rfl ?_
  refine fr_gfI (q := 96) (x := (n6 0 12)) F dX8_readsSeason_93 rfl faRX8_178 (by decide) rfl rfl rfl ?_
  refine fr_if_ne (q := 99) (tgt := 152) F dX8_readsSeason_96 (by decide) rfl (fun hc7 => ?_) (fun hc7 => ?_)
  · rw [if_neg hc7] at h
    obtain rfl := Option.some.inj h
    exact fr_vret F E rfl dX8_readsSeason_152
  · rw [if_pos hc7] at h
    refine fr_bipush (q := 101) (v := 57) F dX8_readsSeason_99 rfl (by decide) ?_
    refine fr_iconst (q := 102) (v := 3) F dX8_readsSeason_101 rfl (by decide) ?_
    refine fr_aload_n (q := 103) F dX8_readsSeason_102 rfl rfl ?_
    refine fr_gfR (q := 106) (j := 54) F dX8_readsSeason_103 rfl faRX8_13 (by decide) rfl rfl ?_
    refine fr_bipush (q := 108) (v := 7) F dX8_readsSeason_106 rfl (by decide) ?_
    refine fr_ial (q := 109) (x := (n6 2 7)) F dX8_readsSeason_108 rfl (fr_vin rfl) (by decide) rfl rfl ?_
    refine fr_imul (q := 110) F dX8_readsSeason_109 rfl ?_
    refine fr_iadd (q := 111) F dX8_readsSeason_110 rfl ?_
    refine fr_istore (q := 113) F dX8_readsSeason_111 rfl (by decide) rfl ?_
    refine fr_aload_n (q := 114) F dX8_readsSeason_113 rfl rfl ?_
    refine fr_gfR (q := 117) (j := 54) F dX8_readsSeason_114 rfl faRX8_13 (by decide) rfl rfl ?_
    refine fr_iload (q := 119) F dX8_readsSeason_117 rfl rfl ?_
    refine fr_iload_n (q := 120) F dX8_readsSeason_119 rfl rfl ?_
    obtain ⟨hi8, h⟩ := fr_ck_some h
    obtain ⟨n9, hn10, h⟩ := fr_lt_some h
    refine fr_ias (q := 121) (M' := (u0, n9)) F dX8_readsSeason_120 rfl hi8 (by decide) rfl (congrArg (fun z => (u0, z)) hn10) ?_
    refine fr_aload_n (q := 122) F dX8_readsSeason_121 rfl rfl ?_
    refine fr_gfR (q := 125) (j := 54) F dX8_readsSeason_122 rfl faRX8_13 (by decide) rfl rfl ?_
    refine fr_iload (q := 127) F dX8_readsSeason_125 rfl rfl ?_
    refine fr_iconst (q := 128) (v := 1) F dX8_readsSeason_127 rfl (by decide) ?_
    refine fr_iadd (q := 129) F dX8_readsSeason_128 rfl ?_
    refine fr_iload_n (q := 130) F dX8_readsSeason_129 rfl rfl ?_
    obtain ⟨hi11, h⟩ := fr_ck_some h
    obtain ⟨n12, hn13, h⟩ := fr_lt_some h
    refine fr_ias (q := 131) (M' := (u0, n12)) F dX8_readsSeason_130 rfl hi11 (by decide) rfl (congrArg (fun z => (u0, z)) hn13) ?_
    refine fr_aload_n (q := 132) F dX8_readsSeason_131 rfl rfl ?_
    refine fr_gfR (q := 135) (j := 54) F dX8_readsSeason_132 rfl faRX8_13 (by decide) rfl rfl ?_
    refine fr_iload (q := 137) F dX8_readsSeason_135 rfl rfl ?_
    refine fr_iconst (q := 138) (v := 2) F dX8_readsSeason_137 rfl (by decide) ?_
    refine fr_iadd (q := 139) F dX8_readsSeason_138 rfl ?_
    refine fr_iload_n (q := 140) F dX8_readsSeason_139 rfl rfl ?_
    obtain ⟨hi14, h⟩ := fr_ck_some h
    obtain ⟨n15, hn16, h⟩ := fr_lt_some h
    refine fr_ias (q := 141) (M' := (u0, n15)) F dX8_readsSeason_140 rfl hi14 (by decide) rfl (congrArg (fun z => (u0, z)) hn16) ?_
    refine fr_aload_n (q := 142) F dX8_readsSeason_141 rfl rfl ?_
    refine fr_gfR (q := 145) (j := 54) F dX8_readsSeason_142 rfl faRX8_13 (by decide) rfl rfl ?_
    refine fr_bipush (q := 147) (v := 7) F dX8_readsSeason_145 rfl (by decide) ?_
    refine fr_dup2 (q := 148) F dX8_readsSeason_147 rfl rfl rfl ?_
    refine fr_ial (q := 149) (x := (n15 2 7)) F dX8_readsSeason_148 rfl (fr_vin rfl) (by decide) rfl rfl ?_
    refine fr_iconst (q := 150) (v := 1) F dX8_readsSeason_149 rfl (by decide) ?_
    refine fr_iadd (q := 151) F dX8_readsSeason_150 rfl ?_
    obtain ⟨n17, hn18, h⟩ := fr_lt_some h
    refine fr_ias (q := 152) (M' := (u0, n17)) F dX8_readsSeason_151 rfl (fr_vin rfl) (by decide) rfl (congrArg (fun z => (u0, z)) hn18) ?_
    obtain rfl := Option.some.inj h
    exact fr_vret F E rfl dX8_readsSeason_152
theorem tX8_readsSeason_16 {K : fr_K} {u0 : fr_N} {nz : fr_N} (F : fr_F YX8_readsSeason K) (E : fr_R YX8_readsSeason K none (u0, nz)) {n0 : fr_N} (h : fX8_readsSeason_16 n0 = some nz) : fr_V YX8_readsSeason K 16 [some (.ref 52), none, none, none, none] [] (u0, n0) := by
  rw [fX8_readsSeason_16] at h
  refine fr_aload_n (q := 17) F dX8_readsSeason_16 rfl rfl ?_
  obtain ⟨n21, hr20, h⟩ := fr_bd_some h
  refine fr_callV (q := 20) (M' := (u0, n21)) (rest := []) (st' := []) F dX8_readsSeason_17 rfl (tX8_goesOn hr20) mlRX8_190 msX8_goesOn ⟨Nat.le_of_ble_eq_true rfl, Nat.le_of_ble_eq_true rfl⟩ (by decide) rfl rfl rfl (Nat.le_of_ble_eq_true rfl) rfl ?_
  refine fr_aload_n (q := 21) F dX8_readsSeason_20 rfl rfl ?_
  refine fr_iconst (q := 22) (v := 0) F dX8_readsSeason_21 rfl (by decide) ?_
  refine fr_aload_n (q := 23) F dX8_readsSeason_22 rfl rfl ?_
  refine fr_gfR (q := 26) (j := 54) F dX8_readsSeason_23 rfl faRX8_13 (by decide) rfl rfl ?_
  refine fr_bipush (q := 28) (v := 6) F dX8_readsSeason_26 rfl (by decide) ?_
  refine fr_ial (q := 29) (x := (n21 2 6)) F dX8_readsSeason_28 rfl (fr_vin rfl) (by decide) rfl rfl ?_
  refine fr_iconst (q := 30) (v := 1) F dX8_readsSeason_29 rfl (by decide) ?_
  refine fr_isub (q := 31) F dX8_readsSeason_30 rfl ?_
  refine fr_bipush (q := 33) (v := 44) F dX8_readsSeason_31 rfl (by decide) ?_
  obtain ⟨r22, n24, hr23, h⟩ := fr_bd2_some h
  refine fr_callV (q := 36) (M' := (u0, n24)) (rest := []) (st' := [.int r22]) F dX8_readsSeason_33 rfl (tX8_number hr23) mlRX8_199 msX8_number ⟨Nat.le_of_ble_eq_true rfl, Nat.le_of_ble_eq_true rfl⟩ (by decide) rfl rfl rfl (Nat.le_of_ble_eq_true rfl) rfl ?_
  refine fr_istore_n (q := 37) F dX8_readsSeason_36 rfl (by decide) rfl ?_
  refine fr_aload_n (q := 38) F dX8_readsSeason_37 rfl rfl ?_
  refine fr_gfI (q := 41) (x := (n24 0 12)) F dX8_readsSeason_38 rfl faRX8_178 (by decide) rfl rfl rfl ?_
  refine fr_if_ne (q := 44) (tgt := 65) F dX8_readsSeason_41 (by decide) rfl (fun hc25 => ?_) (fun hc25 => ?_)
  · rw [if_neg hc25] at h
    exact fr_wj (tX8_readsSeason_65 F E h) ⟨rfl, ⟨rfl, trivial⟩⟩
  · rw [if_pos hc25] at h
    refine fr_aload_n (q := 45) F dX8_readsSeason_44 rfl rfl ?_
    refine fr_gfI (q := 48) (x := (n24 0 10)) F dX8_readsSeason_45 rfl faRX8_175 (by decide) rfl rfl rfl ?_
    refine fr_iconst (q := 49) (v := 2) F dX8_readsSeason_48 rfl (by decide) ?_
    refine fr_icmp_ne (q := 52) (tgt := 65) F dX8_readsSeason_49 (by decide) rfl (fun hc26 => ?_) (fun hc26 => ?_)
    · rw [if_neg hc26] at h
      exact fr_wj (tX8_readsSeason_65 F E h) ⟨rfl, ⟨rfl, trivial⟩⟩
    · rw [if_pos hc26] at h
      refine fr_aload_n (q := 53) F dX8_readsSeason_52 rfl rfl ?_
      refine fr_gfI (q := 56) (x := (n24 0 11)) F dX8_readsSeason_53 rfl faRX8_164 (by decide) rfl rfl rfl ?_
      refine fr_iload_n (q := 57) F dX8_readsSeason_56 rfl rfl ?_
      refine fr_icmp_ne (q := 60) (tgt := 65) F dX8_readsSeason_57 (by decide) rfl (fun hc27 => ?_) (fun hc27 => ?_)
      · rw [if_neg hc27] at h
        exact fr_wj (tX8_readsSeason_65 F E h) ⟨rfl, ⟨rfl, trivial⟩⟩
      · rw [if_pos hc27] at h
        refine fr_aload_n (q := 61) F dX8_readsSeason_60 rfl rfl ?_
        refine fr_iconst (q := 62) (v := 2) F dX8_readsSeason_61 rfl (by decide) ?_
        obtain ⟨n30, hr29, h⟩ := fr_bd_some h
        refine fr_callV (q := 65) (M' := (u0, n30)) (rest := []) (st' := []) F dX8_readsSeason_62 rfl (tX8_bad hr29) mlRX8_187 msX8_bad ⟨Nat.le_of_ble_eq_true rfl, Nat.le_of_ble_eq_true rfl⟩ (by decide) rfl rfl rfl (Nat.le_of_ble_eq_true rfl) rfl ?_
        exact fr_wj (tX8_readsSeason_65 F E h) ⟨rfl, ⟨rfl, trivial⟩⟩
theorem tX8_readsSeason {l : Launch} {G : fr_G} {u0 : fr_N} {n0 : fr_N} {nz : fr_N} (h : fX8_readsSeason n0 = some nz) : fr_Met l G YX8_readsSeason [.ref 52] (u0, n0) none (u0, nz) := by
  refine fr_met (pad := List.replicate 4 none) (by decide) (Nat.le_of_ble_eq_true rfl) (fun _ h => List.eq_of_mem_replicate h) ⟨rfl, rfl⟩ (fun K F hG hL E => ?_)
  subst hG; subst hL
  rw [fX8_readsSeason] at h
  show fr_V YX8_readsSeason K 0 [some (.ref 52), none, none, none, none] [] (u0, n0)
  refine fr_aload_n (q := 1) F dX8_readsSeason_0 rfl rfl ?_
  refine fr_gfR (q := 4) (j := 54) F dX8_readsSeason_1 rfl faRX8_13 (by decide) rfl rfl ?_
  refine fr_bipush (q := 6) (v := 7) F dX8_readsSeason_4 rfl (by decide) ?_
  refine fr_ial (q := 7) (x := (n0 2 7)) F dX8_readsSeason_6 rfl (fr_vin rfl) (by decide) rfl rfl ?_
  refine fr_iconst (q := 8) (v := 4) F dX8_readsSeason_7 rfl (by decide) ?_
  refine fr_icmp_ne (q := 11) (tgt := 16) F dX8_readsSeason_8 (by decide) rfl (fun hc31 => ?_) (fun hc31 => ?_)
  · rw [if_neg hc31] at h
    exact fr_wj (tX8_readsSeason_16 F E h) ⟨rfl, trivial⟩
  · rw [if_pos hc31] at h
    refine fr_aload_n (q := 12) F dX8_readsSeason_11 rfl rfl ?_
    refine fr_iconst (q := 13) (v := 3) F dX8_readsSeason_12 rfl (by decide) ?_
    obtain ⟨n34, hr33, h⟩ := fr_bd_some h
    refine fr_callV (q := 16) (M' := (u0, n34)) (rest := []) (st' := []) F dX8_readsSeason_13 rfl (tX8_bad hr33) mlRX8_187 msX8_bad ⟨Nat.le_of_ble_eq_true rfl, Nat.le_of_ble_eq_true rfl⟩ (by decide) rfl rfl rfl (Nat.le_of_ble_eq_true rfl) rfl ?_
    exact fr_wj (tX8_readsSeason_16 F E h) ⟨rfl, trivial⟩
/-! FeastRotaModel.puts (54, None, None, None, None) -/
def fX8_puts_54 (a1 : Int32) (a2 : Int32) (a3 : Int32) (a4 : Int32) (n0 : fr_N) : Option fr_N := fr_ck ((9 : Int32) + ((4 : Int32) * (n0 2 6))) 79 (fr_lt (fr_up n0 2 (Int32.toNatClampNeg ((9 : Int32) + ((4 : Int32) * (n0 2 6)))) a1) fun n2 => (fr_ck (((9 : Int32) + ((4 : Int32) * (n0 2 6))) + (1 : Int32)) 79 (fr_lt (fr_up n2 2 (Int32.toNatClampNeg (((9 : Int32) + ((4 : Int32) * (n0 2 6))) + (1 : Int32))) a2) fun n5 => (fr_ck (((9 : Int32) + ((4 : Int32) * (n0 2 6))) + (2 : Int32)) 79 (fr_lt (fr_up n5 2 (Int32.toNatClampNeg (((9 : Int32) + ((4 : Int32) * (n0 2 6))) + (2 : Int32))) a3) fun n8 => (fr_ck (((9 : Int32) + ((4 : Int32) * (n0 2 6))) + (3 : Int32)) 79 (fr_lt (fr_up n8 2 (Int32.toNatClampNeg (((9 : Int32) + ((4 : Int32) * (n0 2 6))) + (3 : Int32))) a4) fun n11 => (fr_lt (fr_up n11 2 6 ((n11 2 6) + (1 : Int32))) fun n13 => (some n13)))))))))
theorem tX8_puts_54 {l : Launch} {G : fr_G} {u0 : fr_N} {a1 : Int32} {a2 : Int32} {a3 : Int32} {a4 : Int32} {n0 : fr_N} {nz : fr_N} (h : fX8_puts_54 a1 a2 a3 a4 n0 = some nz) : fr_Met l G YX8_puts [.ref 54, .int a1, .int a2, .int a3, .int a4] (u0, n0) none (u0, nz) := by
  refine fr_met (pad := List.replicate 1 none) (by decide) (Nat.le_of_ble_eq_true rfl) (fun _ h => List.eq_of_mem_replicate h) ⟨rfl, rfl⟩ (fun K F hG hL E => ?_)
  subst hG; subst hL
  rw [fX8_puts_54] at h
  show fr_V YX8_puts K 0 [some (.ref 54), some (.int a1), some (.int a2), some (.int a3), some (.int a4), none] [] (u0, n0)
  refine fr_bipush (q := 2) (v := 9) F dX8_puts_0 rfl (by decide) ?_
  refine fr_iconst (q := 3) (v := 4) F dX8_puts_2 rfl (by decide) ?_
  refine fr_aload_n (q := 4) F dX8_puts_3 rfl rfl ?_
  refine fr_bipush (q := 6) (v := 6) F dX8_puts_4 rfl (by decide) ?_
  refine fr_ial (q := 7) (x := (n0 2 6)) F dX8_puts_6 rfl (fr_vin rfl) (by decide) rfl rfl ?_
  refine fr_imul (q := 8) F dX8_puts_7 rfl ?_
  refine fr_iadd (q := 9) F dX8_puts_8 rfl ?_
  refine fr_istore (q := 11) F dX8_puts_9 rfl (by decide) rfl ?_
  refine fr_aload_n (q := 12) F dX8_puts_11 rfl rfl ?_
  refine fr_iload (q := 14) F dX8_puts_12 rfl rfl ?_
  refine fr_iload_n (q := 15) F dX8_puts_14 rfl rfl ?_
  obtain ⟨hi1, h⟩ := fr_ck_some h
  obtain ⟨n2, hn3, h⟩ := fr_lt_some h
  refine fr_ias (q := 16) (M' := (u0, n2)) F dX8_puts_15 rfl hi1 (by decide) rfl (congrArg (fun z => (u0, z)) hn3) ?_
  refine fr_aload_n (q := 17) F dX8_puts_16 rfl rfl ?_
  refine fr_iload (q := 19) F dX8_puts_17 rfl rfl ?_
  refine fr_iconst (q := 20) (v := 1) F dX8_puts_19 rfl (by decide) ?_
  refine fr_iadd (q := 21) F dX8_puts_20 rfl ?_
  refine fr_iload_n (q := 22) F dX8_puts_21 rfl rfl ?_
  obtain ⟨hi4, h⟩ := fr_ck_some h
  obtain ⟨n5, hn6, h⟩ := fr_lt_some h
  refine fr_ias (q := 23) (M' := (u0, n5)) F dX8_puts_22 rfl hi4 (by decide) rfl (congrArg (fun z => (u0, z)) hn6) ?_
  refine fr_aload_n (q := 24) F dX8_puts_23 rfl rfl ?_
  refine fr_iload (q := 26) F dX8_puts_24 rfl rfl ?_
  refine fr_iconst (q := 27) (v := 2) F dX8_puts_26 rfl (by decide) ?_
  refine fr_iadd (q := 28) F dX8_puts_27 rfl ?_
  refine fr_iload_n (q := 29) F dX8_puts_28 rfl rfl ?_
  obtain ⟨hi7, h⟩ := fr_ck_some h
  obtain ⟨n8, hn9, h⟩ := fr_lt_some h
  refine fr_ias (q := 30) (M' := (u0, n8)) F dX8_puts_29 rfl hi7 (by decide) rfl (congrArg (fun z => (u0, z)) hn9) ?_
  refine fr_aload_n (q := 31) F dX8_puts_30 rfl rfl ?_
  refine fr_iload (q := 33) F dX8_puts_31 rfl rfl ?_
  refine fr_iconst (q := 34) (v := 3) F dX8_puts_33 rfl (by decide) ?_
  refine fr_iadd (q := 35) F dX8_puts_34 rfl ?_
  refine fr_iload (q := 37) F dX8_puts_35 rfl rfl ?_
  obtain ⟨hi10, h⟩ := fr_ck_some h
  obtain ⟨n11, hn12, h⟩ := fr_lt_some h
  refine fr_ias (q := 38) (M' := (u0, n11)) F dX8_puts_37 rfl hi10 (by decide) rfl (congrArg (fun z => (u0, z)) hn12) ?_
  refine fr_aload_n (q := 39) F dX8_puts_38 rfl rfl ?_
  refine fr_bipush (q := 41) (v := 6) F dX8_puts_39 rfl (by decide) ?_
  refine fr_dup2 (q := 42) F dX8_puts_41 rfl rfl rfl ?_
  refine fr_ial (q := 43) (x := (n11 2 6)) F dX8_puts_42 rfl (fr_vin rfl) (by decide) rfl rfl ?_
  refine fr_iconst (q := 44) (v := 1) F dX8_puts_43 rfl (by decide) ?_
  refine fr_iadd (q := 45) F dX8_puts_44 rfl ?_
  obtain ⟨n13, hn14, h⟩ := fr_lt_some h
  refine fr_ias (q := 46) (M' := (u0, n13)) F dX8_puts_45 rfl (fr_vin rfl) (by decide) rfl (congrArg (fun z => (u0, z)) hn14) ?_
  obtain rfl := Option.some.inj h
  exact fr_vret F E rfl dX8_puts_46
/-! FeastRotaModel.readsFeast (52,) -/
def fX8_readsFeast_50 (x1 : Int32) (s0 : Int32) (s1 : Bool) (n0 : fr_N) : Option fr_N := fr_bd2 (fX8_number (fr_b s1) s0 (44 : Int32) n0) fun r1 n3 => (fr_bd2 (fX8_number (1 : Int32) (5 : Int32) (44 : Int32) n3) fun r4 n6 => (fr_bd2 (fX8_number (1 : Int32) (6 : Int32) (59 : Int32) n6) fun r7 n9 => (if (n9 0 12) = 0 then fr_bd (fX8_puts_54 x1 r1 r4 r7 n9) fun n13 => (some n13) else some n9)))
def fX8_readsFeast_37 (x1 : Int32) (s0 : Bool) (n0 : fr_N) : Option fr_N := if (2 : Int32) ≤ x1 then fX8_readsFeast_50 x1 (365 : Int32) s0 n0 else fX8_readsFeast_50 x1 (99 : Int32) s0 n0
def fX8_readsFeast_22 (x1 : Int32) (n0 : fr_N) : Option fr_N := fr_bd (fX8_goesOn n0) fun n17 => (if (2 : Int32) ≤ x1 then fX8_readsFeast_37 x1 true n17 else fX8_readsFeast_37 x1 false n17)
def fX8_readsFeast (n0 : fr_N) : Option fr_N := fr_bd (fX8_sort n0) fun r19 => (if (n0 2 6) = (12 : Int32) then fr_bd (fX8_bad (3 : Int32) n0) fun n24 => (fX8_readsFeast_22 r19 n24) else fX8_readsFeast_22 r19 n0)
theorem tX8_readsFeast_50 {K : fr_K} {u0 : fr_N} {nz : fr_N} (F : fr_F YX8_readsFeast K) (E : fr_R YX8_readsFeast K none (u0, nz)) {x1 : Int32} {s0 : Int32} {s1 : Bool} {n0 : fr_N} (h : fX8_readsFeast_50 x1 s0 s1 n0 = some nz) : fr_V YX8_readsFeast K 50 [some (.ref 52), some (.int x1), none, none, none] [.int s0, .int (fr_b s1), .ref 52] (u0, n0) := by
  rw [fX8_readsFeast_50] at h
  refine fr_bipush (q := 52) (v := 44) F dX8_readsFeast_50 rfl (by decide) ?_
  obtain ⟨r1, n3, hr2, h⟩ := fr_bd2_some h
  refine fr_callV (q := 55) (M' := (u0, n3)) (rest := []) (st' := [.int r1]) F dX8_readsFeast_52 rfl (tX8_number hr2) mlRX8_199 msX8_number ⟨Nat.le_of_ble_eq_true rfl, Nat.le_of_ble_eq_true rfl⟩ (by decide) rfl rfl rfl (Nat.le_of_ble_eq_true rfl) rfl ?_
  refine fr_istore_n (q := 56) F dX8_readsFeast_55 rfl (by decide) rfl ?_
  refine fr_aload_n (q := 57) F dX8_readsFeast_56 rfl rfl ?_
  refine fr_iconst (q := 58) (v := 1) F dX8_readsFeast_57 rfl (by decide) ?_
  refine fr_iconst (q := 59) (v := 5) F dX8_readsFeast_58 rfl (by decide) ?_
  refine fr_bipush (q := 61) (v := 44) F dX8_readsFeast_59 rfl (by decide) ?_
  obtain ⟨r4, n6, hr5, h⟩ := fr_bd2_some h
  refine fr_callV (q := 64) (M' := (u0, n6)) (rest := []) (st' := [.int r4]) F dX8_readsFeast_61 rfl (tX8_number hr5) mlRX8_199 msX8_number ⟨Nat.le_of_ble_eq_true rfl, Nat.le_of_ble_eq_true rfl⟩ (by decide) rfl rfl rfl (Nat.le_of_ble_eq_true rfl) rfl ?_
  refine fr_istore_n (q := 65) F dX8_readsFeast_64 rfl (by decide) rfl ?_
  refine fr_aload_n (q := 66) F dX8_readsFeast_65 rfl rfl ?_
  refine fr_iconst (q := 67) (v := 1) F dX8_readsFeast_66 rfl (by decide) ?_
  refine fr_bipush (q := 69) (v := 6) F dX8_readsFeast_67 rfl (by decide) ?_
  refine fr_bipush (q := 71) (v := 59) F dX8_readsFeast_69 rfl (by decide) ?_
  obtain ⟨r7, n9, hr8, h⟩ := fr_bd2_some h
  refine fr_callV (q := 74) (M' := (u0, n9)) (rest := []) (st' := [.int r7]) F dX8_readsFeast_71 rfl (tX8_number hr8) mlRX8_199 msX8_number ⟨Nat.le_of_ble_eq_true rfl, Nat.le_of_ble_eq_true rfl⟩ (by decide) rfl rfl rfl (Nat.le_of_ble_eq_true rfl) rfl ?_
  refine fr_istore (q := 76) F dX8_readsFeast_74 rfl (by decide) rfl ?_
  refine fr_aload_n (q := 77) F dX8_readsFeast_76 rfl rfl ?_
  refine fr_gfI (q := 80) (x := (n9 0 12)) F dX8_readsFeast_77 rfl faRX8_178 (by decide) rfl rfl rfl ?_
  refine fr_if_ne (q := 83) (tgt := 95) F dX8_readsFeast_80 (by decide) rfl (fun hc10 => ?_) (fun hc10 => ?_)
  · rw [if_neg hc10] at h
    obtain rfl := Option.some.inj h
    exact fr_vret F E rfl dX8_readsFeast_95
  · rw [if_pos hc10] at h
    refine fr_aload_n (q := 84) F dX8_readsFeast_83 rfl rfl ?_
    refine fr_gfR (q := 87) (j := 54) F dX8_readsFeast_84 rfl faRX8_13 (by decide) rfl rfl ?_
    refine fr_iload_n (q := 88) F dX8_readsFeast_87 rfl rfl ?_
    refine fr_iload_n (q := 89) F dX8_readsFeast_88 rfl rfl ?_
    refine fr_iload_n (q := 90) F dX8_readsFeast_89 rfl rfl ?_
    refine fr_iload (q := 92) F dX8_readsFeast_90 rfl rfl ?_
    obtain ⟨n13, hr12, h⟩ := fr_bd_some h
    refine fr_callS (q := 95) (M' := (u0, n13)) (rest := []) (st' := []) F dX8_readsFeast_92 rfl (tX8_puts_54 hr12) mlRX8_203 msX8_puts ⟨Nat.le_of_ble_eq_true rfl, Nat.le_of_ble_eq_true rfl⟩ rfl rfl (Nat.le_of_ble_eq_true rfl) rfl ?_
    obtain rfl := Option.some.inj h
    exact fr_vret F E rfl dX8_readsFeast_95
theorem tX8_readsFeast_37 {K : fr_K} {u0 : fr_N} {nz : fr_N} (F : fr_F YX8_readsFeast K) (E : fr_R YX8_readsFeast K none (u0, nz)) {x1 : Int32} {s0 : Bool} {n0 : fr_N} (h : fX8_readsFeast_37 x1 s0 n0 = some nz) : fr_V YX8_readsFeast K 37 [some (.ref 52), some (.int x1), none, none, none] [.int (fr_b s0), .ref 52] (u0, n0) := by
  rw [fX8_readsFeast_37] at h
  refine fr_iload_n (q := 38) F dX8_readsFeast_37 rfl rfl ?_
  refine fr_iconst (q := 39) (v := 2) F dX8_readsFeast_38 rfl (by decide) ?_
  refine fr_icmp_ge (q := 42) (tgt := 47) F dX8_readsFeast_39 (by decide) rfl (fun hc14 => ?_) (fun hc14 => ?_)
  · rw [if_pos hc14] at h
    refine fr_sipush (q := 50) (v := 365) F dX8_readsFeast_47 rfl (by decide) ?_
    exact fr_wj (tX8_readsFeast_50 F E h) ⟨rfl, ⟨rfl, trivial⟩⟩
  · rw [if_neg hc14] at h
    refine fr_bipush (q := 44) (v := 99) F dX8_readsFeast_42 rfl (by decide) ?_
    refine fr_goto (tgt := 50) F dX8_readsFeast_44 (by decide) ?_
    exact fr_wj (tX8_readsFeast_50 F E h) ⟨rfl, ⟨rfl, trivial⟩⟩
theorem tX8_readsFeast_22 {K : fr_K} {u0 : fr_N} {nz : fr_N} (F : fr_F YX8_readsFeast K) (E : fr_R YX8_readsFeast K none (u0, nz)) {x1 : Int32} {n0 : fr_N} (h : fX8_readsFeast_22 x1 n0 = some nz) : fr_V YX8_readsFeast K 22 [some (.ref 52), some (.int x1), none, none, none] [] (u0, n0) := by
  rw [fX8_readsFeast_22] at h
  refine fr_aload_n (q := 23) F dX8_readsFeast_22 rfl rfl ?_
  obtain ⟨n17, hr16, h⟩ := fr_bd_some h
  refine fr_callV (q := 26) (M' := (u0, n17)) (rest := []) (st' := []) F dX8_readsFeast_23 rfl (tX8_goesOn hr16) mlRX8_190 msX8_goesOn ⟨Nat.le_of_ble_eq_true rfl, Nat.le_of_ble_eq_true rfl⟩ (by decide) rfl rfl rfl (Nat.le_of_ble_eq_true rfl) rfl ?_
  refine fr_aload_n (q := 27) F dX8_readsFeast_26 rfl rfl ?_
  refine fr_iload_n (q := 28) F dX8_readsFeast_27 rfl rfl ?_
  refine fr_iconst (q := 29) (v := 2) F dX8_readsFeast_28 rfl (by decide) ?_
  refine fr_icmp_ge (q := 32) (tgt := 36) F dX8_readsFeast_29 (by decide) rfl (fun hc18 => ?_) (fun hc18 => ?_)
  · rw [if_pos hc18] at h
    refine fr_iconst (q := 37) (v := 1) F dX8_readsFeast_36 rfl (by decide) ?_
    exact fr_wj (tX8_readsFeast_37 F E h) ⟨rfl, ⟨rfl, trivial⟩⟩
  · rw [if_neg hc18] at h
    refine fr_iconst (q := 33) (v := 0) F dX8_readsFeast_32 rfl (by decide) ?_
    refine fr_goto (tgt := 37) F dX8_readsFeast_33 (by decide) ?_
    exact fr_wj (tX8_readsFeast_37 F E h) ⟨rfl, ⟨rfl, trivial⟩⟩
theorem tX8_readsFeast {l : Launch} {G : fr_G} {u0 : fr_N} {n0 : fr_N} {nz : fr_N} (h : fX8_readsFeast n0 = some nz) : fr_Met l G YX8_readsFeast [.ref 52] (u0, n0) none (u0, nz) := by
  refine fr_met (pad := List.replicate 4 none) (by decide) (Nat.le_of_ble_eq_true rfl) (fun _ h => List.eq_of_mem_replicate h) ⟨rfl, rfl⟩ (fun K F hG hL E => ?_)
  subst hG; subst hL
  rw [fX8_readsFeast] at h
  show fr_V YX8_readsFeast K 0 [some (.ref 52), none, none, none, none] [] (u0, n0)
  refine fr_aload_n (q := 1) F dX8_readsFeast_0 rfl rfl ?_
  obtain ⟨r19, hr20, h⟩ := fr_bd_some h
  refine fr_callV (q := 4) (M' := (u0, n0)) (rest := []) (st' := [.int r19]) F dX8_readsFeast_1 rfl (tX8_sort hr20) mlRX8_196 msX8_sort ⟨Nat.le_of_ble_eq_true rfl, Nat.le_of_ble_eq_true rfl⟩ (by decide) rfl rfl rfl (Nat.le_of_ble_eq_true rfl) rfl ?_
  refine fr_istore_n (q := 5) F dX8_readsFeast_4 rfl (by decide) rfl ?_
  refine fr_aload_n (q := 6) F dX8_readsFeast_5 rfl rfl ?_
  refine fr_gfR (q := 9) (j := 54) F dX8_readsFeast_6 rfl faRX8_13 (by decide) rfl rfl ?_
  refine fr_bipush (q := 11) (v := 6) F dX8_readsFeast_9 rfl (by decide) ?_
  refine fr_ial (q := 12) (x := (n0 2 6)) F dX8_readsFeast_11 rfl (fr_vin rfl) (by decide) rfl rfl ?_
  refine fr_bipush (q := 14) (v := 12) F dX8_readsFeast_12 rfl (by decide) ?_
  refine fr_icmp_ne (q := 17) (tgt := 22) F dX8_readsFeast_14 (by decide) rfl (fun hc21 => ?_) (fun hc21 => ?_)
  · rw [if_neg hc21] at h
    exact fr_wj (tX8_readsFeast_22 F E h) ⟨rfl, ⟨rfl, trivial⟩⟩
  · rw [if_pos hc21] at h
    refine fr_aload_n (q := 18) F dX8_readsFeast_17 rfl rfl ?_
    refine fr_iconst (q := 19) (v := 3) F dX8_readsFeast_18 rfl (by decide) ?_
    obtain ⟨n24, hr23, h⟩ := fr_bd_some h
    refine fr_callV (q := 22) (M' := (u0, n24)) (rest := []) (st' := []) F dX8_readsFeast_19 rfl (tX8_bad hr23) mlRX8_187 msX8_bad ⟨Nat.le_of_ble_eq_true rfl, Nat.le_of_ble_eq_true rfl⟩ (by decide) rfl rfl rfl (Nat.le_of_ble_eq_true rfl) rfl ?_
    exact fr_wj (tX8_readsFeast_22 F E h) ⟨rfl, ⟨rfl, trivial⟩⟩
