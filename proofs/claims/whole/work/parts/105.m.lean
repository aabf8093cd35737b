/-! FeastRota$Rota.give (48, None) -/
def fX5_give (a1 : Int32) (n0 : fr_N) : Option fr_N := if a1 = (-1 : Int32) then fr_lt (fr_up n0 48 6 ((n0 48 6) + (1 : Int32))) fun n13 => (some n13) else fr_lt (fr_up n0 48 5 ((n0 48 5) + (1 : Int32))) fun n2 => (fr_ck a1 5 (fr_ck a1 5 (fr_lt (fr_up n2 49 (Int32.toNatClampNeg a1) ((n2 49 (Int32.toNatClampNeg a1)) + (1 : Int32))) fun n6 => (fr_ck a1 5 (fr_lt (fr_up n6 50 (Int32.toNatClampNeg a1) (n6 48 5)) fun n9 => (fr_lt (fr_up n9 48 7 ((n9 48 7) ||| ((1 : Int32) <<< (a1 &&& 31)))) fun n11 => (some n11)))))))
theorem tX5_give {l : Launch} {G : fr_G} {u0 : fr_N} {a1 : Int32} {n0 : fr_N} {nz : fr_N} (h : fX5_give a1 n0 = some nz) : fr_Met l G YX5_give [.ref 48, .int a1] (n0, u0) none (nz, u0) := by
  refine fr_met (pad := List.replicate 0 none) (by decide) (Nat.le_of_ble_eq_true rfl) (fun _ h => List.eq_of_mem_replicate h) ⟨rfl, rfl⟩ (fun K F hG hL E => ?_)
  subst hG; subst hL
  rw [fX5_give] at h
  show fr_V YX5_give K 0 [some (.ref 48), some (.int a1)] [] (n0, u0)
  refine fr_iload_n (q := 1) F dX5_give_0 rfl rfl ?_
  refine fr_iconst (q := 2) (v := (-1)) F dX5_give_1 rfl (by decide) ?_
  refine fr_icmp_ne (q := 5) (tgt := 16) F dX5_give_2 (by decide) rfl (fun hc1 => ?_) (fun hc1 => ?_)
  · rw [if_neg hc1] at h
    refine fr_aload_n (q := 17) F dX5_give_16 rfl rfl ?_
    refine fr_dup (q := 18) F dX5_give_17 rfl rfl ?_
    refine fr_gfI (q := 21) (x := (n0 48 5)) F dX5_give_18 rfl faRX5_35 (by decide) rfl rfl rfl ?_
    refine fr_iconst (q := 22) (v := 1) F dX5_give_21 rfl (by decide) ?_
    refine fr_iadd (q := 23) F dX5_give_22 rfl ?_
    obtain ⟨n2, hn3, h⟩ := fr_lt_some h
    refine fr_pfI (q := 26) (M' := (n2, u0)) F dX5_give_23 rfl fpRX5_35 (by decide) rfl rfl (congrArg (fun z => (z, u0)) hn3) ?_
    refine fr_aload_n (q := 27) F dX5_give_26 rfl rfl ?_
    refine fr_gfR (q := 30) (j := 49) F dX5_give_27 rfl faRX5_19 (by decide) rfl rfl ?_
    refine fr_iload_n (q := 31) F dX5_give_30 rfl rfl ?_
    refine fr_dup2 (q := 32) F dX5_give_31 rfl rfl rfl ?_
    obtain ⟨hi4, h⟩ := fr_ck_some h
    refine fr_ial (q := 33) (x := (n2 49 (Int32.toNatClampNeg a1))) F dX5_give_32 rfl hi4 (by decide) rfl rfl ?_
    refine fr_iconst (q := 34) (v := 1) F dX5_give_33 rfl (by decide) ?_
    refine fr_iadd (q := 35) F dX5_give_34 rfl ?_
    obtain ⟨hi5, h⟩ := fr_ck_some h
    obtain ⟨n6, hn7, h⟩ := fr_lt_some h
    refine fr_ias (q := 36) (M' := (n6, u0)) F dX5_give_35 rfl hi5 (by decide) rfl (congrArg (fun z => (z, u0)) hn7) ?_
    refine fr_aload_n (q := 37) F dX5_give_36 rfl rfl ?_
    refine fr_gfR (q := 40) (j := 50) F dX5_give_37 rfl faRX5_23 (by decide) rfl rfl ?_
    refine fr_iload_n (q := 41) F dX5_give_40 rfl rfl ?_
    refine fr_aload_n (q := 42) F dX5_give_41 rfl rfl ?_
    refine fr_gfI (q := 45) (x := (n6 48 5)) F dX5_give_42 rfl faRX5_35 (by decide) rfl rfl rfl ?_
    obtain ⟨hi8, h⟩ := fr_ck_some h
    obtain ⟨n9, hn10, h⟩ := fr_lt_some h
    refine fr_ias (q := 46) (M' := (n9, u0)) F dX5_give_45 rfl hi8 (by decide) rfl (congrArg (fun z => (z, u0)) hn10) ?_
    refine fr_aload_n (q := 47) F dX5_give_46 rfl rfl ?_
    refine fr_dup (q := 48) F dX5_give_47 rfl rfl ?_
    refine fr_gfI (q := 51) (x := (n9 48 7)) F dX5_give_48 rfl faRX5_46 (by decide) rfl rfl rfl ?_
    refine fr_iconst (q := 52) (v := 1) F dX5_give_51 rfl (by decide) ?_
    refine fr_iload_n (q := 53) F dX5_give_52 rfl rfl ?_
    refine fr_ishl (q := 54) F dX5_give_53 rfl ?_
    refine fr_ior (q := 55) F dX5_give_54 rfl ?_
    obtain ⟨n11, hn12, h⟩ := fr_lt_some h
    refine fr_pfI (q := 58) (M' := (n11, u0)) F dX5_give_55 rfl fpRX5_46 (by decide) rfl rfl (congrArg (fun z => (z, u0)) hn12) ?_
    obtain rfl := Option.some.inj h
    exact fr_vret F E rfl dX5_give_58
  · rw [if_pos hc1] at h
    refine fr_aload_n (q := 6) F dX5_give_5 rfl rfl ?_
    refine fr_dup (q := 7) F dX5_give_6 rfl rfl ?_
    refine fr_gfI (q := 10) (x := (n0 48 6)) F dX5_give_7 rfl faRX5_39 (by decide) rfl rfl rfl ?_
    refine fr_iconst (q := 11) (v := 1) F dX5_give_10 rfl (by decide) ?_
    refine fr_iadd (q := 12) F dX5_give_11 rfl ?_
    obtain ⟨n13, hn14, h⟩ := fr_lt_some h
    refine fr_pfI (q := 15) (M' := (n13, u0)) F dX5_give_12 rfl fpRX5_39 (by decide) rfl rfl (congrArg (fun z => (z, u0)) hn14) ?_
    obtain rfl := Option.some.inj h
    exact fr_vret F E rfl dX5_give_15
/-! FeastRota$Rota.dealOut (48, None, None) -/
def fX5_dealOut_54 (k21 : Int32 → Int32 → Int32 → Int32 → fr_N → Option fr_N) (x1 : Int32) (x2 : Int32) (x3 : Int32) (x4 : Int32) (x5 : Int32) (n0 : fr_N) : Option fr_N := fr_ck x4 4 (fr_lt (fr_up n0 51 (Int32.toNatClampNeg x4) x5) fun n2 => (fr_bd (fX5_give x5 n2) fun n6 => (k21 x1 x2 x3 (x4 + (1 : Int32)) n6)))
def fX5_dealOut_21 : Nat → Int32 → Int32 → Int32 → Int32 → fr_N → Option fr_N
  | 0, _, _, _, _, _ => none
  | k + 1, x1, x2, x3, x4, n0 => if x3 ≤ x4 then some n0 else fr_bd (fX5_choose x1 x2 (n0 48 7) n0) fun r8 => (if r8 = (-1 : Int32) then fr_bd (fX5_choose x1 x2 (0 : Int32) n0) fun r11 => (fX5_dealOut_54 (fX5_dealOut_21 k) x1 x2 x3 x4 r11 n0) else fX5_dealOut_54 (fX5_dealOut_21 k) x1 x2 x3 x4 r8 n0)
def fX5_dealOut (a1 : Int32) (a2 : Int32) (n0 : fr_N) : Option fr_N := fr_lt (fr_up n0 48 7 (0 : Int32)) fun n13 => (fr_bd (fX3_servicesOf a2 n13) fun r15 => (fX5_dealOut_21 2000 a1 a2 (if (4 : Int32) < r15 then (4 : Int32) else r15) (0 : Int32) n13))
theorem tX5_dealOut_54 {K : fr_K} {k21 : Int32 → Int32 → Int32 → Int32 → fr_N → Option fr_N} {u0 : fr_N} {nz : fr_N} (F : fr_F YX5_dealOut K) (E : fr_R YX5_dealOut K none (nz, u0)) (H21 : ∀ (y1 : Int32) (y2 : Int32) (y3 : Int32) (y4 : Int32) (n : fr_N), k21 y1 y2 y3 y4 n = some nz → fr_V YX5_dealOut K 21 [some (.ref 48), some (.int y1), some (.int y2), some (.int y3), some (.int y4), none] [] (n, u0)) {x1 : Int32} {x2 : Int32} {x3 : Int32} {x4 : Int32} {x5 : Int32} {n0 : fr_N} (h : fX5_dealOut_54 k21 x1 x2 x3 x4 x5 n0 = some nz) : fr_V YX5_dealOut K 54 [some (.ref 48), some (.int x1), some (.int x2), some (.int x3), some (.int x4), some (.int x5)] [] (n0, u0) := by
  rw [fX5_dealOut_54] at h
  refine fr_aload_n (q := 55) F dX5_dealOut_54 rfl rfl ?_
  refine fr_gfR (q := 58) (j := 51) F dX5_dealOut_55 rfl faRX5_26 (by decide) rfl rfl ?_
  refine fr_iload (q := 60) F dX5_dealOut_58 rfl rfl ?_
  refine fr_iload (q := 62) F dX5_dealOut_60 rfl rfl ?_
  obtain ⟨hi1, h⟩ := fr_ck_some h
  obtain ⟨n2, hn3, h⟩ := fr_lt_some h
  refine fr_ias (q := 63) (M' := (n2, u0)) F dX5_dealOut_62 rfl hi1 (by decide) rfl (congrArg (fun z => (z, u0)) hn3) ?_
  refine fr_aload_n (q := 64) F dX5_dealOut_63 rfl rfl ?_
  refine fr_iload (q := 66) F dX5_dealOut_64 rfl rfl ?_
  obtain ⟨n6, hr5, h⟩ := fr_bd_some h
  refine fr_callV (q := 69) (M' := (n6, u0)) (rest := []) (st' := []) F dX5_dealOut_66 rfl (tX5_give hr5) mlRX5_65 msX5_give ⟨Nat.le_of_ble_eq_true rfl, Nat.le_of_ble_eq_true rfl⟩ (by decide) rfl rfl rfl (Nat.le_of_ble_eq_true rfl) rfl ?_
  refine fr_iinc (q := 72) (v := (x4 + (1 : Int32))) F dX5_dealOut_69 rfl rfl rfl (by decide) rfl ?_
  refine fr_goto (tgt := 21) F dX5_dealOut_72 (by decide) ?_
  exact fr_wj (H21 _ _ _ _ _ h) ⟨rfl, ⟨rfl, ⟨rfl, ⟨rfl, ⟨rfl, trivial⟩⟩⟩⟩⟩
theorem tX5_dealOut_21 {K : fr_K} {u0 : fr_N} {nz : fr_N} (F : fr_F YX5_dealOut K) (E : fr_R YX5_dealOut K none (nz, u0)) : ∀ (k : Nat) (x1 : Int32) (x2 : Int32) (x3 : Int32) (x4 : Int32) (n0 : fr_N), fX5_dealOut_21 k x1 x2 x3 x4 n0 = some nz → fr_V YX5_dealOut K 21 [some (.ref 48), some (.int x1), some (.int x2), some (.int x3), some (.int x4), none] [] (n0, u0) := by
  intro k
  induction k with
  | zero =>
    intro x1 x2 x3 x4 n0 h
    rw [fX5_dealOut_21] at h
    cases h
  | succ k ih =>
    intro x1 x2 x3 x4 n0 h
    rw [fX5_dealOut_21] at h
    refine fr_iload (q := 23) F dX5_dealOut_21 rfl rfl ?_
    refine fr_iload_n (q := 24) F dX5_dealOut_23 rfl rfl ?_
    refine fr_icmp_ge (q := 27) (tgt := 75) F dX5_dealOut_24 (by decide) rfl (fun hc7 => ?_) (fun hc7 => ?_)
    · rw [if_pos hc7] at h
      obtain rfl := Option.some.inj h
      exact fr_vret F E rfl dX5_dealOut_75
    · rw [if_neg hc7] at h
      refine fr_aload_n (q := 28) F dX5_dealOut_27 rfl rfl ?_
      refine fr_iload_n (q := 29) F dX5_dealOut_28 rfl rfl ?_
      refine fr_iload_n (q := 30) F dX5_dealOut_29 rfl rfl ?_
      refine fr_aload_n (q := 31) F dX5_dealOut_30 rfl rfl ?_
      refine fr_gfI (q := 34) (x := (n0 48 7)) F dX5_dealOut_31 rfl faRX5_46 (by decide) rfl rfl rfl ?_
      obtain ⟨r8, hr9, h⟩ := fr_bd_some h
      refine fr_callV (q := 37) (M' := (n0, u0)) (rest := []) (st' := [.int r8]) F dX5_dealOut_34 rfl (tX5_choose hr9) mlRX5_61 msX5_choose ⟨Nat.le_of_ble_eq_true rfl, Nat.le_of_ble_eq_true rfl⟩ (by decide) rfl rfl rfl (Nat.le_of_ble_eq_true rfl) rfl ?_
      refine fr_istore (q := 39) F dX5_dealOut_37 rfl (by decide) rfl ?_
      refine fr_iload (q := 41) F dX5_dealOut_39 rfl rfl ?_
      refine fr_iconst (q := 42) (v := (-1)) F dX5_dealOut_41 rfl (by decide) ?_
      refine fr_icmp_ne (q := 45) (tgt := 54) F dX5_dealOut_42 (by decide) rfl (fun hc10 => ?_) (fun hc10 => ?_)
      · rw [if_neg hc10] at h
        exact fr_wj (tX5_dealOut_54 F E ih h) ⟨rfl, ⟨rfl, ⟨rfl, ⟨rfl, ⟨rfl, ⟨rfl, trivial⟩⟩⟩⟩⟩⟩
      · rw [if_pos hc10] at h
        refine fr_aload_n (q := 46) F dX5_dealOut_45 rfl rfl ?_
        refine fr_iload_n (q := 47) F dX5_dealOut_46 rfl rfl ?_
        refine fr_iload_n (q := 48) F dX5_dealOut_47 rfl rfl ?_
        refine fr_iconst (q := 49) (v := 0) F dX5_dealOut_48 rfl (by decide) ?_
        obtain ⟨r11, hr12, h⟩ := fr_bd_some h
        refine fr_callV (q := 52) (M' := (n0, u0)) (rest := []) (st' := [.int r11]) F dX5_dealOut_49 rfl (tX5_choose hr12) mlRX5_61 msX5_choose ⟨Nat.le_of_ble_eq_true rfl, Nat.le_of_ble_eq_true rfl⟩ (by decide) rfl rfl rfl (Nat.le_of_ble_eq_true rfl) rfl ?_
        refine fr_istore (q := 54) F dX5_dealOut_52 rfl (by decide) rfl ?_
        exact fr_wj (tX5_dealOut_54 F E ih h) ⟨rfl, ⟨rfl, ⟨rfl, ⟨rfl, ⟨rfl, ⟨rfl, trivial⟩⟩⟩⟩⟩⟩
theorem tX5_dealOut {l : Launch} {G : fr_G} {u0 : fr_N} {a1 : Int32} {a2 : Int32} {n0 : fr_N} {nz : fr_N} (h : fX5_dealOut a1 a2 n0 = some nz) : fr_Met l G YX5_dealOut [.ref 48, .int a1, .int a2] (n0, u0) none (nz, u0) := by
  refine fr_met (pad := List.replicate 3 none) (by decide) (Nat.le_of_ble_eq_true rfl) (fun _ h => List.eq_of_mem_replicate h) ⟨rfl, rfl⟩ (fun K F hG hL E => ?_)
  subst hG; subst hL
  rw [fX5_dealOut] at h
  show fr_V YX5_dealOut K 0 [some (.ref 48), some (.int a1), some (.int a2), none, none, none] [] (n0, u0)
  refine fr_aload_n (q := 1) F dX5_dealOut_0 rfl rfl ?_
  refine fr_iconst (q := 2) (v := 0) F dX5_dealOut_1 rfl (by decide) ?_
  obtain ⟨n13, hn14, h⟩ := fr_lt_some h
  refine fr_pfI (q := 5) (M' := (n13, u0)) F dX5_dealOut_2 rfl fpRX5_46 (by decide) rfl rfl (congrArg (fun z => (z, u0)) hn14) ?_
  refine fr_aload_n (q := 6) F dX5_dealOut_5 rfl rfl ?_
  refine fr_gfR (q := 9) (j := 11) F dX5_dealOut_6 rfl faRX5_15 (by decide) rfl rfl ?_
  refine fr_iload_n (q := 10) F dX5_dealOut_9 rfl rfl ?_
  obtain ⟨r15, hr16, h⟩ := fr_bd_some h
  refine fr_callV (q := 13) (M' := (n13, u0)) (rest := []) (st' := [.int r15]) F dX5_dealOut_10 rfl (tX3_servicesOf hr16) mlRX5_49 msX3_servicesOf ⟨Nat.le_of_ble_eq_true rfl, Nat.le_of_ble_eq_true rfl⟩ (by decide) rfl rfl rfl (Nat.le_of_ble_eq_true rfl) rfl ?_
  refine fr_iconst (q := 14) (v := 4) F dX5_dealOut_13 rfl (by decide) ?_
  refine fr_min (q := 17) F dX5_dealOut_14 rfl mlRX5_55 mm_min ⟨Nat.le_of_ble_eq_true rfl, Nat.le_of_ble_eq_true rfl⟩ ?_
  refine fr_istore_n (q := 18) F dX5_dealOut_17 rfl (by decide) rfl ?_
  refine fr_iconst (q := 19) (v := 0) F dX5_dealOut_18 rfl (by decide) ?_
  refine fr_istore (q := 21) F dX5_dealOut_19 rfl (by decide) rfl ?_
  exact fr_wj (tX5_dealOut_21 F E _ _ _ _ _ _ h) ⟨rfl, ⟨rfl, ⟨rfl, ⟨rfl, ⟨rfl, trivial⟩⟩⟩⟩⟩
/-! FeastRota$Rota.go (48, None, None) -/
def fX5_go_28 : Nat → Int32 → Int32 → Int32 → fr_N → Option fr_N
  | 0, _, _, _, _ => none
  | k + 1, x1, x2, x3, n0 => if x2 < x3 then some n0 else fr_bd (fX5_dealOut x1 x3 n0) fun n4 => ((fX5_go_28 k) x1 x2 (x3 + (1 : Int32)) n4)
def fX5_go (a1 : Int32) (a2 : Int32) (n0 : fr_N) : Option fr_N := fr_bd (fJ7_fill_53178_49 (0 : Int32) n0) fun n7 => (fr_bd (fJ7_fill_53178_50 (0 : Int32) n7) fun n10 => (fr_lt (fr_up n10 48 5 (0 : Int32)) fun n11 => (fr_lt (fr_up n11 48 6 (0 : Int32)) fun n13 => (fX5_go_28 2000 a1 a2 (1 : Int32) n13))))
theorem tX5_go_28 {K : fr_K} {u0 : fr_N} {nz : fr_N} (F : fr_F YX5_go K) (E : fr_R YX5_go K none (nz, u0)) : ∀ (k : Nat) (x1 : Int32) (x2 : Int32) (x3 : Int32) (n0 : fr_N), fX5_go_28 k x1 x2 x3 n0 = some nz → fr_V YX5_go K 28 [some (.ref 48), some (.int x1), some (.int x2), some (.int x3)] [] (n0, u0) := by
  intro k
  induction k with
  | zero =>
    intro x1 x2 x3 n0 h
    rw [fX5_go_28] at h
    cases h
  | succ k ih =>
    intro x1 x2 x3 n0 h
    rw [fX5_go_28] at h
    refine fr_iload_n (q := 29) F dX5_go_28 rfl rfl ?_
    refine fr_iload_n (q := 30) F dX5_go_29 rfl rfl ?_
    refine fr_icmp_gt (q := 33) (tgt := 45) F dX5_go_30 (by decide) rfl (fun hc1 => ?_) (fun hc1 => ?_)
    · rw [if_pos hc1] at h
      obtain rfl := Option.some.inj h
      exact fr_vret F E rfl dX5_go_45
    · rw [if_neg hc1] at h
      refine fr_aload_n (q := 34) F dX5_go_33 rfl rfl ?_
      refine fr_iload_n (q := 35) F dX5_go_34 rfl rfl ?_
      refine fr_iload_n (q := 36) F dX5_go_35 rfl rfl ?_
      obtain ⟨n4, hr3, h⟩ := fr_bd_some h
      refine fr_callV (q := 39) (M' := (n4, u0)) (rest := []) (st' := []) F dX5_go_36 rfl (tX5_dealOut hr3) mlRX5_42 msX5_dealOut ⟨Nat.le_of_ble_eq_true rfl, Nat.le_of_ble_eq_true rfl⟩ (by decide) rfl rfl rfl (Nat.le_of_ble_eq_true rfl) rfl ?_
      refine fr_iinc (q := 42) (v := (x3 + (1 : Int32))) F dX5_go_39 rfl rfl rfl (by decide) rfl ?_
      refine fr_goto (tgt := 28) F dX5_go_42 (by decide) ?_
      exact fr_wj (ih _ _ _ _ h) ⟨rfl, ⟨rfl, ⟨rfl, ⟨rfl, trivial⟩⟩⟩⟩
theorem tX5_go {l : Launch} {G : fr_G} {u0 : fr_N} {a1 : Int32} {a2 : Int32} {n0 : fr_N} {nz : fr_N} (h : fX5_go a1 a2 n0 = some nz) : fr_Met l G YX5_go [.ref 48, .int a1, .int a2] (n0, u0) none (nz, u0) := by
  refine fr_met (pad := List.replicate 1 none) (by decide) (Nat.le_of_ble_eq_true rfl) (fun _ h => List.eq_of_mem_replicate h) ⟨rfl, rfl⟩ (fun K F hG hL E => ?_)
  subst hG; subst hL
  rw [fX5_go] at h
  show fr_V YX5_go K 0 [some (.ref 48), some (.int a1), some (.int a2), none] [] (n0, u0)
  refine fr_aload_n (q := 1) F dX5_go_0 rfl rfl ?_
  refine fr_gfR (q := 4) (j := 49) F dX5_go_1 rfl faRX5_19 (by decide) rfl rfl ?_
  refine fr_iconst (q := 5) (v := 0) F dX5_go_4 rfl (by decide) ?_
  obtain ⟨n7, hr6, h⟩ := fr_bd_some h
  refine fr_callS (q := 8) (M' := (n7, u0)) (rest := []) (st' := []) F dX5_go_5 rfl (tJ7_fill_53178_49 hr6) mlRX5_29 msJ7_fill_53178 ⟨Nat.le_of_ble_eq_true rfl, Nat.le_of_ble_eq_true rfl⟩ rfl rfl (Nat.le_of_ble_eq_true rfl) rfl ?_
  refine fr_aload_n (q := 9) F dX5_go_8 rfl rfl ?_
  refine fr_gfR (q := 12) (j := 50) F dX5_go_9 rfl faRX5_23 (by decide) rfl rfl ?_
  refine fr_iconst (q := 13) (v := 0) F dX5_go_12 rfl (by decide) ?_
  obtain ⟨n10, hr9, h⟩ := fr_bd_some h
  refine fr_callS (q := 16) (M' := (n10, u0)) (rest := []) (st' := []) F dX5_go_13 rfl (tJ7_fill_53178_50 hr9) mlRX5_29 msJ7_fill_53178 ⟨Nat.le_of_ble_eq_true rfl, Nat.le_of_ble_eq_true rfl⟩ rfl rfl (Nat.le_of_ble_eq_true rfl) rfl ?_
  refine fr_aload_n (q := 17) F dX5_go_16 rfl rfl ?_
  refine fr_iconst (q := 18) (v := 0) F dX5_go_17 rfl (by decide) ?_
  obtain ⟨n11, hn12, h⟩ := fr_lt_some h
  refine fr_pfI (q := 21) (M' := (n11, u0)) F dX5_go_18 rfl fpRX5_35 (by decide) rfl rfl (congrArg (fun z => (z, u0)) hn12) ?_
  refine fr_aload_n (q := 22) F dX5_go_21 rfl rfl ?_
  refine fr_iconst (q := 23) (v := 0) F dX5_go_22 rfl (by decide) ?_
  obtain ⟨n13, hn14, h⟩ := fr_lt_some h
  refine fr_pfI (q := 26) (M' := (n13, u0)) F dX5_go_23 rfl fpRX5_39 (by decide) rfl rfl (congrArg (fun z => (z, u0)) hn14) ?_
  refine fr_iconst (q := 27) (v := 1) F dX5_go_26 rfl (by decide) ?_
  refine fr_istore_n (q := 28) F dX5_go_27 rfl (by decide) rfl ?_
  exact fr_wj (tX5_go_28 F E _ _ _ _ _ h) ⟨rfl, ⟨rfl, ⟨rfl, ⟨rfl, trivial⟩⟩⟩⟩
/-! FeastRota$Plan.servicesOfAllDays (11,) -/
def fX3_servicesOfAllDays_4 (n0 : fr_N) : Nat → Int32 → Int32 → Option Int32
  | 0, _, _ => none
  | k + 1, x1, x2 => if (n0 12 0) < x2 then some x1 else fr_bd (fX3_servicesOf x2 n0) fun r2 => ((fX3_servicesOfAllDays_4 n0 k) (x1 + r2) (x2 + (1 : Int32)))
def fX3_servicesOfAllDays (n0 : fr_N) : Option Int32 := fX3_servicesOfAllDays_4 n0 2000 (0 : Int32) (1 : Int32)
theorem tX3_servicesOfAllDays_4 {K : fr_K} {u0 : fr_N} {n0 : fr_N} {rz : Int32} (F : fr_F YX3_servicesOfAllDays K) (E : fr_R YX3_servicesOfAllDays K (some (.int rz)) (n0, u0)) : ∀ (k : Nat) (x1 : Int32) (x2 : Int32), fX3_servicesOfAllDays_4 n0 k x1 x2 = some rz → fr_V YX3_servicesOfAllDays K 4 [some (.ref 11), some (.int x1), some (.int x2)] [] (n0, u0) := by
  intro k
  induction k with
  | zero =>
    intro x1 x2 h
    rw [fX3_servicesOfAllDays_4] at h
    cases h
  | succ k ih =>
    intro x1 x2 h
    rw [fX3_servicesOfAllDays_4] at h
    refine fr_iload_n (q := 5) F dX3_servicesOfAllDays_4 rfl rfl ?_
    refine fr_aload_n (q := 6) F dX3_servicesOfAllDays_5 rfl rfl ?_
    refine fr_gfR (q := 9) (j := 12) F dX3_servicesOfAllDays_6 rfl faRX3_15 (by decide) rfl rfl ?_
    refine fr_gfI (q := 12) (x := (n0 12 0)) F dX3_servicesOfAllDays_9 rfl faRX3_80 (by decide) rfl rfl rfl ?_
    refine fr_icmp_gt (q := 15) (tgt := 29) F dX3_servicesOfAllDays_12 (by decide) rfl (fun hc1 => ?_) (fun hc1 => ?_)
    · rw [if_pos hc1] at h
      refine fr_iload_n (q := 30) F dX3_servicesOfAllDays_29 rfl rfl ?_
      obtain rfl := Option.some.inj h
      exact fr_iret F E rfl dX3_servicesOfAllDays_30
    · rw [if_neg hc1] at h
      refine fr_iload_n (q := 16) F dX3_servicesOfAllDays_15 rfl rfl ?_
      refine fr_aload_n (q := 17) F dX3_servicesOfAllDays_16 rfl rfl ?_
      refine fr_iload_n (q := 18) F dX3_servicesOfAllDays_17 rfl rfl ?_
      obtain ⟨r2, hr3, h⟩ := fr_bd_some h
      refine fr_callV (q := 21) (M' := (n0, u0)) (rest := [.int x1]) (st' := [.int r2, .int x1]) F dX3_servicesOfAllDays_18 rfl (tX3_servicesOf hr3) mlRX3_125 msX3_servicesOf ⟨Nat.le_of_ble_eq_true rfl, Nat.le_of_ble_eq_true rfl⟩ (by decide) rfl rfl rfl (Nat.le_of_ble_eq_true rfl) rfl ?_
      refine fr_iadd (q := 22) F dX3_servicesOfAllDays_21 rfl ?_
      refine fr_istore_n (q := 23) F dX3_servicesOfAllDays_22 rfl (by decide) rfl ?_
      refine fr_iinc (q := 26) (v := (x2 + (1 : Int32))) F dX3_servicesOfAllDays_23 rfl rfl rfl (by decide) rfl ?_
      refine fr_goto (tgt := 4) F dX3_servicesOfAllDays_26 (by decide) ?_
      exact fr_wj (ih _ _ h) ⟨rfl, ⟨rfl, ⟨rfl, trivial⟩⟩⟩
theorem tX3_servicesOfAllDays {l : Launch} {G : fr_G} {u0 : fr_N} {n0 : fr_N} {rz : Int32} (h : fX3_servicesOfAllDays n0 = some rz) : fr_Met l G YX3_servicesOfAllDays [.ref 11] (n0, u0) (some (.int rz)) (n0, u0) := by
  refine fr_met (pad := List.replicate 2 none) (by decide) (Nat.le_of_ble_eq_true rfl) (fun _ h => List.eq_of_mem_replicate h) ⟨rfl, rfl⟩ (fun K F hG hL E => ?_)
  subst hG; subst hL
  rw [fX3_servicesOfAllDays] at h
  show fr_V YX3_servicesOfAllDays K 0 [some (.ref 11), none, none] [] (n0, u0)
  refine fr_iconst (q := 1) (v := 0) F dX3_servicesOfAllDays_0 rfl (by decide) ?_
  refine fr_istore_n (q := 2) F dX3_servicesOfAllDays_1 rfl (by decide) rfl ?_
  refine fr_iconst (q := 3) (v := 1) F dX3_servicesOfAllDays_2 rfl (by decide) ?_
  refine fr_istore_n (q := 4) F dX3_servicesOfAllDays_3 rfl (by decide) rfl ?_
  exact fr_wj (tX3_servicesOfAllDays_4 F E _ _ _ h) ⟨rfl, ⟨rfl, ⟨rfl, trivial⟩⟩⟩
/-! FeastRota$Plan.howMany (11, None) -/
def fX3_howMany_4 (n0 : fr_N) : Nat → Int32 → Int32 → Int32 → Option Int32
  | 0, _, _, _ => none
  | k + 1, x1, x2, x3 => if (n0 3 1) ≤ x3 then some x2 else fr_ck x3 12 (if (n0 14 (Int32.toNatClampNeg x3)) = x1 then (fX3_howMany_4 n0 k) x1 (x2 + (1 : Int32)) (x3 + (1 : Int32)) else (fX3_howMany_4 n0 k) x1 (x2 + (0 : Int32)) (x3 + (1 : Int32)))
def fX3_howMany (a1 : Int32) (n0 : fr_N) : Option Int32 := fX3_howMany_4 n0 2000 a1 (0 : Int32) (0 : Int32)
theorem tX3_howMany_4 {K : fr_K} {u0 : fr_N} {n0 : fr_N} {rz : Int32} (F : fr_F YX3_howMany K) (E : fr_R YX3_howMany K (some (.int rz)) (n0, u0)) : ∀ (k : Nat) (x1 : Int32) (x2 : Int32) (x3 : Int32), fX3_howMany_4 n0 k x1 x2 x3 = some rz → fr_V YX3_howMany K 4 [some (.ref 11), some (.int x1), some (.int x2), some (.int x3)] [] (n0, u0) := by
  intro k
  induction k with
  | zero =>
    intro x1 x2 x3 h
    rw [fX3_howMany_4] at h
    cases h
  | succ k ih =>
    intro x1 x2 x3 h
    rw [fX3_howMany_4] at h
    refine fr_iload_n (q := 5) F dX3_howMany_4 rfl rfl ?_
    refine fr_aload_n (q := 6) F dX3_howMany_5 rfl rfl ?_
    refine fr_gfR (q := 9) (j := 3) F dX3_howMany_6 rfl faRX3_9 (by decide) rfl rfl ?_
    refine fr_gfI (q := 12) (x := (n0 3 1)) F dX3_howMany_9 rfl faRX3_44 (by decide) rfl rfl rfl ?_
    refine fr_icmp_ge (q := 15) (tgt := 39) F dX3_howMany_12 (by decide) rfl (fun hc1 => ?_) (fun hc1 => ?_)
    · rw [if_pos hc1] at h
      refine fr_iload_n (q := 40) F dX3_howMany_39 rfl rfl ?_
      obtain rfl := Option.some.inj h
      exact fr_iret F E rfl dX3_howMany_40
    · rw [if_neg hc1] at h
      refine fr_iload_n (q := 16) F dX3_howMany_15 rfl rfl ?_
      refine fr_aload_n (q := 17) F dX3_howMany_16 rfl rfl ?_
      refine fr_gfR (q := 20) (j := 14) F dX3_howMany_17 rfl faRX3_23 (by decide) rfl rfl ?_
      refine fr_iload_n (q := 21) F dX3_howMany_20 rfl rfl ?_
      obtain ⟨hi2, h⟩ := fr_ck_some h
      refine fr_ial (q := 22) (x := (n0 14 (Int32.toNatClampNeg x3))) F dX3_howMany_21 rfl hi2 (by decide) rfl rfl ?_
      refine fr_iload_n (q := 23) F dX3_howMany_22 rfl rfl ?_
      refine fr_icmp_ne (q := 26) (tgt := 30) F dX3_howMany_23 (by decide) rfl (fun hc3 => ?_) (fun hc3 => ?_)
      · rw [if_neg hc3] at h
        refine fr_iconst (q := 31) (v := 0) F dX3_howMany_30 rfl (by decide) ?_
        refine fr_iadd (q := 32) F dX3_howMany_31 rfl ?_
        refine fr_istore_n (q := 33) F dX3_howMany_32 rfl (by decide) rfl ?_
        refine fr_iinc (q := 36) (v := (x3 + (1 : Int32))) F dX3_howMany_33 rfl rfl rfl (by decide) rfl ?_
        refine fr_goto (tgt := 4) F dX3_howMany_36 (by decide) ?_
        exact fr_wj (ih _ _ _ h) ⟨rfl, ⟨rfl, ⟨rfl, ⟨rfl, trivial⟩⟩⟩⟩
      · rw [if_pos hc3] at h
        refine fr_iconst (q := 27) (v := 1) F dX3_howMany_26 rfl (by decide) ?_
        refine fr_goto (tgt := 31) F dX3_howMany_27 (by decide) ?_
        refine fr_iadd (q := 32) F dX3_howMany_31 rfl ?_
        refine fr_istore_n (q := 33) F dX3_howMany_32 rfl (by decide) rfl ?_
        refine fr_iinc (q := 36) (v := (x3 + (1 : Int32))) F dX3_howMany_33 rfl rfl rfl (by decide) rfl ?_
        refine fr_goto (tgt := 4) F dX3_howMany_36 (by decide) ?_
        exact fr_wj (ih _ _ _ h) ⟨rfl, ⟨rfl, ⟨rfl, ⟨rfl, trivial⟩⟩⟩⟩
theorem tX3_howMany {l : Launch} {G : fr_G} {u0 : fr_N} {a1 : Int32} {n0 : fr_N} {rz : Int32} (h : fX3_howMany a1 n0 = some rz) : fr_Met l G YX3_howMany [.ref 11, .int a1] (n0, u0) (some (.int rz)) (n0, u0) := by
  refine fr_met (pad := List.replicate 2 none) (by decide) (Nat.le_of_ble_eq_true rfl) (fun _ h => List.eq_of_mem_replicate h) ⟨rfl, rfl⟩ (fun K F hG hL E => ?_)
  subst hG; subst hL
  rw [fX3_howMany] at h
  show fr_V YX3_howMany K 0 [some (.ref 11), some (.int a1), none, none] [] (n0, u0)
  refine fr_iconst (q := 1) (v := 0) F dX3_howMany_0 rfl (by decide) ?_
  refine fr_istore_n (q := 2) F dX3_howMany_1 rfl (by decide) rfl ?_
  refine fr_iconst (q := 3) (v := 0) F dX3_howMany_2 rfl (by decide) ?_
  refine fr_istore_n (q := 4) F dX3_howMany_3 rfl (by decide) rfl ?_
  exact fr_wj (tX3_howMany_4 F E _ _ _ _ h) ⟨rfl, ⟨rfl, ⟨rfl, ⟨rfl, trivial⟩⟩⟩⟩
/-! FeastRota$Calendar.sundays (12,) -/
def fX2_sundays (n0 : fr_N) : Option Int32 := fr_bd (fX2_sundayFrom (1 : Int32) n0) fun r1 => (some ((((n0 12 0) - r1) / (7 : Int32)) + (1 : Int32)))
theorem tX2_sundays {l : Launch} {G : fr_G} {u0 : fr_N} {n0 : fr_N} {rz : Int32} (h : fX2_sundays n0 = some rz) : fr_Met l G YX2_sundays [.ref 12] (n0, u0) (some (.int rz)) (n0, u0) := by
  refine fr_met (pad := List.replicate 0 none) (by decide) (Nat.le_of_ble_eq_true rfl) (fun _ h => List.eq_of_mem_replicate h) ⟨rfl, rfl⟩ (fun K F hG hL E => ?_)
  subst hG; subst hL
  rw [fX2_sundays] at h
  show fr_V YX2_sundays K 0 [some (.ref 12)] [] (n0, u0)
  refine fr_aload_n (q := 1) F dX2_sundays_0 rfl rfl ?_
  refine fr_gfI (q := 4) (x := (n0 12 0)) F dX2_sundays_1 rfl faRX2_21 (by decide) rfl rfl rfl ?_
  refine fr_aload_n (q := 5) F dX2_sundays_4 rfl rfl ?_
  refine fr_iconst (q := 6) (v := 1) F dX2_sundays_5 rfl (by decide) ?_
  obtain ⟨r1, hr2, h⟩ := fr_bd_some h
  refine fr_callV (q := 9) (M' := (n0, u0)) (rest := [.int (n0 12 0)]) (st' := [.int r1, .int (n0 12 0)]) F dX2_sundays_6 rfl (tX2_sundayFrom hr2) mlRX2_38 msX2_sundayFrom ⟨Nat.le_of_ble_eq_true rfl, Nat.le_of_ble_eq_true rfl⟩ (by decide) rfl rfl rfl (Nat.le_of_ble_eq_true rfl) rfl ?_
  refine fr_isub (q := 10) F dX2_sundays_9 rfl ?_
  refine fr_bipush (q := 12) (v := 7) F dX2_sundays_10 rfl (by decide) ?_
  refine fr_idiv (q := 13) F dX2_sundays_12 rfl (by decide) ?_
  refine fr_iconst (q := 14) (v := 1) F dX2_sundays_13 rfl (by decide) ?_
  refine fr_iadd (q := 15) F dX2_sundays_14 rfl ?_
  obtain rfl := Option.some.inj h
  exact fr_iret F E rfl dX2_sundays_15
/-! FeastRota.year (0, None, None) -/
def fX7_year (a1 : Int32) (a2 : Int32) (n0 : fr_N) : Option (Int32 × fr_N) := if (n0 3 0) = 0 then some ((-1000002 : Int32), n0) else fr_bd (fX7_isYear a1) fun r2 => (if r2 = true then fr_bd (fX7_within a2 (0 : Int32) (8 : Int32)) fun r5 => (if r5 = true then fr_bd (fX3_lay a1 (-1 : Int32) n0) fun n10 => (if a2 = (0 : Int32) then some ((n10 12 0), n10) else (if a2 = (1 : Int32) then some ((n10 12 1), n10) else (if a2 = (2 : Int32) then some ((n10 12 2), n10) else (if a2 = (3 : Int32) then some ((n10 12 3), n10) else (if a2 = (4 : Int32) then fr_bd (fX2_sundays n10) fun r16 => (some (r16, n10)) else (if a2 = (5 : Int32) then fr_bd (fX3_howMany (1 : Int32) n10) fun r19 => (fr_bd (fX3_howMany (2 : Int32) n10) fun r21 => (some ((r19 + r21), n10))) else (if a2 = (6 : Int32) then fr_bd (fX3_howMany (3 : Int32) n10) fun r24 => (some (r24, n10)) else (if a2 = (7 : Int32) then fr_bd (fX3_servicesOfAllDays n10) fun r27 => (some (r27, n10)) else (fr_bd (fX5_go (n10 4 5) (n10 12 0) n10) fun n31 => (some ((n31 48 6), n31))))))))))) else some ((-1000001 : Int32), n0)) else some ((-1000001 : Int32), n0))
theorem tX7_year {l : Launch} {G : fr_G} {u0 : fr_N} {a1 : Int32} {a2 : Int32} {n0 : fr_N} {rz : Int32} {nz : fr_N} (h : fX7_year a1 a2 n0 = some (rz, nz)) : fr_Met l G YX7_year [.ref 0, .int a1, .int a2] (n0, u0) (some (.int rz)) (nz, u0) := by
  refine fr_met (pad := List.replicate 1 none) (by decide) (Nat.le_of_ble_eq_true rfl) (fun _ h => List.eq_of_mem_replicate h) ⟨rfl, rfl⟩ (fun K F hG hL E => ?_)
  subst hG; subst hL
  rw [fX7_year] at h
  show fr_V YX7_year K 0 [some (.ref 0), some (.int a1), some (.int a2), none] [] (n0, u0)
  refine fr_aload_n (q := 1) F dX7_year_0 rfl rfl ?_
  refine fr_gfR (q := 4) (j := 3) F dX7_year_1 rfl faRX7_36 (by decide) rfl rfl ?_
  refine fr_gfI (q := 7) (x := (n0 3 0)) F dX7_year_4 rfl faRX7_128 (by decide) rfl rfl rfl ?_
  refine fr_if_ne (q := 10) (tgt := 13) F dX7_year_7 (by decide) rfl (fun hc1 => ?_) (fun hc1 => ?_)
  · rw [if_neg hc1] at h
    refine fr_iload_n (q := 14) F dX7_year_13 rfl rfl ?_
    obtain ⟨r2, hr3, h⟩ := fr_bd_some h
    refine fr_callS (q := 17) (M' := (n0, u0)) (rest := []) (st' := [.int (fr_b r2)]) F dX7_year_14 rfl (tX7_isYear hr3) mlRX7_153 msX7_isYear ⟨Nat.le_of_ble_eq_true rfl, Nat.le_of_ble_eq_true rfl⟩ rfl rfl (Nat.le_of_ble_eq_true rfl) rfl ?_
    refine fr_if_eqb (q := 20) (tgt := 30) F dX7_year_17 (by decide) rfl (fun hc4 => ?_) (fun hc4 => ?_)
    · rw [if_neg hc4] at h
      refine fr_ldc (q := 32) F dX7_year_30 rfl kcRX7_72 ?_
      obtain ⟨rfl, rfl⟩ := Prod.mk.inj (Option.some.inj h)
      exact fr_iret F E rfl dX7_year_32
    · rw [if_pos hc4] at h
      refine fr_iload_n (q := 21) F dX7_year_20 rfl rfl ?_
      refine fr_iconst (q := 22) (v := 0) F dX7_year_21 rfl (by decide) ?_
      refine fr_bipush (q := 24) (v := 8) F dX7_year_22 rfl (by decide) ?_
      obtain ⟨r5, hr6, h⟩ := fr_bd_some h
      refine fr_callS (q := 27) (M' := (n0, u0)) (rest := []) (st' := [.int (fr_b r5)]) F dX7_year_24 rfl (tX7_within hr6) mlRX7_68 msX7_within ⟨Nat.le_of_ble_eq_true rfl, Nat.le_of_ble_eq_true rfl⟩ rfl rfl (Nat.le_of_ble_eq_true rfl) rfl ?_
      refine fr_if_neb (q := 30) (tgt := 33) F dX7_year_27 (by decide) rfl (fun hc7 => ?_) (fun hc7 => ?_)
      · rw [if_pos hc7] at h
        refine fr_aload_n (q := 34) F dX7_year_33 rfl rfl ?_
        refine fr_gfR (q := 37) (j := 11) F dX7_year_34 rfl faRX7_51 (by decide) rfl rfl ?_
        refine fr_iload_n (q := 38) F dX7_year_37 rfl rfl ?_
        refine fr_iconst (q := 39) (v := (-1)) F dX7_year_38 rfl (by decide) ?_
        obtain ⟨n10, hr9, h⟩ := fr_bd_some h
        refine fr_callV (q := 42) (M' := (n10, u0)) (rest := []) (st' := []) F dX7_year_39 rfl (tX3_lay hr9) mlRX7_156 msX3_lay ⟨Nat.le_of_ble_eq_true rfl, Nat.le_of_ble_eq_true rfl⟩ (by decide) rfl rfl rfl (Nat.le_of_ble_eq_true rfl) rfl ?_
        refine fr_aload_n (q := 43) F dX7_year_42 rfl rfl ?_
        refine fr_gfR (q := 46) (j := 11) F dX7_year_43 rfl faRX7_51 (by decide) rfl rfl ?_
        refine fr_gfR (q := 49) (j := 12) F dX7_year_46 rfl faRX7_160 (by decide) rfl rfl ?_
        refine fr_astore_n (q := 50) F dX7_year_49 rfl (by decide) rfl ?_
        refine fr_iload_n (q := 51) F dX7_year_50 rfl rfl ?_
        by_cases hc11 : a2 = (0 : Int32)
        · rw [if_pos hc11] at h
          refine fr_tswI (k := 0) (off := 45) (tgt := 96) F hc11 dX7_year_51 (by decide) (by decide) (by decide) (by decide) ?_
          refine fr_aload_n (q := 97) F dX7_year_96 rfl rfl ?_
          refine fr_gfI (q := 100) (x := (n10 12 0)) F dX7_year_97 rfl faRX7_164 (by decide) rfl rfl rfl ?_
          obtain ⟨rfl, rfl⟩ := Prod.mk.inj (Option.some.inj h)
          exact fr_iret F E rfl dX7_year_100
        · rw [if_neg hc11] at h
          by_cases hc12 : a2 = (1 : Int32)
          · rw [if_pos hc12] at h
            refine fr_tswI (k := 1) (off := 50) (tgt := 101) F hc12 dX7_year_51 (by decide) (by decide) (by decide) (by decide) ?_
            refine fr_aload_n (q := 102) F dX7_year_101 rfl rfl ?_
            refine fr_gfI (q := 105) (x := (n10 12 1)) F dX7_year_102 rfl faRX7_167 (by decide) rfl rfl rfl ?_
            obtain ⟨rfl, rfl⟩ := Prod.mk.inj (Option.some.inj h)
            exact fr_iret F E rfl dX7_year_105
          · rw [if_neg hc12] at h
            by_cases hc13 : a2 = (2 : Int32)
            · rw [if_pos hc13] at h
              refine fr_tswI (k := 2) (off := 55) (tgt := 106) F hc13 dX7_year_51 (by decide) (by decide) (by decide) (by decide) ?_
              refine fr_aload_n (q := 107) F dX7_year_106 rfl rfl ?_
              refine fr_gfI (q := 110) (x := (n10 12 2)) F dX7_year_107 rfl faRX7_170 (by decide) rfl rfl rfl ?_
              obtain ⟨rfl, rfl⟩ := Prod.mk.inj (Option.some.inj h)
              exact fr_iret F E rfl dX7_year_110
            · rw [if_neg hc13] at h
              by_cases hc14 : a2 = (3 : Int32)
              · rw [if_pos hc14] at h
                refine fr_tswI (k := 3) (off := 60) (tgt := 111) F hc14 dX7_year_51 (by decide) (by decide) (by decide) (by decide) ?_
                refine fr_aload_n (q := 112) F dX7_year_111 rfl rfl ?_
                refine fr_gfI (q := 115) (x := (n10 12 3)) F dX7_year_112 rfl faRX7_173 (by decide) rfl rfl rfl ?_
                obtain ⟨rfl, rfl⟩ := Prod.mk.inj (Option.some.inj h)
                exact fr_iret F E rfl dX7_year_115
              · rw [if_neg hc14] at h
                by_cases hc15 : a2 = (4 : Int32)
                · rw [if_pos hc15] at h
                  refine fr_tswI (k := 4) (off := 65) (tgt := 116) F hc15 dX7_year_51 (by decide) (by decide) (by decide) (by decide) ?_
                  refine fr_aload_n (q := 117) F dX7_year_116 rfl rfl ?_
                  obtain ⟨r16, hr17, h⟩ := fr_bd_some h
                  refine fr_callV (q := 120) (M' := (n10, u0)) (rest := []) (st' := [.int r16]) F dX7_year_117 rfl (tX2_sundays hr17) mlRX7_176 msX2_sundays ⟨Nat.le_of_ble_eq_true rfl, Nat.le_of_ble_eq_true rfl⟩ (by decide) rfl rfl rfl (Nat.le_of_ble_eq_true rfl) rfl ?_
                  obtain ⟨rfl, rfl⟩ := Prod.mk.inj (Option.some.inj h)
                  exact fr_iret F E rfl dX7_year_120
                · rw [if_neg hc15] at h
                  by_cases hc18 : a2 = (5 : Int32)
                  · rw [if_pos hc18] at h
                    refine fr_tswI (k := 5) (off := 70) (tgt := 121) F hc18 dX7_year_51 (by decide) (by decide) (by decide) (by decide) ?_
                    refine fr_aload_n (q := 122) F dX7_year_121 rfl rfl ?_
                    refine fr_gfR (q := 125) (j := 11) F dX7_year_122 rfl faRX7_51 (by decide) rfl rfl ?_
                    refine fr_iconst (q := 126) (v := 1) F dX7_year_125 rfl (by decide) ?_
                    obtain ⟨r19, hr20, h⟩ := fr_bd_some h
                    refine fr_callV (q := 129) (M' := (n10, u0)) (rest := []) (st' := [.int r19]) F dX7_year_126 rfl (tX3_howMany hr20) mlRX7_180 msX3_howMany ⟨Nat.le_of_ble_eq_true rfl, Nat.le_of_ble_eq_true rfl⟩ (by decide) rfl rfl rfl (Nat.le_of_ble_eq_true rfl) rfl ?_
                    refine fr_aload_n (q := 130) F dX7_year_129 rfl rfl ?_
                    refine fr_gfR (q := 133) (j := 11) F dX7_year_130 rfl faRX7_51 (by decide) rfl rfl ?_
                    refine fr_iconst (q := 134) (v := 2) F dX7_year_133 rfl (by decide) ?_
                    obtain ⟨r21, hr22, h⟩ := fr_bd_some h
                    refine fr_callV (q := 137) (M' := (n10, u0)) (rest := [.int r19]) (st' := [.int r21, .int r19]) F dX7_year_134 rfl (tX3_howMany hr22) mlRX7_180 msX3_howMany ⟨Nat.le_of_ble_eq_true rfl, Nat.le_of_ble_eq_true rfl⟩ (by decide) rfl rfl rfl (Nat.le_of_ble_eq_true rfl) rfl ?_
                    refine fr_iadd (q := 138) F dX7_year_137 rfl ?_
                    obtain ⟨rfl, rfl⟩ := Prod.mk.inj (Option.some.inj h)
                    exact fr_iret F E rfl dX7_year_138
                  · rw [if_neg hc18] at h
                    by_cases hc23 : a2 = (6 : Int32)
                    · rw [if_pos hc23] at h
                      refine fr_tswI (k := 6) (off := 88) (tgt := 139) F hc23 dX7_year_51 (by decide) (by decide) (by decide) (by decide) ?_
                      refine fr_aload_n (q := 140) F dX7_year_139 rfl rfl ?_
                      refine fr_gfR (q := 143) (j := 11) F dX7_year_140 rfl faRX7_51 (by decide) rfl rfl ?_
                      refine fr_iconst (q := 144) (v := 3) F dX7_year_143 rfl (by decide) ?_
                      obtain ⟨r24, hr25, h⟩ := fr_bd_some h
                      refine fr_callV (q := 147) (M' := (n10, u0)) (rest := []) (st' := [.int r24]) F dX7_year_144 rfl (tX3_howMany hr25) mlRX7_180 msX3_howMany ⟨Nat.le_of_ble_eq_true rfl, Nat.le_of_ble_eq_true rfl⟩ (by decide) rfl rfl rfl (Nat.le_of_ble_eq_true rfl) rfl ?_
                      obtain ⟨rfl, rfl⟩ := Prod.mk.inj (Option.some.inj h)
                      exact fr_iret F E rfl dX7_year_147
                    · rw [if_neg hc23] at h
                      by_cases hc26 : a2 = (7 : Int32)
                      · rw [if_pos hc26] at h
                        refine fr_tswI (k := 7) (off := 97) (tgt := 148) F hc26 dX7_year_51 (by decide) (by decide) (by decide) (by decide) ?_
                        refine fr_aload_n (q := 149) F dX7_year_148 rfl rfl ?_
                        refine fr_gfR (q := 152) (j := 11) F dX7_year_149 rfl faRX7_51 (by decide) rfl rfl ?_
                        obtain ⟨r27, hr28, h⟩ := fr_bd_some h
                        refine fr_callV (q := 155) (M' := (n10, u0)) (rest := []) (st' := [.int r27]) F dX7_year_152 rfl (tX3_servicesOfAllDays hr28) mlRX7_184 msX3_servicesOfAllDays ⟨Nat.le_of_ble_eq_true rfl, Nat.le_of_ble_eq_true rfl⟩ (by decide) rfl rfl rfl (Nat.le_of_ble_eq_true rfl) rfl ?_
                        obtain ⟨rfl, rfl⟩ := Prod.mk.inj (Option.some.inj h)
                        exact fr_iret F E rfl dX7_year_155
                      · rw [if_neg hc26] at h
                        refine fr_tswO (tgt := 156) F dX7_year_51 (fr_out (n := 7) (by decide) (fun k hk => match k, hk with | 0, _ => hc11 | 1, _ => hc12 | 2, _ => hc13 | 3, _ => hc14 | 4, _ => hc15 | 5, _ => hc18 | 6, _ => hc23 | 7, _ => hc26 | k + 8, hk => absurd hk (by omega))) (by decide) ?_
                        refine fr_aload_n (q := 157) F dX7_year_156 rfl rfl ?_
                        refine fr_gfR (q := 160) (j := 48) F dX7_year_157 rfl faRX7_60 (by decide) rfl rfl ?_
                        refine fr_aload_n (q := 161) F dX7_year_160 rfl rfl ?_
                        refine fr_gfR (q := 164) (j := 3) F dX7_year_161 rfl faRX7_36 (by decide) rfl rfl ?_
                        refine fr_gfR (q := 167) (j := 4) F dX7_year_164 rfl faRX7_141 (by decide) rfl rfl ?_
                        refine fr_iconst (q := 168) (v := 5) F dX7_year_167 rfl (by decide) ?_
                        refine fr_ial (q := 169) (x := (n10 4 5)) F dX7_year_168 rfl (fr_vin rfl) (by decide) rfl rfl ?_
                        refine fr_aload_n (q := 170) F dX7_year_169 rfl rfl ?_
                        refine fr_gfI (q := 173) (x := (n10 12 0)) F dX7_year_170 rfl faRX7_164 (by decide) rfl rfl rfl ?_
                        obtain ⟨n31, hr30, h⟩ := fr_bd_some h
                        refine fr_callV (q := 176) (M' := (n31, u0)) (rest := []) (st' := []) F dX7_year_173 rfl (tX5_go hr30) mlRX7_187 msX5_go ⟨Nat.le_of_ble_eq_true rfl, Nat.le_of_ble_eq_true rfl⟩ (by decide) rfl rfl rfl (Nat.le_of_ble_eq_true rfl) rfl ?_
                        refine fr_aload_n (q := 177) F dX7_year_176 rfl rfl ?_
                        refine fr_gfR (q := 180) (j := 48) F dX7_year_177 rfl faRX7_60 (by decide) rfl rfl ?_
                        refine fr_gfI (q := 183) (x := (n31 48 6)) F dX7_year_180 rfl faRX7_190 (by decide) rfl rfl rfl ?_
                        obtain ⟨rfl, rfl⟩ := Prod.mk.inj (Option.some.inj h)
                        exact fr_iret F E rfl dX7_year_183
      · rw [if_neg hc7] at h
        refine fr_ldc (q := 32) F dX7_year_30 rfl kcRX7_72 ?_
        obtain ⟨rfl, rfl⟩ := Prod.mk.inj (Option.some.inj h)
        exact fr_iret F E rfl dX7_year_32
  · rw [if_pos hc1] at h
    refine fr_ldc (q := 12) F dX7_year_10 rfl kcRX7_105 ?_
    obtain ⟨rfl, rfl⟩ := Prod.mk.inj (Option.some.inj h)
    exact fr_iret F E rfl dX7_year_12
/-! FeastRotaModel.isYear (None,) -/
def fX8_isYear (a0 : Int32) : Option Bool := fr_bd (fX8_in (Int32.toInt64 a0) (1 : Int64) (999 : Int64)) fun r1 => (some r1)
theorem tX8_isYear {l : Launch} {G : fr_G} {M0 : fr_M} {a0 : Int32} {rz : Bool} (h : fX8_isYear a0 = some rz) : fr_Met l G YX8_isYear [.int a0] M0 (some (.int (fr_b rz))) M0 := by
  refine fr_met (pad := List.replicate 0 none) (by decide) (Nat.le_of_ble_eq_true rfl) (fun _ h => List.eq_of_mem_replicate h) ⟨rfl, rfl⟩ (fun K F hG hL E => ?_)
  subst hG; subst hL
  rw [fX8_isYear] at h
  show fr_V YX8_isYear K 0 [some (.int a0)] [] M0
  refine fr_iload_n (q := 1) F dX8_isYear_0 rfl rfl ?_
  refine fr_i2l (q := 2) F dX8_isYear_1 rfl ?_
  refine fr_lconst (q := 3) (v := 1) F dX8_isYear_2 rfl (by decide) ?_
  refine fr_ldc2 (q := 6) F dX8_isYear_3 rfl klRX8_53 ?_
  obtain ⟨r1, hr2, h⟩ := fr_bd_some h
  refine fr_callS (q := 9) (M' := M0) (rest := []) (st' := [.int (fr_b r1)]) F dX8_isYear_6 rfl (tX8_in hr2) mlRX8_55 msX8_in ⟨Nat.le_of_ble_eq_true rfl, Nat.le_of_ble_eq_true rfl⟩ rfl rfl (Nat.le_of_ble_eq_true rfl) rfl ?_
  obtain rfl := Option.some.inj h
  exact fr_zret F E rfl dX8_isYear_9
/-! FeastRotaModel.isLeap (52, None) -/
def fX8_isLeap_39 (n0 : fr_N) (x1 : Int32) : Option Bool := if (fr_rem x1 (400 : Int32)) = 0 then some true else some false
def fX8_isLeap_16 (n0 : fr_N) (x1 : Int32) : Option Bool := if (n0 1 0) = (2 : Int32) then if (fr_rem x1 (4 : Int32)) = 0 then if (fr_rem x1 (100 : Int32)) = 0 then fX8_isLeap_39 n0 x1 else some true else fX8_isLeap_39 n0 x1 else some false
def fX8_isLeap (a1 : Int32) (n0 : fr_N) : Option Bool := if (n0 1 0) = (1 : Int32) then if (fr_rem a1 (4 : Int32)) = 0 then some true else fX8_isLeap_16 n0 a1 else fX8_isLeap_16 n0 a1
theorem tX8_isLeap_39 {K : fr_K} {u0 : fr_N} {n0 : fr_N} {rz : Bool} (F : fr_F YX8_isLeap K) (E : fr_R YX8_isLeap K (some (.int (fr_b rz))) (u0, n0)) {x1 : Int32} (h : fX8_isLeap_39 n0 x1 = some rz) : fr_V YX8_isLeap K 39 [none, some (.int x1)] [] (u0, n0) := by
  rw [fX8_isLeap_39] at h
  refine fr_iload_n (q := 40) F dX8_isLeap_39 rfl rfl ?_
  refine fr_sipush (q := 43) (v := 400) F dX8_isLeap_40 rfl (by decide) ?_
  refine fr_irem (q := 44) F dX8_isLeap_43 rfl (by decide) ?_
  refine fr_if_ne (q := 47) (tgt := 51) F dX8_isLeap_44 (by decide) rfl (fun hc1 => ?_) (fun hc1 => ?_)
  · rw [if_neg hc1] at h
    refine fr_iconst (q := 52) (v := 0) F dX8_isLeap_51 rfl (by decide) ?_
    obtain rfl := Option.some.inj h
    exact fr_zret F E rfl dX8_isLeap_52
  · rw [if_pos hc1] at h
    refine fr_iconst (q := 48) (v := 1) F dX8_isLeap_47 rfl (by decide) ?_
    refine fr_goto (tgt := 52) F dX8_isLeap_48 (by decide) ?_
    obtain rfl := Option.some.inj h
    exact fr_zret F E rfl dX8_isLeap_52
theorem tX8_isLeap_16 {K : fr_K} {u0 : fr_N} {n0 : fr_N} {rz : Bool} (F : fr_F YX8_isLeap K) (E : fr_R YX8_isLeap K (some (.int (fr_b rz))) (u0, n0)) {x1 : Int32} (h : fX8_isLeap_16 n0 x1 = some rz) : fr_V YX8_isLeap K 16 [some (.ref 52), some (.int x1)] [] (u0, n0) := by
  rw [fX8_isLeap_16] at h
  refine fr_aload_n (q := 17) F dX8_isLeap_16 rfl rfl ?_
  refine fr_gfR (q := 20) (j := 53) F dX8_isLeap_17 rfl faRX8_7 (by decide) rfl rfl ?_
  refine fr_iconst (q := 21) (v := 0) F dX8_isLeap_20 rfl (by decide) ?_
  refine fr_ial (q := 22) (x := (n0 1 0)) F dX8_isLeap_21 rfl (fr_vin rfl) (by decide) rfl rfl ?_
  refine fr_iconst (q := 23) (v := 2) F dX8_isLeap_22 rfl (by decide) ?_
  refine fr_icmp_ne (q := 26) (tgt := 51) F dX8_isLeap_23 (by decide) rfl (fun hc2 => ?_) (fun hc2 => ?_)
  · rw [if_neg hc2] at h
    refine fr_iconst (q := 52) (v := 0) F dX8_isLeap_51 rfl (by decide) ?_
    obtain rfl := Option.some.inj h
    exact fr_zret F E rfl dX8_isLeap_52
  · rw [if_pos hc2] at h
    refine fr_iload_n (q := 27) F dX8_isLeap_26 rfl rfl ?_
    refine fr_iconst (q := 28) (v := 4) F dX8_isLeap_27 rfl (by decide) ?_
    refine fr_irem (q := 29) F dX8_isLeap_28 rfl (by decide) ?_
    refine fr_if_ne (q := 32) (tgt := 39) F dX8_isLeap_29 (by decide) rfl (fun hc3 => ?_) (fun hc3 => ?_)
    · rw [if_neg hc3] at h
      exact fr_wj (tX8_isLeap_39 F E h) ⟨rfl, trivial⟩
    · rw [if_pos hc3] at h
      refine fr_iload_n (q := 33) F dX8_isLeap_32 rfl rfl ?_
      refine fr_bipush (q := 35) (v := 100) F dX8_isLeap_33 rfl (by decide) ?_
      refine fr_irem (q := 36) F dX8_isLeap_35 rfl (by decide) ?_
      refine fr_if_ne (q := 39) (tgt := 47) F dX8_isLeap_36 (by decide) rfl (fun hc4 => ?_) (fun hc4 => ?_)
      · rw [if_neg hc4] at h
        refine fr_iconst (q := 48) (v := 1) F dX8_isLeap_47 rfl (by decide) ?_
        refine fr_goto (tgt := 52) F dX8_isLeap_48 (by decide) ?_
        obtain rfl := Option.some.inj h
        exact fr_zret F E rfl dX8_isLeap_52
      · rw [if_pos hc4] at h
        exact fr_wj (tX8_isLeap_39 F E h) ⟨rfl, trivial⟩
theorem tX8_isLeap {l : Launch} {G : fr_G} {u0 : fr_N} {a1 : Int32} {n0 : fr_N} {rz : Bool} (h : fX8_isLeap a1 n0 = some rz) : fr_Met l G YX8_isLeap [.ref 52, .int a1] (u0, n0) (some (.int (fr_b rz))) (u0, n0) := by
  refine fr_met (pad := List.replicate 0 none) (by decide) (Nat.le_of_ble_eq_true rfl) (fun _ h => List.eq_of_mem_replicate h) ⟨rfl, rfl⟩ (fun K F hG hL E => ?_)
  subst hG; subst hL
  rw [fX8_isLeap] at h
  show fr_V YX8_isLeap K 0 [some (.ref 52), some (.int a1)] [] (u0, n0)
  refine fr_aload_n (q := 1) F dX8_isLeap_0 rfl rfl ?_
  refine fr_gfR (q := 4) (j := 53) F dX8_isLeap_1 rfl faRX8_7 (by decide) rfl rfl ?_
  refine fr_iconst (q := 5) (v := 0) F dX8_isLeap_4 rfl (by decide) ?_
  refine fr_ial (q := 6) (x := (n0 1 0)) F dX8_isLeap_5 rfl (fr_vin rfl) (by decide) rfl rfl ?_
  refine fr_iconst (q := 7) (v := 1) F dX8_isLeap_6 rfl (by decide) ?_
  refine fr_icmp_ne (q := 10) (tgt := 16) F dX8_isLeap_7 (by decide) rfl (fun hc5 => ?_) (fun hc5 => ?_)
  · rw [if_neg hc5] at h
    exact fr_wj (tX8_isLeap_16 F E h) ⟨rfl, ⟨rfl, trivial⟩⟩
  · rw [if_pos hc5] at h
    refine fr_iload_n (q := 11) F dX8_isLeap_10 rfl rfl ?_
    refine fr_iconst (q := 12) (v := 4) F dX8_isLeap_11 rfl (by decide) ?_
    refine fr_irem (q := 13) F dX8_isLeap_12 rfl (by decide) ?_
    refine fr_if_eq (q := 16) (tgt := 47) F dX8_isLeap_13 (by decide) rfl (fun hc6 => ?_) (fun hc6 => ?_)
    · rw [if_pos hc6] at h
      refine fr_iconst (q := 48) (v := 1) F dX8_isLeap_47 rfl (by decide) ?_
      refine fr_goto (tgt := 52) F dX8_isLeap_48 (by decide) ?_
      obtain rfl := Option.some.inj h
      exact fr_zret F E rfl dX8_isLeap_52
    · rw [if_neg hc6] at h
      exact fr_wj (tX8_isLeap_16 F E h) ⟨rfl, ⟨rfl, trivial⟩⟩
/-! FeastRotaModel.opens (52, None) -/
def fX8_opens_30 : Nat → Int32 → Int32 → Int32 → fr_N → Option fr_N
  | 0, _, _, _, _ => none
  | k + 1, x1, x2, x3, n0 => if x1 ≤ x3 then fr_lt (fr_up n0 0 21 (fr_rem x2 (7 : Int32))) fun n2 => (some n2) else fr_bd (fX8_isLeap x3 n0) fun r4 => (if r4 = true then (fX8_opens_30 k) x1 (x2 + (366 : Int32)) (x3 + (1 : Int32)) n0 else (fX8_opens_30 k) x1 (x2 + (365 : Int32)) (x3 + (1 : Int32)) n0)
def fX8_opens_18 (x1 : Int32) (s0 : Int32) (n0 : fr_N) : Option fr_N := fr_lt (fr_up n0 0 20 s0) fun n7 => (fX8_opens_30 2000 x1 (n7 1 2) (1 : Int32) n7)
def fX8_opens (a1 : Int32) (n0 : fr_N) : Option fr_N := fr_bd (fX8_isLeap a1 n0) fun r9 => (if r9 = true then fX8_opens_18 a1 (366 : Int32) n0 else fX8_opens_18 a1 (365 : Int32) n0)
theorem tX8_opens_30 {K : fr_K} {u0 : fr_N} {nz : fr_N} (F : fr_F YX8_opens K) (E : fr_R YX8_opens K none (u0, nz)) : ∀ (k : Nat) (x1 : Int32) (x2 : Int32) (x3 : Int32) (n0 : fr_N), fX8_opens_30 k x1 x2 x3 n0 = some nz → fr_V YX8_opens K 30 [some (.ref 52), some (.int x1), some (.int x2), some (.int x3)] [] (u0, n0) := by
  intro k
  induction k with
  | zero =>
    intro x1 x2 x3 n0 h
    rw [fX8_opens_30] at h
    cases h
  | succ k ih =>
    intro x1 x2 x3 n0 h
    rw [fX8_opens_30] at h
    refine fr_iload_n (q := 31) F dX8_opens_30 rfl rfl ?_
    refine fr_iload_n (q := 32) F dX8_opens_31 rfl rfl ?_
    refine fr_icmp_ge (q := 35) (tgt := 61) F dX8_opens_32 (by decide) rfl (fun hc1 => ?_) (fun hc1 => ?_)
    · rw [if_pos hc1] at h
      refine fr_aload_n (q := 62) F dX8_opens_61 rfl rfl ?_
      refine fr_iload_n (q := 63) F dX8_opens_62 rfl rfl ?_
      refine fr_bipush (q := 65) (v := 7) F dX8_opens_63 rfl (by decide) ?_
      refine fr_irem (q := 66) F dX8_opens_65 rfl (by decide) ?_
      obtain ⟨n2, hn3, h⟩ := fr_lt_some h
      refine fr_pfI (q := 69) (M' := (u0, n2)) F dX8_opens_66 rfl fpRX8_63 (by decide) rfl rfl (congrArg (fun z => (u0, z)) hn3) ?_
      obtain rfl := Option.some.inj h
      exact fr_vret F E rfl dX8_opens_69
    · rw [if_neg hc1] at h
      refine fr_iload_n (q := 36) F dX8_opens_35 rfl rfl ?_
      refine fr_aload_n (q := 37) F dX8_opens_36 rfl rfl ?_
      refine fr_iload_n (q := 38) F dX8_opens_37 rfl rfl ?_
      obtain ⟨r4, hr5, h⟩ := fr_bd_some h
      refine fr_callV (q := 41) (M' := (u0, n0)) (rest := [.int x2]) (st' := [.int (fr_b r4), .int x2]) F dX8_opens_38 rfl (tX8_isLeap hr5) mlRX8_59 msX8_isLeap ⟨Nat.le_of_ble_eq_true rfl, Nat.le_of_ble_eq_true rfl⟩ (by decide) rfl rfl rfl (Nat.le_of_ble_eq_true rfl) rfl ?_
      refine fr_if_eqb (q := 44) (tgt := 50) F dX8_opens_41 (by decide) rfl (fun hc6 => ?_) (fun hc6 => ?_)
      · rw [if_neg hc6] at h
        refine fr_sipush (q := 53) (v := 365) F dX8_opens_50 rfl (by decide) ?_
        refine fr_iadd (q := 54) F dX8_opens_53 rfl ?_
        refine fr_istore_n (q := 55) F dX8_opens_54 rfl (by decide) rfl ?_
        refine fr_iinc (q := 58) (v := (x3 + (1 : Int32))) F dX8_opens_55 rfl rfl rfl (by decide) rfl ?_
        refine fr_goto (tgt := 30) F dX8_opens_58 (by decide) ?_
        exact fr_wj (ih _ _ _ _ h) ⟨rfl, ⟨rfl, ⟨rfl, ⟨rfl, trivial⟩⟩⟩⟩
      · rw [if_pos hc6] at h
        refine fr_sipush (q := 47) (v := 366) F dX8_opens_44 rfl (by decide) ?_
        refine fr_goto (tgt := 53) F dX8_opens_47 (by decide) ?_
        refine fr_iadd (q := 54) F dX8_opens_53 rfl ?_
        refine fr_istore_n (q := 55) F dX8_opens_54 rfl (by decide) rfl ?_
        refine fr_iinc (q := 58) (v := (x3 + (1 : Int32))) F dX8_opens_55 rfl rfl rfl (by decide) rfl ?_
        refine fr_goto (tgt := 30) F dX8_opens_58 (by decide) ?_
        exact fr_wj (ih _ _ _ _ h) ⟨rfl, ⟨rfl, ⟨rfl, ⟨rfl, trivial⟩⟩⟩⟩
theorem tX8_opens_18 {K : fr_K} {u0 : fr_N} {nz : fr_N} (F : fr_F YX8_opens K) (E : fr_R YX8_opens K none (u0, nz)) {x1 : Int32} {s0 : Int32} {n0 : fr_N} (h : fX8_opens_18 x1 s0 n0 = some nz) : fr_V YX8_opens K 18 [some (.ref 52), some (.int x1), none, none] [.int s0, .ref 52] (u0, n0) := by
  rw [fX8_opens_18] at h
  obtain ⟨n7, hn8, h⟩ := fr_lt_some h
  refine fr_pfI (q := 21) (M' := (u0, n7)) F dX8_opens_18 rfl fpRX8_71 (by decide) rfl rfl (congrArg (fun z => (u0, z)) hn8) ?_
  refine fr_aload_n (q := 22) F dX8_opens_21 rfl rfl ?_
  refine fr_gfR (q := 25) (j := 53) F dX8_opens_22 rfl faRX8_7 (by decide) rfl rfl ?_
  refine fr_iconst (q := 26) (v := 2) F dX8_opens_25 rfl (by decide) ?_
  refine fr_ial (q := 27) (x := (n7 1 2)) F dX8_opens_26 rfl (fr_vin rfl) (by decide) rfl rfl ?_
  refine fr_istore_n (q := 28) F dX8_opens_27 rfl (by decide) rfl ?_
  refine fr_iconst (q := 29) (v := 1) F dX8_opens_28 rfl (by decide) ?_
  refine fr_istore_n (q := 30) F dX8_opens_29 rfl (by decide) rfl ?_
  exact fr_wj (tX8_opens_30 F E _ _ _ _ _ h) ⟨rfl, ⟨rfl, ⟨rfl, ⟨rfl, trivial⟩⟩⟩⟩
theorem tX8_opens {l : Launch} {G : fr_G} {u0 : fr_N} {a1 : Int32} {n0 : fr_N} {nz : fr_N} (h : fX8_opens a1 n0 = some nz) : fr_Met l G YX8_opens [.ref 52, .int a1] (u0, n0) none (u0, nz) := by
  refine fr_met (pad := List.replicate 2 none) (by decide) (Nat.le_of_ble_eq_true rfl) (fun _ h => List.eq_of_mem_replicate h) ⟨rfl, rfl⟩ (fun K F hG hL E => ?_)
  subst hG; subst hL
  rw [fX8_opens] at h
  show fr_V YX8_opens K 0 [some (.ref 52), some (.int a1), none, none] [] (u0, n0)
  refine fr_aload_n (q := 1) F dX8_opens_0 rfl rfl ?_
  refine fr_aload_n (q := 2) F dX8_opens_1 rfl rfl ?_
  refine fr_iload_n (q := 3) F dX8_opens_2 rfl rfl ?_
  obtain ⟨r9, hr10, h⟩ := fr_bd_some h
  refine fr_callV (q := 6) (M' := (u0, n0)) (rest := [.ref 52]) (st' := [.int (fr_b r9), .ref 52]) F dX8_opens_3 rfl (tX8_isLeap hr10) mlRX8_59 msX8_isLeap ⟨Nat.le_of_ble_eq_true rfl, Nat.le_of_ble_eq_true rfl⟩ (by decide) rfl rfl rfl (Nat.le_of_ble_eq_true rfl) rfl ?_
  refine fr_if_eqb (q := 9) (tgt := 15) F dX8_opens_6 (by decide) rfl (fun hc11 => ?_) (fun hc11 => ?_)
  · rw [if_neg hc11] at h
    refine fr_sipush (q := 18) (v := 365) F dX8_opens_15 rfl (by decide) ?_
    exact fr_wj (tX8_opens_18 F E h) ⟨rfl, ⟨rfl, trivial⟩⟩
  · rw [if_pos hc11] at h
    refine fr_sipush (q := 12) (v := 366) F dX8_opens_9 rfl (by decide) ?_
    refine fr_goto (tgt := 18) F dX8_opens_12 (by decide) ?_
    exact fr_wj (tX8_opens_18 F E h) ⟨rfl, ⟨rfl, trivial⟩⟩
/-! FeastRotaModel.isAhead (52, None, None) -/
def fX8_isAhead (a1 : Int32) (a2 : Int32) (n0 : fr_N) : Option Bool := fr_bd (fX8_of a1 (2 : Int32) n0) fun r1 => (fr_bd (fX8_of a2 (2 : Int32) n0) fun r3 => (if r1 = r3 then fr_bd (fX8_of a1 (0 : Int32) n0) fun r6 => (fr_bd (fX8_of a2 (0 : Int32) n0) fun r8 => (if r6 < r8 then some true else fr_bd (fX8_of a1 (0 : Int32) n0) fun r11 => (fr_bd (fX8_of a2 (0 : Int32) n0) fun r13 => (if r11 = r13 then if a2 ≤ a1 then some false else some true else some false)))) else fr_bd (fX8_of a1 (2 : Int32) n0) fun r17 => (fr_bd (fX8_of a2 (2 : Int32) n0) fun r19 => (if r17 ≤ r19 then some false else some true))))
theorem tX8_isAhead {l : Launch} {G : fr_G} {u0 : fr_N} {a1 : Int32} {a2 : Int32} {n0 : fr_N} {rz : Bool} (h : fX8_isAhead a1 a2 n0 = some rz) : fr_Met l G YX8_isAhead [.ref 52, .int a1, .int a2] (u0, n0) (some (.int (fr_b rz))) (u0, n0) := by
  refine fr_met (pad := List.replicate 0 none) (by decide) (Nat.le_of_ble_eq_true rfl) (fun _ h => List.eq_of_mem_replicate h) ⟨rfl, rfl⟩ (fun K F hG hL E => ?_)
  subst hG; subst hL
  rw [fX8_isAhead] at h
  show fr_V YX8_isAhead K 0 [some (.ref 52), some (.int a1), some (.int a2)] [] (u0, n0)
  refine fr_aload_n (q := 1) F dX8_isAhead_0 rfl rfl ?_
  refine fr_iload_n (q := 2) F dX8_isAhead_1 rfl rfl ?_
  refine fr_iconst (q := 3) (v := 2) F dX8_isAhead_2 rfl (by decide) ?_
  obtain ⟨r1, hr2, h⟩ := fr_bd_some h
  refine fr_callV (q := 6) (M' := (u0, n0)) (rest := []) (st' := [.int r1]) F dX8_isAhead_3 rfl (tX8_of hr2) mlRX8_84 msX8_of ⟨Nat.le_of_ble_eq_true rfl, Nat.le_of_ble_eq_true rfl⟩ (by decide) rfl rfl rfl (Nat.le_of_ble_eq_true rfl) rfl ?_
  refine fr_aload_n (q := 7) F dX8_isAhead_6 rfl rfl ?_
  refine fr_iload_n (q := 8) F dX8_isAhead_7 rfl rfl ?_
  refine fr_iconst (q := 9) (v := 2) F dX8_isAhead_8 rfl (by decide) ?_
  obtain ⟨r3, hr4, h⟩ := fr_bd_some h
  refine fr_callV (q := 12) (M' := (u0, n0)) (rest := [.int r1]) (st' := [.int r3, .int r1]) F dX8_isAhead_9 rfl (tX8_of hr4) mlRX8_84 msX8_of ⟨Nat.le_of_ble_eq_true rfl, Nat.le_of_ble_eq_true rfl⟩ (by decide) rfl rfl rfl (Nat.le_of_ble_eq_true rfl) rfl ?_
  refine fr_icmp_eq (q := 15) (tgt := 36) F dX8_isAhead_12 (by decide) rfl (fun hc5 => ?_) (fun hc5 => ?_)
  · rw [if_pos hc5] at h
    refine fr_aload_n (q := 37) F dX8_isAhead_36 rfl rfl ?_
    refine fr_iload_n (q := 38) F dX8_isAhead_37 rfl rfl ?_
    refine fr_iconst (q := 39) (v := 0) F dX8_isAhead_38 rfl (by decide) ?_
    obtain ⟨r6, hr7, h⟩ := fr_bd_some h
    refine fr_callV (q := 42) (M' := (u0, n0)) (rest := []) (st' := [.int r6]) F dX8_isAhead_39 rfl (tX8_of hr7) mlRX8_84 msX8_of ⟨Nat.le_of_ble_eq_true rfl, Nat.le_of_ble_eq_true rfl⟩ (by decide) rfl rfl rfl (Nat.le_of_ble_eq_true rfl) rfl ?_
    refine fr_aload_n (q := 43) F dX8_isAhead_42 rfl rfl ?_
    refine fr_iload_n (q := 44) F dX8_isAhead_43 rfl rfl ?_
    refine fr_iconst (q := 45) (v := 0) F dX8_isAhead_44 rfl (by decide) ?_
    obtain ⟨r8, hr9, h⟩ := fr_bd_some h
    refine fr_callV (q := 48) (M' := (u0, n0)) (rest := [.int r6]) (st' := [.int r8, .int r6]) F dX8_isAhead_45 rfl (tX8_of hr9) mlRX8_84 msX8_of ⟨Nat.le_of_ble_eq_true rfl, Nat.le_of_ble_eq_true rfl⟩ (by decide) rfl rfl rfl (Nat.le_of_ble_eq_true rfl) rfl ?_
    refine fr_icmp_lt (q := 51) (tgt := 71) F dX8_isAhead_48 (by decide) rfl (fun hc10 => ?_) (fun hc10 => ?_)
    · rw [if_pos hc10] at h
      refine fr_iconst (q := 72) (v := 1) F dX8_isAhead_71 rfl (by decide) ?_
      refine fr_goto (tgt := 76) F dX8_isAhead_72 (by decide) ?_
      obtain rfl := Option.some.inj h
      exact fr_zret F E rfl dX8_isAhead_76
    · rw [if_neg hc10] at h
      refine fr_aload_n (q := 52) F dX8_isAhead_51 rfl rfl ?_
      refine fr_iload_n (q := 53) F dX8_isAhead_52 rfl rfl ?_
      refine fr_iconst (q := 54) (v := 0) F dX8_isAhead_53 rfl (by decide) ?_
      obtain ⟨r11, hr12, h⟩ := fr_bd_some h
      refine fr_callV (q := 57) (M' := (u0, n0)) (rest := []) (st' := [.int r11]) F dX8_isAhead_54 rfl (tX8_of hr12) mlRX8_84 msX8_of ⟨Nat.le_of_ble_eq_true rfl, Nat.le_of_ble_eq_true rfl⟩ (by decide) rfl rfl rfl (Nat.le_of_ble_eq_true rfl) rfl ?_
      refine fr_aload_n (q := 58) F dX8_isAhead_57 rfl rfl ?_
      refine fr_iload_n (q := 59) F dX8_isAhead_58 rfl rfl ?_
      refine fr_iconst (q := 60) (v := 0) F dX8_isAhead_59 rfl (by decide) ?_
      obtain ⟨r13, hr14, h⟩ := fr_bd_some h
      refine fr_callV (q := 63) (M' := (u0, n0)) (rest := [.int r11]) (st' := [.int r13, .int r11]) F dX8_isAhead_60 rfl (tX8_of hr14) mlRX8_84 msX8_of ⟨Nat.le_of_ble_eq_true rfl, Nat.le_of_ble_eq_true rfl⟩ (by decide) rfl rfl rfl (Nat.le_of_ble_eq_true rfl) rfl ?_
      refine fr_icmp_ne (q := 66) (tgt := 75) F dX8_isAhead_63 (by decide) rfl (fun hc15 => ?_) (fun hc15 => ?_)
      · rw [if_neg hc15] at h
        refine fr_iconst (q := 76) (v := 0) F dX8_isAhead_75 rfl (by decide) ?_
        obtain rfl := Option.some.inj h
        exact fr_zret F E rfl dX8_isAhead_76
      · rw [if_pos hc15] at h
        refine fr_iload_n (q := 67) F dX8_isAhead_66 rfl rfl ?_
        refine fr_iload_n (q := 68) F dX8_isAhead_67 rfl rfl ?_
        refine fr_icmp_ge (q := 71) (tgt := 75) F dX8_isAhead_68 (by decide) rfl (fun hc16 => ?_) (fun hc16 => ?_)
        · rw [if_pos hc16] at h
          refine fr_iconst (q := 76) (v := 0) F dX8_isAhead_75 rfl (by decide) ?_
          obtain rfl := Option.some.inj h
          exact fr_zret F E rfl dX8_isAhead_76
        · rw [if_neg hc16] at h
          refine fr_iconst (q := 72) (v := 1) F dX8_isAhead_71 rfl (by decide) ?_
          refine fr_goto (tgt := 76) F dX8_isAhead_72 (by decide) ?_
          obtain rfl := Option.some.inj h
          exact fr_zret F E rfl dX8_isAhead_76
  · rw [if_neg hc5] at h
    refine fr_aload_n (q := 16) F dX8_isAhead_15 rfl rfl ?_
    refine fr_iload_n (q := 17) F dX8_isAhead_16 rfl rfl ?_
    refine fr_iconst (q := 18) (v := 2) F dX8_isAhead_17 rfl (by decide) ?_
    obtain ⟨r17, hr18, h⟩ := fr_bd_some h
    refine fr_callV (q := 21) (M' := (u0, n0)) (rest := []) (st' := [.int r17]) F dX8_isAhead_18 rfl (tX8_of hr18) mlRX8_84 msX8_of ⟨Nat.le_of_ble_eq_true rfl, Nat.le_of_ble_eq_true rfl⟩ (by decide) rfl rfl rfl (Nat.le_of_ble_eq_true rfl) rfl ?_
    refine fr_aload_n (q := 22) F dX8_isAhead_21 rfl rfl ?_
    refine fr_iload_n (q := 23) F dX8_isAhead_22 rfl rfl ?_
    refine fr_iconst (q := 24) (v := 2) F dX8_isAhead_23 rfl (by decide) ?_
    obtain ⟨r19, hr20, h⟩ := fr_bd_some h
    refine fr_callV (q := 27) (M' := (u0, n0)) (rest := [.int r17]) (st' := [.int r19, .int r17]) F dX8_isAhead_24 rfl (tX8_of hr20) mlRX8_84 msX8_of ⟨Nat.le_of_ble_eq_true rfl, Nat.le_of_ble_eq_true rfl⟩ (by decide) rfl rfl rfl (Nat.le_of_ble_eq_true rfl) rfl ?_
    refine fr_icmp_le (q := 30) (tgt := 34) F dX8_isAhead_27 (by decide) rfl (fun hc21 => ?_) (fun hc21 => ?_)
    · rw [if_pos hc21] at h
      refine fr_iconst (q := 35) (v := 0) F dX8_isAhead_34 rfl (by decide) ?_
      obtain rfl := Option.some.inj h
      exact fr_zret F E rfl dX8_isAhead_35
    · rw [if_neg hc21] at h
      refine fr_iconst (q := 31) (v := 1) F dX8_isAhead_30 rfl (by decide) ?_
      refine fr_goto (tgt := 35) F dX8_isAhead_31 (by decide) ?_
      obtain rfl := Option.some.inj h
      exact fr_zret F E rfl dX8_isAhead_35
/-! FeastRotaModel.nextFeast (52,) -/
def fX8_nextFeast_5 (n0 : fr_N) : Nat → Int32 → Int32 → Option Int32
  | 0, _, _ => none
  | k + 1, x1, x2 => if (n0 1 6) ≤ x2 then some x1 else fr_ck x2 12 (if (n0 11 (Int32.toNatClampNeg x2)) = 0 then if x1 = (-1000000 : Int32) then (fX8_nextFeast_5 n0 k) x2 (x2 + (1 : Int32)) else fr_bd (fX8_isAhead x2 x1 n0) fun r5 => (if r5 = true then (fX8_nextFeast_5 n0 k) x2 (x2 + (1 : Int32)) else (fX8_nextFeast_5 n0 k) x1 (x2 + (1 : Int32))) else (fX8_nextFeast_5 n0 k) x1 (x2 + (1 : Int32)))
def fX8_nextFeast (n0 : fr_N) : Option Int32 := fX8_nextFeast_5 n0 2000 (-1000000 : Int32) (0 : Int32)
theorem tX8_nextFeast_5 {K : fr_K} {u0 : fr_N} {n0 : fr_N} {rz : Int32} (F : fr_F YX8_nextFeast K) (E : fr_R YX8_nextFeast K (some (.int rz)) (u0, n0)) : ∀ (k : Nat) (x1 : Int32) (x2 : Int32), fX8_nextFeast_5 n0 k x1 x2 = some rz → fr_V YX8_nextFeast K 5 [some (.ref 52), some (.int x1), some (.int x2)] [] (u0, n0) := by
  intro k
  induction k with
  | zero =>
    intro x1 x2 h
    rw [fX8_nextFeast_5] at h
    cases h
  | succ k ih =>
    intro x1 x2 h
    rw [fX8_nextFeast_5] at h
    refine fr_iload_n (q := 6) F dX8_nextFeast_5 rfl rfl ?_
    refine fr_aload_n (q := 7) F dX8_nextFeast_6 rfl rfl ?_
    refine fr_gfR (q := 10) (j := 53) F dX8_nextFeast_7 rfl faRX8_7 (by decide) rfl rfl ?_
    refine fr_bipush (q := 12) (v := 6) F dX8_nextFeast_10 rfl (by decide) ?_
    refine fr_ial (q := 13) (x := (n0 1 6)) F dX8_nextFeast_12 rfl (fr_vin rfl) (by decide) rfl rfl ?_
    refine fr_icmp_ge (q := 16) (tgt := 52) F dX8_nextFeast_13 (by decide) rfl (fun hc1 => ?_) (fun hc1 => ?_)
    · rw [if_pos hc1] at h
      refine fr_iload_n (q := 53) F dX8_nextFeast_52 rfl rfl ?_
      obtain rfl := Option.some.inj h
      exact fr_iret F E rfl dX8_nextFeast_53
    · rw [if_neg hc1] at h
      refine fr_aload_n (q := 17) F dX8_nextFeast_16 rfl rfl ?_
      refine fr_gfR (q := 20) (j := 63) F dX8_nextFeast_17 rfl faRX8_41 (by decide) rfl rfl ?_
      refine fr_iload_n (q := 21) F dX8_nextFeast_20 rfl rfl ?_
      obtain ⟨hi2, h⟩ := fr_ck_some h
      refine fr_zal (q := 22) (x := (n0 11 (Int32.toNatClampNeg x2))) F dX8_nextFeast_21 rfl hi2 (by decide) rfl rfl ?_
      refine fr_if_ne (q := 25) (tgt := 44) F dX8_nextFeast_22 (by decide) rfl (fun hc3 => ?_) (fun hc3 => ?_)
      · rw [if_neg hc3] at h
        refine fr_iload_n (q := 45) F dX8_nextFeast_44 rfl rfl ?_
        refine fr_istore_n (q := 46) F dX8_nextFeast_45 rfl (by decide) rfl ?_
        refine fr_iinc (q := 49) (v := (x2 + (1 : Int32))) F dX8_nextFeast_46 rfl rfl rfl (by decide) rfl ?_
        refine fr_goto (tgt := 5) F dX8_nextFeast_49 (by decide) ?_
        exact fr_wj (ih _ _ h) ⟨rfl, ⟨rfl, ⟨rfl, trivial⟩⟩⟩
      · rw [if_pos hc3] at h
        refine fr_iload_n (q := 26) F dX8_nextFeast_25 rfl rfl ?_
        refine fr_ldc (q := 28) F dX8_nextFeast_26 rfl kcRX8_90 ?_
        refine fr_icmp_eq (q := 31) (tgt := 40) F dX8_nextFeast_28 (by decide) rfl (fun hc4 => ?_) (fun hc4 => ?_)
        · rw [if_pos hc4] at h
          refine fr_iload_n (q := 41) F dX8_nextFeast_40 rfl rfl ?_
          refine fr_goto (tgt := 45) F dX8_nextFeast_41 (by decide) ?_
          refine fr_istore_n (q := 46) F dX8_nextFeast_45 rfl (by decide) rfl ?_
          refine fr_iinc (q := 49) (v := (x2 + (1 : Int32))) F dX8_nextFeast_46 rfl rfl rfl (by decide) rfl ?_
          refine fr_goto (tgt := 5) F dX8_nextFeast_49 (by decide) ?_
          exact fr_wj (ih _ _ h) ⟨rfl, ⟨rfl, ⟨rfl, trivial⟩⟩⟩
        · rw [if_neg hc4] at h
          refine fr_aload_n (q := 32) F dX8_nextFeast_31 rfl rfl ?_
          refine fr_iload_n (q := 33) F dX8_nextFeast_32 rfl rfl ?_
          refine fr_iload_n (q := 34) F dX8_nextFeast_33 rfl rfl ?_
          obtain ⟨r5, hr6, h⟩ := fr_bd_some h
          refine fr_callV (q := 37) (M' := (u0, n0)) (rest := []) (st' := [.int (fr_b r5)]) F dX8_nextFeast_34 rfl (tX8_isAhead hr6) mlRX8_115 msX8_isAhead ⟨Nat.le_of_ble_eq_true rfl, Nat.le_of_ble_eq_true rfl⟩ (by decide) rfl rfl rfl (Nat.le_of_ble_eq_true rfl) rfl ?_
          refine fr_if_eqb (q := 40) (tgt := 44) F dX8_nextFeast_37 (by decide) rfl (fun hc7 => ?_) (fun hc7 => ?_)
          · rw [if_neg hc7] at h
            refine fr_iload_n (q := 45) F dX8_nextFeast_44 rfl rfl ?_
            refine fr_istore_n (q := 46) F dX8_nextFeast_45 rfl (by decide) rfl ?_
            refine fr_iinc (q := 49) (v := (x2 + (1 : Int32))) F dX8_nextFeast_46 rfl rfl rfl (by decide) rfl ?_
            refine fr_goto (tgt := 5) F dX8_nextFeast_49 (by decide) ?_
            exact fr_wj (ih _ _ h) ⟨rfl, ⟨rfl, ⟨rfl, trivial⟩⟩⟩
          · rw [if_pos hc7] at h
            refine fr_iload_n (q := 41) F dX8_nextFeast_40 rfl rfl ?_
            refine fr_goto (tgt := 45) F dX8_nextFeast_41 (by decide) ?_
            refine fr_istore_n (q := 46) F dX8_nextFeast_45 rfl (by decide) rfl ?_
            refine fr_iinc (q := 49) (v := (x2 + (1 : Int32))) F dX8_nextFeast_46 rfl rfl rfl (by decide) rfl ?_
            refine fr_goto (tgt := 5) F dX8_nextFeast_49 (by decide) ?_
            exact fr_wj (ih _ _ h) ⟨rfl, ⟨rfl, ⟨rfl, trivial⟩⟩⟩
theorem tX8_nextFeast {l : Launch} {G : fr_G} {u0 : fr_N} {n0 : fr_N} {rz : Int32} (h : fX8_nextFeast n0 = some rz) : fr_Met l G YX8_nextFeast [.ref 52] (u0, n0) (some (.int rz)) (u0, n0) := by
  refine fr_met (pad := List.replicate 2 none) (by decide) (Nat.le_of_ble_eq_true rfl) (fun _ h => List.eq_of_mem_replicate h) ⟨rfl, rfl⟩ (fun K F hG hL E => ?_)
  subst hG; subst hL
  rw [fX8_nextFeast] at h
  show fr_V YX8_nextFeast K 0 [some (.ref 52), none, none] [] (u0, n0)
  refine fr_ldc (q := 2) F dX8_nextFeast_0 rfl kcRX8_90 ?_
  refine fr_istore_n (q := 3) F dX8_nextFeast_2 rfl (by decide) rfl ?_
  refine fr_iconst (q := 4) (v := 0) F dX8_nextFeast_3 rfl (by decide) ?_
  refine fr_istore_n (q := 5) F dX8_nextFeast_4 rfl (by decide) rfl ?_
  exact fr_wj (tX8_nextFeast_5 F E _ _ _ h) ⟨rfl, ⟨rfl, ⟨rfl, trivial⟩⟩⟩
/-! FeastRotaModel.isFree (52, None) -/
def fX8_isFree (a1 : Int32) (n0 : fr_N) : Option Bool := fr_ck a1 367 (if (n0 7 (Int32.toNatClampNeg a1)) = 0 then some true else some false)
theorem tX8_isFree {l : Launch} {G : fr_G} {u0 : fr_N} {a1 : Int32} {n0 : fr_N} {rz : Bool} (h : fX8_isFree a1 n0 = some rz) : fr_Met l G YX8_isFree [.ref 52, .int a1] (u0, n0) (some (.int (fr_b rz))) (u0, n0) := by
  refine fr_met (pad := List.replicate 0 none) (by decide) (Nat.le_of_ble_eq_true rfl) (fun _ h => List.eq_of_mem_replicate h) ⟨rfl, rfl⟩ (fun K F hG hL E => ?_)
  subst hG; subst hL
  rw [fX8_isFree] at h
  show fr_V YX8_isFree K 0 [some (.ref 52), some (.int a1)] [] (u0, n0)
  refine fr_aload_n (q := 1) F dX8_isFree_0 rfl rfl ?_
  refine fr_gfR (q := 4) (j := 59) F dX8_isFree_1 rfl faRX8_29 (by decide) rfl rfl ?_
  refine fr_iload_n (q := 5) F dX8_isFree_4 rfl rfl ?_
  obtain ⟨hi1, h⟩ := fr_ck_some h
  refine fr_ial (q := 6) (x := (n0 7 (Int32.toNatClampNeg a1))) F dX8_isFree_5 rfl hi1 (by decide) rfl rfl ?_
  refine fr_if_ne (q := 9) (tgt := 13) F dX8_isFree_6 (by decide) rfl (fun hc2 => ?_) (fun hc2 => ?_)
  · rw [if_neg hc2] at h
    refine fr_iconst (q := 14) (v := 0) F dX8_isFree_13 rfl (by decide) ?_
    obtain rfl := Option.some.inj h
    exact fr_zret F E rfl dX8_isFree_14
  · rw [if_pos hc2] at h
    refine fr_iconst (q := 10) (v := 1) F dX8_isFree_9 rfl (by decide) ?_
    refine fr_goto (tgt := 14) F dX8_isFree_10 (by decide) ?_
    obtain rfl := Option.some.inj h
    exact fr_zret F E rfl dX8_isFree_14
/-! FeastRotaModel.holds (52, None, None, None) -/
def fX8_holds (a1 : Int32) (a2 : Int32) (a3 : Int32) (n0 : fr_N) : Option fr_N := fr_ck a1 12 (fr_lt (fr_up n0 9 (Int32.toNatClampNeg a1) a2) fun n2 => (fr_ck a1 12 (fr_lt (fr_up n2 10 (Int32.toNatClampNeg a1) a3) fun n5 => (if a3 ≤ 0 then some n5 else if (2 : Int32) < a2 then some n5 else fr_ck a3 367 (fr_lt (fr_up n5 7 (Int32.toNatClampNeg a3) (a1 + (1 : Int32))) fun n10 => (some n10))))))
theorem tX8_holds {l : Launch} {G : fr_G} {u0 : fr_N} {a1 : Int32} {a2 : Int32} {a3 : Int32} {n0 : fr_N} {nz : fr_N} (h : fX8_holds a1 a2 a3 n0 = some nz) : fr_Met l G YX8_holds [.ref 52, .int a1, .int a2, .int a3] (u0, n0) none (u0, nz) := by
  refine fr_met (pad := List.replicate 0 none) (by decide) (Nat.le_of_ble_eq_true rfl) (fun _ h => List.eq_of_mem_replicate h) ⟨rfl, rfl⟩ (fun K F hG hL E => ?_)
  subst hG; subst hL
  rw [fX8_holds] at h
  show fr_V YX8_holds K 0 [some (.ref 52), some (.int a1), some (.int a2), some (.int a3)] [] (u0, n0)
  refine fr_aload_n (q := 1) F dX8_holds_0 rfl rfl ?_
  refine fr_gfR (q := 4) (j := 61) F dX8_holds_1 rfl faRX8_35 (by decide) rfl rfl ?_
  refine fr_iload_n (q := 5) F dX8_holds_4 rfl rfl ?_
  refine fr_iload_n (q := 6) F dX8_holds_5 rfl rfl ?_
  obtain ⟨hi1, h⟩ := fr_ck_some h
  obtain ⟨n2, hn3, h⟩ := fr_lt_some h
  refine fr_ias (q := 7) (M' := (u0, n2)) F dX8_holds_6 rfl hi1 (by decide) rfl (congrArg (fun z => (u0, z)) hn3) ?_
  refine fr_aload_n (q := 8) F dX8_holds_7 rfl rfl ?_
  refine fr_gfR (q := 11) (j := 62) F dX8_holds_8 rfl faRX8_38 (by decide) rfl rfl ?_
  refine fr_iload_n (q := 12) F dX8_holds_11 rfl rfl ?_
  refine fr_iload_n (q := 13) F dX8_holds_12 rfl rfl ?_
  obtain ⟨hi4, h⟩ := fr_ck_some h
  obtain ⟨n5, hn6, h⟩ := fr_lt_some h
  refine fr_ias (q := 14) (M' := (u0, n5)) F dX8_holds_13 rfl hi4 (by decide) rfl (congrArg (fun z => (u0, z)) hn6) ?_
  refine fr_iload_n (q := 15) F dX8_holds_14 rfl rfl ?_
  refine fr_if_le (q := 18) (tgt := 32) F dX8_holds_15 (by decide) rfl (fun hc7 => ?_) (fun hc7 => ?_)
  · rw [if_pos hc7] at h
    obtain rfl := Option.some.inj h
    exact fr_vret F E rfl dX8_holds_32
  · rw [if_neg hc7] at h
    refine fr_iload_n (q := 19) F dX8_holds_18 rfl rfl ?_
    refine fr_iconst (q := 20) (v := 2) F dX8_holds_19 rfl (by decide) ?_
    refine fr_icmp_gt (q := 23) (tgt := 32) F dX8_holds_20 (by decide) rfl (fun hc8 => ?_) (fun hc8 => ?_)
    · rw [if_pos hc8] at h
      obtain rfl := Option.some.inj h
      exact fr_vret F E rfl dX8_holds_32
    · rw [if_neg hc8] at h
      refine fr_aload_n (q := 24) F dX8_holds_23 rfl rfl ?_
      refine fr_gfR (q := 27) (j := 59) F dX8_holds_24 rfl faRX8_29 (by decide) rfl rfl ?_
      refine fr_iload_n (q := 28) F dX8_holds_27 rfl rfl ?_
      refine fr_iload_n (q := 29) F dX8_holds_28 rfl rfl ?_
      refine fr_iconst (q := 30) (v := 1) F dX8_holds_29 rfl (by decide) ?_
      refine fr_iadd (q := 31) F dX8_holds_30 rfl ?_
      obtain ⟨hi9, h⟩ := fr_ck_some h
      obtain ⟨n10, hn11, h⟩ := fr_lt_some h
      refine fr_ias (q := 32) (M' := (u0, n10)) F dX8_holds_31 rfl hi9 (by decide) rfl (congrArg (fun z => (u0, z)) hn11) ?_
      obtain rfl := Option.some.inj h
      exact fr_vret F E rfl dX8_holds_32
/-! FeastRotaModel.freeBehind (52, None, None) -/
def fX8_freeBehind_4 (n0 : fr_N) : Nat → Int32 → Int32 → Option Int32
  | 0, _, _ => none
  | k + 1, x2, x3 => if x2 < x3 then some (-1000000 : Int32) else if (n0 0 20) < x3 then some (-1000000 : Int32) else fr_bd (fX8_isFree x3 n0) fun r3 => (if r3 = true then some x3 else (fX8_freeBehind_4 n0 k) x2 (x3 + (1 : Int32)))
def fX8_freeBehind (a1 : Int32) (a2 : Int32) (n0 : fr_N) : Option Int32 := fX8_freeBehind_4 n0 2000 a2 (a1 + (1 : Int32))
theorem tX8_freeBehind_4 {K : fr_K} {u0 : fr_N} {n0 : fr_N} {rz : Int32} (F : fr_F YX8_freeBehind K) (E : fr_R YX8_freeBehind K (some (.int rz)) (u0, n0)) : ∀ (k : Nat) (x2 : Int32) (x3 : Int32), fX8_freeBehind_4 n0 k x2 x3 = some rz → fr_V YX8_freeBehind K 4 [some (.ref 52), none, some (.int x2), some (.int x3)] [] (u0, n0) := by
  intro k
  induction k with
  | zero =>
    intro x2 x3 h
    rw [fX8_freeBehind_4] at h
    cases h
  | succ k ih =>
    intro x2 x3 h
    rw [fX8_freeBehind_4] at h
    refine fr_iload_n (q := 5) F dX8_freeBehind_4 rfl rfl ?_
    refine fr_iload_n (q := 6) F dX8_freeBehind_5 rfl rfl ?_
    refine fr_icmp_gt (q := 9) (tgt := 33) F dX8_freeBehind_6 (by decide) rfl (fun hc1 => ?_) (fun hc1 => ?_)
    · rw [if_pos hc1] at h
      refine fr_ldc (q := 35) F dX8_freeBehind_33 rfl kcRX8_90 ?_
      obtain rfl := Option.some.inj h
      exact fr_iret F E rfl dX8_freeBehind_35
    · rw [if_neg hc1] at h
      refine fr_iload_n (q := 10) F dX8_freeBehind_9 rfl rfl ?_
      refine fr_aload_n (q := 11) F dX8_freeBehind_10 rfl rfl ?_
      refine fr_gfI (q := 14) (x := (n0 0 20)) F dX8_freeBehind_11 rfl faRX8_71 (by decide) rfl rfl rfl ?_
      refine fr_icmp_gt (q := 17) (tgt := 33) F dX8_freeBehind_14 (by decide) rfl (fun hc2 => ?_) (fun hc2 => ?_)
      · rw [if_pos hc2] at h
        refine fr_ldc (q := 35) F dX8_freeBehind_33 rfl kcRX8_90 ?_
        obtain rfl := Option.some.inj h
        exact fr_iret F E rfl dX8_freeBehind_35
      · rw [if_neg hc2] at h
        refine fr_aload_n (q := 18) F dX8_freeBehind_17 rfl rfl ?_
        refine fr_iload_n (q := 19) F dX8_freeBehind_18 rfl rfl ?_
        obtain ⟨r3, hr4, h⟩ := fr_bd_some h
        refine fr_callV (q := 22) (M' := (u0, n0)) (rest := []) (st' := [.int (fr_b r3)]) F dX8_freeBehind_19 rfl (tX8_isFree hr4) mlRX8_91 msX8_isFree ⟨Nat.le_of_ble_eq_true rfl, Nat.le_of_ble_eq_true rfl⟩ (by decide) rfl rfl rfl (Nat.le_of_ble_eq_true rfl) rfl ?_
        refine fr_if_eqb (q := 25) (tgt := 27) F dX8_freeBehind_22 (by decide) rfl (fun hc5 => ?_) (fun hc5 => ?_)
        · rw [if_neg hc5] at h
          refine fr_iinc (q := 30) (v := (x3 + (1 : Int32))) F dX8_freeBehind_27 rfl rfl rfl (by decide) rfl ?_
          refine fr_goto (tgt := 4) F dX8_freeBehind_30 (by decide) ?_
          exact fr_wj (ih _ _ h) ⟨rfl, ⟨rfl, ⟨rfl, trivial⟩⟩⟩
        · rw [if_pos hc5] at h
          refine fr_iload_n (q := 26) F dX8_freeBehind_25 rfl rfl ?_
          obtain rfl := Option.some.inj h
          exact fr_iret F E rfl dX8_freeBehind_26
theorem tX8_freeBehind {l : Launch} {G : fr_G} {u0 : fr_N} {a1 : Int32} {a2 : Int32} {n0 : fr_N} {rz : Int32} (h : fX8_freeBehind a1 a2 n0 = some rz) : fr_Met l G YX8_freeBehind [.ref 52, .int a1, .int a2] (u0, n0) (some (.int rz)) (u0, n0) := by
  refine fr_met (pad := List.replicate 1 none) (by decide) (Nat.le_of_ble_eq_true rfl) (fun _ h => List.eq_of_mem_replicate h) ⟨rfl, rfl⟩ (fun K F hG hL E => ?_)
  subst hG; subst hL
  rw [fX8_freeBehind] at h
  show fr_V YX8_freeBehind K 0 [some (.ref 52), some (.int a1), some (.int a2), none] [] (u0, n0)
  refine fr_iload_n (q := 1) F dX8_freeBehind_0 rfl rfl ?_
  refine fr_iconst (q := 2) (v := 1) F dX8_freeBehind_1 rfl (by decide) ?_
  refine fr_iadd (q := 3) F dX8_freeBehind_2 rfl ?_
  refine fr_istore_n (q := 4) F dX8_freeBehind_3 rfl (by decide) rfl ?_
  exact fr_wj (tX8_freeBehind_4 F E _ _ _ h) ⟨rfl, ⟨rfl, ⟨rfl, trivial⟩⟩⟩
/-! FeastRotaModel.weekdayOf (52, None) -/
def fX8_weekdayOf (a1 : Int32) (n0 : fr_N) : Option Int32 := some (fr_rem (((n0 0 21) + a1) - (1 : Int32)) (7 : Int32))
theorem tX8_weekdayOf {l : Launch} {G : fr_G} {u0 : fr_N} {a1 : Int32} {n0 : fr_N} {rz : Int32} (h : fX8_weekdayOf a1 n0 = some rz) : fr_Met l G YX8_weekdayOf [.ref 52, .int a1] (u0, n0) (some (.int rz)) (u0, n0) := by
  refine fr_met (pad := List.replicate 0 none) (by decide) (Nat.le_of_ble_eq_true rfl) (fun _ h => List.eq_of_mem_replicate h) ⟨rfl, rfl⟩ (fun K F hG hL E => ?_)
  subst hG; subst hL
  rw [fX8_weekdayOf] at h
  show fr_V YX8_weekdayOf K 0 [some (.ref 52), some (.int a1)] [] (u0, n0)
  refine fr_aload_n (q := 1) F dX8_weekdayOf_0 rfl rfl ?_
  refine fr_gfI (q := 4) (x := (n0 0 21)) F dX8_weekdayOf_1 rfl faRX8_63 (by decide) rfl rfl rfl ?_
  refine fr_iload_n (q := 5) F dX8_weekdayOf_4 rfl rfl ?_
  refine fr_iadd (q := 6) F dX8_weekdayOf_5 rfl ?_
  refine fr_iconst (q := 7) (v := 1) F dX8_weekdayOf_6 rfl (by decide) ?_
  refine fr_isub (q := 8) F dX8_weekdayOf_7 rfl ?_
  refine fr_bipush (q := 10) (v := 7) F dX8_weekdayOf_8 rfl (by decide) ?_
  refine fr_irem (q := 11) F dX8_weekdayOf_10 rfl (by decide) ?_
  obtain rfl := Option.some.inj h
  exact fr_iret F E rfl dX8_weekdayOf_11
/-! FeastRotaModel.comes (52, None) -/
def fX8_comes_87 (x5 : Int32) (s0 : Int32) (s1 : Int32) (n0 : fr_N) : Option fr_N := fr_bd (fX8_holds s1 s0 x5 n0) fun n3 => (some n3)
def fX8_comes_138 (s0 : Int32) (s1 : Int32) (s2 : Int32) (n0 : fr_N) : Option fr_N := fr_bd (fX8_holds s2 s1 s0 n0) fun n6 => (some n6)
def fX8_comes_125 (x2 : Int32) (x5 : Int32) (s0 : Int32) (s1 : Int32) (n0 : fr_N) : Option fr_N := if x5 = (-1000000 : Int32) then fX8_comes_138 x2 s0 s1 n0 else fX8_comes_138 x5 s0 s1 n0
def fX8_comes_167 (s0 : Int32) (s1 : Int32) (s2 : Int32) (n0 : fr_N) : Option fr_N := fr_bd (fX8_holds s2 s1 s0 n0) fun n10 => (some n10)
def fX8_comes_156 (x2 : Int32) (x3 : Int32) (s0 : Int32) (s1 : Int32) (n0 : fr_N) : Option fr_N := if x3 = (2 : Int32) then fX8_comes_167 x2 s0 s1 n0 else fX8_comes_167 (-1000000 : Int32) s0 s1 n0
def fX8_comes_57 (x1 : Int32) (x2 : Int32) (x3 : Int32) (n0 : fr_N) : Option fr_N := if x3 ≤ (3 : Int32) then if x3 = (3 : Int32) then fr_bd (fX8_freeBehind x2 (x2 + (7 : Int32)) n0) fun r15 => (if r15 = (-1000000 : Int32) then fX8_comes_125 x2 r15 (3 : Int32) x1 n0 else fX8_comes_125 x2 r15 (2 : Int32) x1 n0) else if x3 = (2 : Int32) then fX8_comes_156 x2 x3 (3 : Int32) x1 n0 else fX8_comes_156 x2 x3 (4 : Int32) x1 n0 else fr_bd (fX8_freeBehind x2 (n0 0 20) n0) fun r18 => (if r18 = (-1000000 : Int32) then fX8_comes_87 r18 (5 : Int32) x1 n0 else fX8_comes_87 r18 (2 : Int32) x1 n0)
def fX8_comes_32 (x1 : Int32) (x2 : Int32) (x3 : Int32) (s0 : Bool) (n0 : fr_N) : Option fr_N := fr_bd (fX8_isFree x2 n0) fun r21 => (if r21 = true then if s0 = true then fr_bd (fX8_holds x1 (1 : Int32) x2 n0) fun n27 => (some n27) else fX8_comes_57 x1 x2 x3 n0 else fX8_comes_57 x1 x2 x3 n0)
def fX8_comes (a1 : Int32) (n0 : fr_N) : Option fr_N := fr_ck a1 12 (fr_bd (fX8_of a1 (2 : Int32) n0) fun r29 => (if (2 : Int32) < r29 then fX8_comes_32 a1 (n0 8 (Int32.toNatClampNeg a1)) r29 true n0 else fr_bd (fX8_weekdayOf (n0 8 (Int32.toNatClampNeg a1)) n0) fun r32 => (if r32 = 0 then fX8_comes_32 a1 (n0 8 (Int32.toNatClampNeg a1)) r29 false n0 else fX8_comes_32 a1 (n0 8 (Int32.toNatClampNeg a1)) r29 true n0)))
theorem tX8_comes_87 {K : fr_K} {u0 : fr_N} {nz : fr_N} (F : fr_F YX8_comes K) (E : fr_R YX8_comes K none (u0, nz)) {x5 : Int32} {s0 : Int32} {s1 : Int32} {n0 : fr_N} (h : fX8_comes_87 x5 s0 s1 n0 = some nz) : fr_V YX8_comes K 87 [none, none, none, none, none, some (.int x5)] [.int s0, .int s1, .ref 52] (u0, n0) := by
  rw [fX8_comes_87] at h
  refine fr_iload (q := 89) F dX8_comes_87 rfl rfl ?_
  obtain ⟨n3, hr2, h⟩ := fr_bd_some h
  refine fr_callV (q := 92) (M' := (u0, n3)) (rest := []) (st' := []) F dX8_comes_89 rfl (tX8_holds hr2) mlRX8_94 msX8_holds ⟨Nat.le_of_ble_eq_true rfl, Nat.le_of_ble_eq_true rfl⟩ (by decide) rfl rfl rfl (Nat.le_of_ble_eq_true rfl) rfl ?_
  refine fr_goto (tgt := 170) F dX8_comes_92 (by decide) ?_
  obtain rfl := Option.some.inj h
  exact fr_vret F E rfl dX8_comes_170
theorem tX8_comes_138 {K : fr_K} {u0 : fr_N} {nz : fr_N} (F : fr_F YX8_comes K) (E : fr_R YX8_comes K none (u0, nz)) {s0 : Int32} {s1 : Int32} {s2 : Int32} {n0 : fr_N} (h : fX8_comes_138 s0 s1 s2 n0 = some nz) : fr_V YX8_comes K 138 [none, none, none, none, none, none] [.int s0, .int s1, .int s2, .ref 52] (u0, n0) := by
  rw [fX8_comes_138] at h
  obtain ⟨n6, hr5, h⟩ := fr_bd_some h
  refine fr_callV (q := 141) (M' := (u0, n6)) (rest := []) (st' := []) F dX8_comes_138 rfl (tX8_holds hr5) mlRX8_94 msX8_holds ⟨Nat.le_of_ble_eq_true rfl, Nat.le_of_ble_eq_true rfl⟩ (by decide) rfl rfl rfl (Nat.le_of_ble_eq_true rfl) rfl ?_
  refine fr_goto (tgt := 170) F dX8_comes_141 (by decide) ?_
  obtain rfl := Option.some.inj h
  exact fr_vret F E rfl dX8_comes_170
theorem tX8_comes_125 {K : fr_K} {u0 : fr_N} {nz : fr_N} (F : fr_F YX8_comes K) (E : fr_R YX8_comes K none (u0, nz)) {x2 : Int32} {x5 : Int32} {s0 : Int32} {s1 : Int32} {n0 : fr_N} (h : fX8_comes_125 x2 x5 s0 s1 n0 = some nz) : fr_V YX8_comes K 125 [none, none, some (.int x2), none, none, some (.int x5)] [.int s0, .int s1, .ref 52] (u0, n0) := by
  rw [fX8_comes_125] at h
  refine fr_iload (q := 127) F dX8_comes_125 rfl rfl ?_
  refine fr_ldc (q := 129) F dX8_comes_127 rfl kcRX8_90 ?_
  refine fr_icmp_ne (q := 132) (tgt := 136) F dX8_comes_129 (by decide) rfl (fun hc7 => ?_) (fun hc7 => ?_)
  · rw [if_neg hc7] at h
    refine fr_iload (q := 138) F dX8_comes_136 rfl rfl ?_
    exact fr_wj (tX8_comes_138 F E h) trivial
  · rw [if_pos hc7] at h
    refine fr_iload_n (q := 133) F dX8_comes_132 rfl rfl ?_
    refine fr_goto (tgt := 138) F dX8_comes_133 (by decide) ?_
    exact fr_wj (tX8_comes_138 F E h) trivial
theorem tX8_comes_167 {K : fr_K} {u0 : fr_N} {nz : fr_N} (F : fr_F YX8_comes K) (E : fr_R YX8_comes K none (u0, nz)) {s0 : Int32} {s1 : Int32} {s2 : Int32} {n0 : fr_N} (h : fX8_comes_167 s0 s1 s2 n0 = some nz) : fr_V YX8_comes K 167 [none, none, none, none, none, none] [.int s0, .int s1, .int s2, .ref 52] (u0, n0) := by
  rw [fX8_comes_167] at h
  obtain ⟨n10, hr9, h⟩ := fr_bd_some h
  refine fr_callV (q := 170) (M' := (u0, n10)) (rest := []) (st' := []) F dX8_comes_167 rfl (tX8_holds hr9) mlRX8_94 msX8_holds ⟨Nat.le_of_ble_eq_true rfl, Nat.le_of_ble_eq_true rfl⟩ (by decide) rfl rfl rfl (Nat.le_of_ble_eq_true rfl) rfl ?_
  obtain rfl := Option.some.inj h
  exact fr_vret F E rfl dX8_comes_170
theorem tX8_comes_156 {K : fr_K} {u0 : fr_N} {nz : fr_N} (F : fr_F YX8_comes K) (E : fr_R YX8_comes K none (u0, nz)) {x2 : Int32} {x3 : Int32} {s0 : Int32} {s1 : Int32} {n0 : fr_N} (h : fX8_comes_156 x2 x3 s0 s1 n0 = some nz) : fr_V YX8_comes K 156 [none, none, some (.int x2), some (.int x3), none, none] [.int s0, .int s1, .ref 52] (u0, n0) := by
  rw [fX8_comes_156] at h
  refine fr_iload_n (q := 157) F dX8_comes_156 rfl rfl ?_
  refine fr_iconst (q := 158) (v := 2) F dX8_comes_157 rfl (by decide) ?_
  refine fr_icmp_ne (q := 161) (tgt := 165) F dX8_comes_158 (by decide) rfl (fun hc11 => ?_) (fun hc11 => ?_)
  · rw [if_neg hc11] at h
    refine fr_ldc (q := 167) F dX8_comes_165 rfl kcRX8_90 ?_
    exact fr_wj (tX8_comes_167 F E h) trivial
  · rw [if_pos hc11] at h
    refine fr_iload_n (q := 162) F dX8_comes_161 rfl rfl ?_
    refine fr_goto (tgt := 167) F dX8_comes_162 (by decide) ?_
    exact fr_wj (tX8_comes_167 F E h) trivial
theorem tX8_comes_57 {K : fr_K} {u0 : fr_N} {nz : fr_N} (F : fr_F YX8_comes K) (E : fr_R YX8_comes K none (u0, nz)) {x1 : Int32} {x2 : Int32} {x3 : Int32} {n0 : fr_N} (h : fX8_comes_57 x1 x2 x3 n0 = some nz) : fr_V YX8_comes K 57 [some (.ref 52), some (.int x1), some (.int x2), some (.int x3), none, none] [] (u0, n0) := by
  rw [fX8_comes_57] at h
  refine fr_iload_n (q := 58) F dX8_comes_57 rfl rfl ?_
  refine fr_iconst (q := 59) (v := 3) F dX8_comes_58 rfl (by decide) ?_
  refine fr_icmp_le (q := 62) (tgt := 95) F dX8_comes_59 (by decide) rfl (fun hc12 => ?_) (fun hc12 => ?_)
  · rw [if_pos hc12] at h
    refine fr_iload_n (q := 96) F dX8_comes_95 rfl rfl ?_
    refine fr_iconst (q := 97) (v := 3) F dX8_comes_96 rfl (by decide) ?_
    refine fr_icmp_ne (q := 100) (tgt := 144) F dX8_comes_97 (by decide) rfl (fun hc13 => ?_) (fun hc13 => ?_)
    · rw [if_neg hc13] at h
      refine fr_aload_n (q := 145) F dX8_comes_144 rfl rfl ?_
      refine fr_iload_n (q := 146) F dX8_comes_145 rfl rfl ?_
      refine fr_iload_n (q := 147) F dX8_comes_146 rfl rfl ?_
      refine fr_iconst (q := 148) (v := 2) F dX8_comes_147 rfl (by decide) ?_
      refine fr_icmp_ne (q := 151) (tgt := 155) F dX8_comes_148 (by decide) rfl (fun hc14 => ?_) (fun hc14 => ?_)
      · rw [if_neg hc14] at h
        refine fr_iconst (q := 156) (v := 4) F dX8_comes_155 rfl (by decide) ?_
        exact fr_wj (tX8_comes_156 F E h) ⟨rfl, ⟨rfl, trivial⟩⟩
      · rw [if_pos hc14] at h
        refine fr_iconst (q := 152) (v := 3) F dX8_comes_151 rfl (by decide) ?_
        refine fr_goto (tgt := 156) F dX8_comes_152 (by decide) ?_
        exact fr_wj (tX8_comes_156 F E h) ⟨rfl, ⟨rfl, trivial⟩⟩
    · rw [if_pos hc13] at h
      refine fr_aload_n (q := 101) F dX8_comes_100 rfl rfl ?_
      refine fr_iload_n (q := 102) F dX8_comes_101 rfl rfl ?_
      refine fr_iload_n (q := 103) F dX8_comes_102 rfl rfl ?_
      refine fr_bipush (q := 105) (v := 7) F dX8_comes_103 rfl (by decide) ?_
      refine fr_iadd (q := 106) F dX8_comes_105 rfl ?_
      obtain ⟨r15, hr16, h⟩ := fr_bd_some h
      refine fr_callV (q := 109) (M' := (u0, n0)) (rest := []) (st' := [.int r15]) F dX8_comes_106 rfl (tX8_freeBehind hr16) mlRX8_98 msX8_freeBehind ⟨Nat.le_of_ble_eq_true rfl, Nat.le_of_ble_eq_true rfl⟩ (by decide) rfl rfl rfl (Nat.le_of_ble_eq_true rfl) rfl ?_
      refine fr_istore (q := 111) F dX8_comes_109 rfl (by decide) rfl ?_
      refine fr_aload_n (q := 112) F dX8_comes_111 rfl rfl ?_
      refine fr_iload_n (q := 113) F dX8_comes_112 rfl rfl ?_
      refine fr_iload (q := 115) F dX8_comes_113 rfl rfl ?_
      refine fr_ldc (q := 117) F dX8_comes_115 rfl kcRX8_90 ?_
      refine fr_icmp_ne (q := 120) (tgt := 124) F dX8_comes_117 (by decide) rfl (fun hc17 => ?_) (fun hc17 => ?_)
      · rw [if_neg hc17] at h
        refine fr_iconst (q := 125) (v := 2) F dX8_comes_124 rfl (by decide) ?_
        exact fr_wj (tX8_comes_125 F E h) ⟨rfl, ⟨rfl, trivial⟩⟩
      · rw [if_pos hc17] at h
        refine fr_iconst (q := 121) (v := 3) F dX8_comes_120 rfl (by decide) ?_
        refine fr_goto (tgt := 125) F dX8_comes_121 (by decide) ?_
        exact fr_wj (tX8_comes_125 F E h) ⟨rfl, ⟨rfl, trivial⟩⟩
  · rw [if_neg hc12] at h
    refine fr_aload_n (q := 63) F dX8_comes_62 rfl rfl ?_
    refine fr_iload_n (q := 64) F dX8_comes_63 rfl rfl ?_
    refine fr_aload_n (q := 65) F dX8_comes_64 rfl rfl ?_
    refine fr_gfI (q := 68) (x := (n0 0 20)) F dX8_comes_65 rfl faRX8_71 (by decide) rfl rfl rfl ?_
    obtain ⟨r18, hr19, h⟩ := fr_bd_some h
    refine fr_callV (q := 71) (M' := (u0, n0)) (rest := []) (st' := [.int r18]) F dX8_comes_68 rfl (tX8_freeBehind hr19) mlRX8_98 msX8_freeBehind ⟨Nat.le_of_ble_eq_true rfl, Nat.le_of_ble_eq_true rfl⟩ (by decide) rfl rfl rfl (Nat.le_of_ble_eq_true rfl) rfl ?_
    refine fr_istore (q := 73) F dX8_comes_71 rfl (by decide) rfl ?_
    refine fr_aload_n (q := 74) F dX8_comes_73 rfl rfl ?_
    refine fr_iload_n (q := 75) F dX8_comes_74 rfl rfl ?_
    refine fr_iload (q := 77) F dX8_comes_75 rfl rfl ?_
    refine fr_ldc (q := 79) F dX8_comes_77 rfl kcRX8_90 ?_
    refine fr_icmp_ne (q := 82) (tgt := 86) F dX8_comes_79 (by decide) rfl (fun hc20 => ?_) (fun hc20 => ?_)
    · rw [if_neg hc20] at h
      refine fr_iconst (q := 87) (v := 2) F dX8_comes_86 rfl (by decide) ?_
      exact fr_wj (tX8_comes_87 F E h) ⟨rfl, trivial⟩
    · rw [if_pos hc20] at h
      refine fr_iconst (q := 83) (v := 5) F dX8_comes_82 rfl (by decide) ?_
      refine fr_goto (tgt := 87) F dX8_comes_83 (by decide) ?_
      exact fr_wj (tX8_comes_87 F E h) ⟨rfl, trivial⟩
theorem tX8_comes_32 {K : fr_K} {u0 : fr_N} {nz : fr_N} (F : fr_F YX8_comes K) (E : fr_R YX8_comes K none (u0, nz)) {x1 : Int32} {x2 : Int32} {x3 : Int32} {s0 : Bool} {n0 : fr_N} (h : fX8_comes_32 x1 x2 x3 s0 n0 = some nz) : fr_V YX8_comes K 32 [some (.ref 52), some (.int x1), some (.int x2), some (.int x3), none, none] [.int (fr_b s0)] (u0, n0) := by
  rw [fX8_comes_32] at h
  refine fr_istore (q := 34) F dX8_comes_32 rfl (by decide) rfl ?_
  refine fr_aload_n (q := 35) F dX8_comes_34 rfl rfl ?_
  refine fr_iload_n (q := 36) F dX8_comes_35 rfl rfl ?_
  obtain ⟨r21, hr22, h⟩ := fr_bd_some h
  refine fr_callV (q := 39) (M' := (u0, n0)) (rest := []) (st' := [.int (fr_b r21)]) F dX8_comes_36 rfl (tX8_isFree hr22) mlRX8_91 msX8_isFree ⟨Nat.le_of_ble_eq_true rfl, Nat.le_of_ble_eq_true rfl⟩ (by decide) rfl rfl rfl (Nat.le_of_ble_eq_true rfl) rfl ?_
  refine fr_if_eqb (q := 42) (tgt := 57) F dX8_comes_39 (by decide) rfl (fun hc23 => ?_) (fun hc23 => ?_)
  · rw [if_neg hc23] at h
    exact fr_wj (tX8_comes_57 F E h) ⟨rfl, ⟨rfl, ⟨rfl, ⟨rfl, trivial⟩⟩⟩⟩
  · rw [if_pos hc23] at h
    refine fr_iload (q := 44) F dX8_comes_42 rfl rfl ?_
    refine fr_if_eqb (q := 47) (tgt := 57) F dX8_comes_44 (by decide) rfl (fun hc24 => ?_) (fun hc24 => ?_)
    · rw [if_neg hc24] at h
      exact fr_wj (tX8_comes_57 F E h) ⟨rfl, ⟨rfl, ⟨rfl, ⟨rfl, trivial⟩⟩⟩⟩
    · rw [if_pos hc24] at h
      refine fr_aload_n (q := 48) F dX8_comes_47 rfl rfl ?_
      refine fr_iload_n (q := 49) F dX8_comes_48 rfl rfl ?_
      refine fr_iconst (q := 50) (v := 1) F dX8_comes_49 rfl (by decide) ?_
      refine fr_iload_n (q := 51) F dX8_comes_50 rfl rfl ?_
      obtain ⟨n27, hr26, h⟩ := fr_bd_some h
      refine fr_callV (q := 54) (M' := (u0, n27)) (rest := []) (st' := []) F dX8_comes_51 rfl (tX8_holds hr26) mlRX8_94 msX8_holds ⟨Nat.le_of_ble_eq_true rfl, Nat.le_of_ble_eq_true rfl⟩ (by decide) rfl rfl rfl (Nat.le_of_ble_eq_true rfl) rfl ?_
      refine fr_goto (tgt := 170) F dX8_comes_54 (by decide) ?_
      obtain rfl := Option.some.inj h
      exact fr_vret F E rfl dX8_comes_170
theorem tX8_comes {l : Launch} {G : fr_G} {u0 : fr_N} {a1 : Int32} {n0 : fr_N} {nz : fr_N} (h : fX8_comes a1 n0 = some nz) : fr_Met l G YX8_comes [.ref 52, .int a1] (u0, n0) none (u0, nz) := by
  refine fr_met (pad := List.replicate 4 none) (by decide) (Nat.le_of_ble_eq_true rfl) (fun _ h => List.eq_of_mem_replicate h) ⟨rfl, rfl⟩ (fun K F hG hL E => ?_)
  subst hG; subst hL
  rw [fX8_comes] at h
  show fr_V YX8_comes K 0 [some (.ref 52), some (.int a1), none, none, none, none] [] (u0, n0)
  refine fr_aload_n (q := 1) F dX8_comes_0 rfl rfl ?_
  refine fr_gfR (q := 4) (j := 60) F dX8_comes_1 rfl faRX8_32 (by decide) rfl rfl ?_
  refine fr_iload_n (q := 5) F dX8_comes_4 rfl rfl ?_
  obtain ⟨hi28, h⟩ := fr_ck_some h
  refine fr_ial (q := 6) (x := (n0 8 (Int32.toNatClampNeg a1))) F dX8_comes_5 rfl hi28 (by decide) rfl rfl ?_
  refine fr_istore_n (q := 7) F dX8_comes_6 rfl (by decide) rfl ?_
  refine fr_aload_n (q := 8) F dX8_comes_7 rfl rfl ?_
  refine fr_iload_n (q := 9) F dX8_comes_8 rfl rfl ?_
  refine fr_iconst (q := 10) (v := 2) F dX8_comes_9 rfl (by decide) ?_
  obtain ⟨r29, hr30, h⟩ := fr_bd_some h
  refine fr_callV (q := 13) (M' := (u0, n0)) (rest := []) (st' := [.int r29]) F dX8_comes_10 rfl (tX8_of hr30) mlRX8_84 msX8_of ⟨Nat.le_of_ble_eq_true rfl, Nat.le_of_ble_eq_true rfl⟩ (by decide) rfl rfl rfl (Nat.le_of_ble_eq_true rfl) rfl ?_
  refine fr_istore_n (q := 14) F dX8_comes_13 rfl (by decide) rfl ?_
  refine fr_iload_n (q := 15) F dX8_comes_14 rfl rfl ?_
  refine fr_iconst (q := 16) (v := 2) F dX8_comes_15 rfl (by decide) ?_
  refine fr_icmp_gt (q := 19) (tgt := 27) F dX8_comes_16 (by decide) rfl (fun hc31 => ?_) (fun hc31 => ?_)
  · rw [if_pos hc31] at h
    refine fr_iconst (q := 28) (v := 1) F dX8_comes_27 rfl (by decide) ?_
    refine fr_goto (tgt := 32) F dX8_comes_28 (by decide) ?_
    exact fr_wj (tX8_comes_32 F E h) ⟨rfl, ⟨rfl, ⟨rfl, ⟨rfl, trivial⟩⟩⟩⟩
  · rw [if_neg hc31] at h
    refine fr_aload_n (q := 20) F dX8_comes_19 rfl rfl ?_
    refine fr_iload_n (q := 21) F dX8_comes_20 rfl rfl ?_
    obtain ⟨r32, hr33, h⟩ := fr_bd_some h
    refine fr_callV (q := 24) (M' := (u0, n0)) (rest := []) (st' := [.int r32]) F dX8_comes_21 rfl (tX8_weekdayOf hr33) mlRX8_67 msX8_weekdayOf ⟨Nat.le_of_ble_eq_true rfl, Nat.le_of_ble_eq_true rfl⟩ (by decide) rfl rfl rfl (Nat.le_of_ble_eq_true rfl) rfl ?_
    refine fr_if_eq (q := 27) (tgt := 31) F dX8_comes_24 (by decide) rfl (fun hc34 => ?_) (fun hc34 => ?_)
    · rw [if_pos hc34] at h
      refine fr_iconst (q := 32) (v := 0) F dX8_comes_31 rfl (by decide) ?_
      exact fr_wj (tX8_comes_32 F E h) ⟨rfl, ⟨rfl, ⟨rfl, ⟨rfl, trivial⟩⟩⟩⟩
    · rw [if_neg hc34] at h
      refine fr_iconst (q := 28) (v := 1) F dX8_comes_27 rfl (by decide) ?_
      refine fr_goto (tgt := 32) F dX8_comes_28 (by decide) ?_
      exact fr_wj (tX8_comes_32 F E h) ⟨rfl, ⟨rfl, ⟨rfl, ⟨rfl, trivial⟩⟩⟩⟩
/-! FeastRotaModel.dayOfDate (52, None, None) -/
def fX8_dayOfDate (a1 : Int32) (a2 : Int32) (n0 : fr_N) : Option Int32 := fr_bd (fX8_isLeap a1 n0) fun r1 => (if r1 = true then if a2 < (60 : Int32) then some (a2 + (0 : Int32)) else some (a2 + (1 : Int32)) else some (a2 + (0 : Int32)))
theorem tX8_dayOfDate {l : Launch} {G : fr_G} {u0 : fr_N} {a1 : Int32} {a2 : Int32} {n0 : fr_N} {rz : Int32} (h : fX8_dayOfDate a1 a2 n0 = some rz) : fr_Met l G YX8_dayOfDate [.ref 52, .int a1, .int a2] (u0, n0) (some (.int rz)) (u0, n0) := by
  refine fr_met (pad := List.replicate 0 none) (by decide) (Nat.le_of_ble_eq_true rfl) (fun _ h => List.eq_of_mem_replicate h) ⟨rfl, rfl⟩ (fun K F hG hL E => ?_)
  subst hG; subst hL
  rw [fX8_dayOfDate] at h
  show fr_V YX8_dayOfDate K 0 [some (.ref 52), some (.int a1), some (.int a2)] [] (u0, n0)
  refine fr_iload_n (q := 1) F dX8_dayOfDate_0 rfl rfl ?_
  refine fr_aload_n (q := 2) F dX8_dayOfDate_1 rfl rfl ?_
  refine fr_iload_n (q := 3) F dX8_dayOfDate_2 rfl rfl ?_
  obtain ⟨r1, hr2, h⟩ := fr_bd_some h
  refine fr_callV (q := 6) (M' := (u0, n0)) (rest := [.int a2]) (st' := [.int (fr_b r1), .int a2]) F dX8_dayOfDate_3 rfl (tX8_isLeap hr2) mlRX8_59 msX8_isLeap ⟨Nat.le_of_ble_eq_true rfl, Nat.le_of_ble_eq_true rfl⟩ (by decide) rfl rfl rfl (Nat.le_of_ble_eq_true rfl) rfl ?_
  refine fr_if_eqb (q := 9) (tgt := 19) F dX8_dayOfDate_6 (by decide) rfl (fun hc3 => ?_) (fun hc3 => ?_)
  · rw [if_neg hc3] at h
    refine fr_iconst (q := 20) (v := 0) F dX8_dayOfDate_19 rfl (by decide) ?_
    refine fr_iadd (q := 21) F dX8_dayOfDate_20 rfl ?_
    obtain rfl := Option.some.inj h
    exact fr_iret F E rfl dX8_dayOfDate_21
  · rw [if_pos hc3] at h
    refine fr_iload_n (q := 10) F dX8_dayOfDate_9 rfl rfl ?_
    refine fr_bipush (q := 12) (v := 60) F dX8_dayOfDate_10 rfl (by decide) ?_
    refine fr_icmp_lt (q := 15) (tgt := 19) F dX8_dayOfDate_12 (by decide) rfl (fun hc4 => ?_) (fun hc4 => ?_)
    · rw [if_pos hc4] at h
      refine fr_iconst (q := 20) (v := 0) F dX8_dayOfDate_19 rfl (by decide) ?_
      refine fr_iadd (q := 21) F dX8_dayOfDate_20 rfl ?_
      obtain rfl := Option.some.inj h
      exact fr_iret F E rfl dX8_dayOfDate_21
    · rw [if_neg hc4] at h
      refine fr_iconst (q := 16) (v := 1) F dX8_dayOfDate_15 rfl (by decide) ?_
      refine fr_goto (tgt := 20) F dX8_dayOfDate_16 (by decide) ?_
      refine fr_iadd (q := 21) F dX8_dayOfDate_20 rfl ?_
      obtain rfl := Option.some.inj h
      exact fr_iret F E rfl dX8_dayOfDate_21
