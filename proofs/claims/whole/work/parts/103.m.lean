/-! FeastRotaModel.isN (None, None) -/
def fX8_isN (a0 : Int32) (a1 : Int32) : Option Bool := if (2 : Int32) ≤ a0 then fr_bd (fX8_in (Int32.toInt64 a1) (1 : Int64) (365 : Int64)) fun r2 => (some r2) else fr_bd (fX8_in (Int32.toInt64 a1) (0 : Int64) (99 : Int64)) fun r4 => (some r4)
theorem tX8_isN {l : Launch} {G : fr_G} {M0 : fr_M} {a0 : Int32} {a1 : Int32} {rz : Bool} (h : fX8_isN a0 a1 = some rz) : fr_Met l G YX8_isN [.int a0, .int a1] M0 (some (.int (fr_b rz))) M0 := by
  refine fr_met (pad := List.replicate 0 none) (by decide) (Nat.le_of_ble_eq_true rfl) (fun _ h => List.eq_of_mem_replicate h) ⟨rfl, rfl⟩ (fun K F hG hL E => ?_)
  subst hG; subst hL
  rw [fX8_isN] at h
  show fr_V YX8_isN K 0 [some (.int a0), some (.int a1)] [] M0
  refine fr_iload_n (q := 1) F dX8_isN_0 rfl rfl ?_
  refine fr_iconst (q := 2) (v := 2) F dX8_isN_1 rfl (by decide) ?_
  refine fr_icmp_ge (q := 5) (tgt := 17) F dX8_isN_2 (by decide) rfl (fun hc1 => ?_) (fun hc1 => ?_)
  · rw [if_pos hc1] at h
    refine fr_iload_n (q := 18) F dX8_isN_17 rfl rfl ?_
    refine fr_i2l (q := 19) F dX8_isN_18 rfl ?_
    refine fr_lconst (q := 20) (v := 1) F dX8_isN_19 rfl (by decide) ?_
    refine fr_ldc2 (q := 23) F dX8_isN_20 rfl klRX8_241 ?_
    obtain ⟨r2, hr3, h⟩ := fr_bd_some h
    refine fr_callS (q := 26) (M' := M0) (rest := []) (st' := [.int (fr_b r2)]) F dX8_isN_23 rfl (tX8_in hr3) mlRX8_55 msX8_in ⟨Nat.le_of_ble_eq_true rfl, Nat.le_of_ble_eq_true rfl⟩ rfl rfl (Nat.le_of_ble_eq_true rfl) rfl ?_
    obtain rfl := Option.some.inj h
    exact fr_zret F E rfl dX8_isN_26
  · rw [if_neg hc1] at h
    refine fr_iload_n (q := 6) F dX8_isN_5 rfl rfl ?_
    refine fr_i2l (q := 7) F dX8_isN_6 rfl ?_
    refine fr_lconst (q := 8) (v := 0) F dX8_isN_7 rfl (by decide) ?_
    refine fr_ldc2 (q := 11) F dX8_isN_8 rfl klRX8_239 ?_
    obtain ⟨r4, hr5, h⟩ := fr_bd_some h
    refine fr_callS (q := 14) (M' := M0) (rest := []) (st' := [.int (fr_b r4)]) F dX8_isN_11 rfl (tX8_in hr5) mlRX8_55 msX8_in ⟨Nat.le_of_ble_eq_true rfl, Nat.le_of_ble_eq_true rfl⟩ rfl rfl (Nat.le_of_ble_eq_true rfl) rfl ?_
    refine fr_goto (tgt := 26) F dX8_isN_14 (by decide) ?_
    obtain rfl := Option.some.inj h
    exact fr_zret F E rfl dX8_isN_26
/-! FeastRotaModel.mayBe (52, None, None, None) -/
def fX8_mayBe (a1 : Int32) (a2 : Int32) (a3 : Int32) (n0 : fr_N) : Option Bool := if a2 = (0 : Int32) then fr_bd (fX8_in (Int32.toInt64 a3) (0 : Int64) (3 : Int64)) fun r2 => (if r2 = true then fr_bd (fX8_of a1 (1 : Int32) n0) fun r5 => (fr_bd (fX8_isN a3 r5) fun r7 => (if r7 = true then some true else some false)) else some false) else (if a2 = (1 : Int32) then fr_bd (fX8_of a1 (0 : Int32) n0) fun r11 => (fr_bd (fX8_isN r11 a3) fun r13 => (some r13)) else (if a2 = (2 : Int32) then fr_bd (fX8_in (Int32.toInt64 a3) (1 : Int64) (5 : Int64)) fun r16 => (some r16) else (if a2 = (3 : Int32) then fr_bd (fX8_in (Int32.toInt64 a3) (1 : Int64) (6 : Int64)) fun r19 => (some r19) else (some false))))
theorem tX8_mayBe {l : Launch} {G : fr_G} {u0 : fr_N} {a1 : Int32} {a2 : Int32} {a3 : Int32} {n0 : fr_N} {rz : Bool} (h : fX8_mayBe a1 a2 a3 n0 = some rz) : fr_Met l G YX8_mayBe [.ref 52, .int a1, .int a2, .int a3] (u0, n0) (some (.int (fr_b rz))) (u0, n0) := by
  refine fr_met (pad := List.replicate 0 none) (by decide) (Nat.le_of_ble_eq_true rfl) (fun _ h => List.eq_of_mem_replicate h) ⟨rfl, rfl⟩ (fun K F hG hL E => ?_)
  subst hG; subst hL
  rw [fX8_mayBe] at h
  show fr_V YX8_mayBe K 0 [some (.ref 52), some (.int a1), some (.int a2), some (.int a3)] [] (u0, n0)
  refine fr_iload_n (q := 1) F dX8_mayBe_0 rfl rfl ?_
  by_cases hc1 : a2 = (0 : Int32)
  · rw [if_pos hc1] at h
    refine fr_tswI (k := 0) (off := 31) (tgt := 32) F hc1 dX8_mayBe_1 (by decide) (by decide) (by decide) (by decide) ?_
    refine fr_iload_n (q := 33) F dX8_mayBe_32 rfl rfl ?_
    refine fr_i2l (q := 34) F dX8_mayBe_33 rfl ?_
    refine fr_lconst (q := 35) (v := 0) F dX8_mayBe_34 rfl (by decide) ?_
    refine fr_ldc2 (q := 38) F dX8_mayBe_35 rfl klRX8_243 ?_
    obtain ⟨r2, hr3, h⟩ := fr_bd_some h
    refine fr_callS (q := 41) (M' := (u0, n0)) (rest := []) (st' := [.int (fr_b r2)]) F dX8_mayBe_38 rfl (tX8_in hr3) mlRX8_55 msX8_in ⟨Nat.le_of_ble_eq_true rfl, Nat.le_of_ble_eq_true rfl⟩ rfl rfl (Nat.le_of_ble_eq_true rfl) rfl ?_
    refine fr_if_eqb (q := 44) (tgt := 61) F dX8_mayBe_41 (by decide) rfl (fun hc4 => ?_) (fun hc4 => ?_)
    · rw [if_neg hc4] at h
      refine fr_iconst (q := 62) (v := 0) F dX8_mayBe_61 rfl (by decide) ?_
      obtain rfl := Option.some.inj h
      exact fr_zret F E rfl dX8_mayBe_62
    · rw [if_pos hc4] at h
      refine fr_iload_n (q := 45) F dX8_mayBe_44 rfl rfl ?_
      refine fr_aload_n (q := 46) F dX8_mayBe_45 rfl rfl ?_
      refine fr_iload_n (q := 47) F dX8_mayBe_46 rfl rfl ?_
      refine fr_iconst (q := 48) (v := 1) F dX8_mayBe_47 rfl (by decide) ?_
      obtain ⟨r5, hr6, h⟩ := fr_bd_some h
      refine fr_callV (q := 51) (M' := (u0, n0)) (rest := [.int a3]) (st' := [.int r5, .int a3]) F dX8_mayBe_48 rfl (tX8_of hr6) mlRX8_84 msX8_of ⟨Nat.le_of_ble_eq_true rfl, Nat.le_of_ble_eq_true rfl⟩ (by decide) rfl rfl rfl (Nat.le_of_ble_eq_true rfl) rfl ?_
      obtain ⟨r7, hr8, h⟩ := fr_bd_some h
      refine fr_callS (q := 54) (M' := (u0, n0)) (rest := []) (st' := [.int (fr_b r7)]) F dX8_mayBe_51 rfl (tX8_isN hr8) mlRX8_245 msX8_isN ⟨Nat.le_of_ble_eq_true rfl, Nat.le_of_ble_eq_true rfl⟩ rfl rfl (Nat.le_of_ble_eq_true rfl) rfl ?_
      refine fr_if_eqb (q := 57) (tgt := 61) F dX8_mayBe_54 (by decide) rfl (fun hc9 => ?_) (fun hc9 => ?_)
      · rw [if_neg hc9] at h
        refine fr_iconst (q := 62) (v := 0) F dX8_mayBe_61 rfl (by decide) ?_
        obtain rfl := Option.some.inj h
        exact fr_zret F E rfl dX8_mayBe_62
      · rw [if_pos hc9] at h
        refine fr_iconst (q := 58) (v := 1) F dX8_mayBe_57 rfl (by decide) ?_
        refine fr_goto (tgt := 62) F dX8_mayBe_58 (by decide) ?_
        obtain rfl := Option.some.inj h
        exact fr_zret F E rfl dX8_mayBe_62
  · rw [if_neg hc1] at h
    by_cases hc10 : a2 = (1 : Int32)
    · rw [if_pos hc10] at h
      refine fr_tswI (k := 1) (off := 62) (tgt := 63) F hc10 dX8_mayBe_1 (by decide) (by decide) (by decide) (by decide) ?_
      refine fr_aload_n (q := 64) F dX8_mayBe_63 rfl rfl ?_
      refine fr_iload_n (q := 65) F dX8_mayBe_64 rfl rfl ?_
      refine fr_iconst (q := 66) (v := 0) F dX8_mayBe_65 rfl (by decide) ?_
      obtain ⟨r11, hr12, h⟩ := fr_bd_some h
      refine fr_callV (q := 69) (M' := (u0, n0)) (rest := []) (st' := [.int r11]) F dX8_mayBe_66 rfl (tX8_of hr12) mlRX8_84 msX8_of ⟨Nat.le_of_ble_eq_true rfl, Nat.le_of_ble_eq_true rfl⟩ (by decide) rfl rfl rfl (Nat.le_of_ble_eq_true rfl) rfl ?_
      refine fr_iload_n (q := 70) F dX8_mayBe_69 rfl rfl ?_
      obtain ⟨r13, hr14, h⟩ := fr_bd_some h
      refine fr_callS (q := 73) (M' := (u0, n0)) (rest := []) (st' := [.int (fr_b r13)]) F dX8_mayBe_70 rfl (tX8_isN hr14) mlRX8_245 msX8_isN ⟨Nat.le_of_ble_eq_true rfl, Nat.le_of_ble_eq_true rfl⟩ rfl rfl (Nat.le_of_ble_eq_true rfl) rfl ?_
      obtain rfl := Option.some.inj h
      exact fr_zret F E rfl dX8_mayBe_73
    · rw [if_neg hc10] at h
      by_cases hc15 : a2 = (2 : Int32)
      · rw [if_pos hc15] at h
        refine fr_tswI (k := 2) (off := 73) (tgt := 74) F hc15 dX8_mayBe_1 (by decide) (by decide) (by decide) (by decide) ?_
        refine fr_iload_n (q := 75) F dX8_mayBe_74 rfl rfl ?_
        refine fr_i2l (q := 76) F dX8_mayBe_75 rfl ?_
        refine fr_lconst (q := 77) (v := 1) F dX8_mayBe_76 rfl (by decide) ?_
        refine fr_ldc2 (q := 80) F dX8_mayBe_77 rfl klRX8_248 ?_
        obtain ⟨r16, hr17, h⟩ := fr_bd_some h
        refine fr_callS (q := 83) (M' := (u0, n0)) (rest := []) (st' := [.int (fr_b r16)]) F dX8_mayBe_80 rfl (tX8_in hr17) mlRX8_55 msX8_in ⟨Nat.le_of_ble_eq_true rfl, Nat.le_of_ble_eq_true rfl⟩ rfl rfl (Nat.le_of_ble_eq_true rfl) rfl ?_
        obtain rfl := Option.some.inj h
        exact fr_zret F E rfl dX8_mayBe_83
      · rw [if_neg hc15] at h
        by_cases hc18 : a2 = (3 : Int32)
        · rw [if_pos hc18] at h
          refine fr_tswI (k := 3) (off := 83) (tgt := 84) F hc18 dX8_mayBe_1 (by decide) (by decide) (by decide) (by decide) ?_
          refine fr_iload_n (q := 85) F dX8_mayBe_84 rfl rfl ?_
          refine fr_i2l (q := 86) F dX8_mayBe_85 rfl ?_
          refine fr_lconst (q := 87) (v := 1) F dX8_mayBe_86 rfl (by decide) ?_
          refine fr_ldc2 (q := 90) F dX8_mayBe_87 rfl klRX8_250 ?_
          obtain ⟨r19, hr20, h⟩ := fr_bd_some h
          refine fr_callS (q := 93) (M' := (u0, n0)) (rest := []) (st' := [.int (fr_b r19)]) F dX8_mayBe_90 rfl (tX8_in hr20) mlRX8_55 msX8_in ⟨Nat.le_of_ble_eq_true rfl, Nat.le_of_ble_eq_true rfl⟩ rfl rfl (Nat.le_of_ble_eq_true rfl) rfl ?_
          obtain rfl := Option.some.inj h
          exact fr_zret F E rfl dX8_mayBe_93
        · rw [if_neg hc18] at h
          refine fr_tswO (tgt := 94) F dX8_mayBe_1 (fr_out (n := 3) (by decide) (fun k hk => match k, hk with | 0, _ => hc1 | 1, _ => hc10 | 2, _ => hc15 | 3, _ => hc18 | k + 4, hk => absurd hk (by omega))) (by decide) ?_
          refine fr_iconst (q := 95) (v := 0) F dX8_mayBe_94 rfl (by decide) ?_
          obtain rfl := Option.some.inj h
          exact fr_zret F E rfl dX8_mayBe_95
/-! FeastRotaModel.copies (53, None, 55, None) -/
def fX8_copies_53_55_3 : Nat → Int32 → Int32 → Int32 → fr_N → Option fr_N
  | 0, _, _, _, _ => none
  | k + 1, x1, x3, x4, n0 => if (79 : Int32) ≤ x4 then some n0 else fr_ck (x1 + x4) 79 (fr_ck (x3 + x4) 1264 (fr_lt (fr_up n0 3 (Int32.toNatClampNeg (x3 + x4)) (n0 1 (Int32.toNatClampNeg (x1 + x4)))) fun n4 => ((fX8_copies_53_55_3 k) x1 x3 (x4 + (1 : Int32)) n4)))
def fX8_copies_53_55 (a1 : Int32) (a3 : Int32) (n0 : fr_N) : Option fr_N := fX8_copies_53_55_3 2000 a1 a3 (0 : Int32) n0
theorem tX8_copies_53_55_3 {K : fr_K} {u0 : fr_N} {nz : fr_N} (F : fr_F YX8_copies K) (E : fr_R YX8_copies K none (u0, nz)) : ∀ (k : Nat) (x1 : Int32) (x3 : Int32) (x4 : Int32) (n0 : fr_N), fX8_copies_53_55_3 k x1 x3 x4 n0 = some nz → fr_V YX8_copies K 3 [some (.ref 53), some (.int x1), some (.ref 55), some (.int x3), some (.int x4)] [] (u0, n0) := by
  intro k
  induction k with
  | zero =>
    intro x1 x3 x4 n0 h
    rw [fX8_copies_53_55_3] at h
    cases h
  | succ k ih =>
    intro x1 x3 x4 n0 h
    rw [fX8_copies_53_55_3] at h
    refine fr_iload (q := 5) F dX8_copies_3 rfl rfl ?_
    refine fr_bipush (q := 7) (v := 79) F dX8_copies_5 rfl (by decide) ?_
    refine fr_icmp_ge (q := 10) (tgt := 28) F dX8_copies_7 (by decide) rfl (fun hc1 => ?_) (fun hc1 => ?_)
    · rw [if_pos hc1] at h
      obtain rfl := Option.some.inj h
      exact fr_vret F E rfl dX8_copies_28
    · rw [if_neg hc1] at h
      refine fr_aload_n (q := 11) F dX8_copies_10 rfl rfl ?_
      refine fr_iload_n (q := 12) F dX8_copies_11 rfl rfl ?_
      refine fr_iload (q := 14) F dX8_copies_12 rfl rfl ?_
      refine fr_iadd (q := 15) F dX8_copies_14 rfl ?_
      refine fr_aload_n (q := 16) F dX8_copies_15 rfl rfl ?_
      refine fr_iload_n (q := 17) F dX8_copies_16 rfl rfl ?_
      refine fr_iload (q := 19) F dX8_copies_17 rfl rfl ?_
      refine fr_iadd (q := 20) F dX8_copies_19 rfl ?_
      obtain ⟨hi2, h⟩ := fr_ck_some h
      refine fr_ial (q := 21) (x := (n0 1 (Int32.toNatClampNeg (x1 + x4)))) F dX8_copies_20 rfl hi2 (by decide) rfl rfl ?_
      obtain ⟨hi3, h⟩ := fr_ck_some h
      obtain ⟨n4, hn5, h⟩ := fr_lt_some h
      refine fr_ias (q := 22) (M' := (u0, n4)) F dX8_copies_21 rfl hi3 (by decide) rfl (congrArg (fun z => (u0, z)) hn5) ?_
      refine fr_iinc (q := 25) (v := (x4 + (1 : Int32))) F dX8_copies_22 rfl rfl rfl (by decide) rfl ?_
      refine fr_goto (tgt := 3) F dX8_copies_25 (by decide) ?_
      exact fr_wj (ih _ _ _ _ h) ⟨rfl, ⟨rfl, ⟨rfl, ⟨rfl, ⟨rfl, trivial⟩⟩⟩⟩⟩
theorem tX8_copies_53_55 {l : Launch} {G : fr_G} {u0 : fr_N} {a1 : Int32} {a3 : Int32} {n0 : fr_N} {nz : fr_N} (h : fX8_copies_53_55 a1 a3 n0 = some nz) : fr_Met l G YX8_copies [.ref 53, .int a1, .ref 55, .int a3] (u0, n0) none (u0, nz) := by
  refine fr_met (pad := List.replicate 1 none) (by decide) (Nat.le_of_ble_eq_true rfl) (fun _ h => List.eq_of_mem_replicate h) ⟨rfl, rfl⟩ (fun K F hG hL E => ?_)
  subst hG; subst hL
  rw [fX8_copies_53_55] at h
  show fr_V YX8_copies K 0 [some (.ref 53), some (.int a1), some (.ref 55), some (.int a3), none] [] (u0, n0)
  refine fr_iconst (q := 1) (v := 0) F dX8_copies_0 rfl (by decide) ?_
  refine fr_istore (q := 3) F dX8_copies_1 rfl (by decide) rfl ?_
  exact fr_wj (tX8_copies_53_55_3 F E _ _ _ _ _ h) ⟨rfl, ⟨rfl, ⟨rfl, ⟨rfl, ⟨rfl, trivial⟩⟩⟩⟩⟩
/-! FeastRotaModel.notes (52,) -/
def fX8_notes_49 (n0 : fr_N) : Option fr_N := fr_bd (fX8_copies_53_55 (0 : Int32) ((79 : Int32) * (n0 0 3)) n0) fun n3 => (fr_lt (fr_up n3 0 3 ((n3 0 3) + (1 : Int32))) fun n4 => (some n4))
def fX8_notes_11 : Nat → Int32 → fr_N → Option fr_N
  | 0, _, _ => none
  | k + 1, x1, n0 => if (1185 : Int32) ≤ x1 then fr_lt (fr_up n0 0 3 ((n0 0 3) - (1 : Int32))) fun n7 => (fX8_notes_49 n7) else fr_ck (x1 + (79 : Int32)) 1264 (fr_ck x1 1264 (fr_lt (fr_up n0 3 (Int32.toNatClampNeg x1) (n0 3 (Int32.toNatClampNeg (x1 + (79 : Int32))))) fun n11 => ((fX8_notes_11 k) (x1 + (1 : Int32)) n11)))
def fX8_notes (n0 : fr_N) : Option fr_N := if (n0 0 3) = (16 : Int32) then fX8_notes_11 2000 (0 : Int32) n0 else fX8_notes_49 n0
theorem tX8_notes_49 {K : fr_K} {u0 : fr_N} {nz : fr_N} (F : fr_F YX8_notes K) (E : fr_R YX8_notes K none (u0, nz)) {n0 : fr_N} (h : fX8_notes_49 n0 = some nz) : fr_V YX8_notes K 49 [some (.ref 52), none] [] (u0, n0) := by
  rw [fX8_notes_49] at h
  refine fr_aload_n (q := 50) F dX8_notes_49 rfl rfl ?_
  refine fr_gfR (q := 53) (j := 53) F dX8_notes_50 rfl faRX8_7 (by decide) rfl rfl ?_
  refine fr_iconst (q := 54) (v := 0) F dX8_notes_53 rfl (by decide) ?_
  refine fr_aload_n (q := 55) F dX8_notes_54 rfl rfl ?_
  refine fr_gfR (q := 58) (j := 55) F dX8_notes_55 rfl faRX8_16 (by decide) rfl rfl ?_
  refine fr_bipush (q := 60) (v := 79) F dX8_notes_58 rfl (by decide) ?_
  refine fr_aload_n (q := 61) F dX8_notes_60 rfl rfl ?_
  refine fr_gfI (q := 64) (x := (n0 0 3)) F dX8_notes_61 rfl faRX8_235 (by decide) rfl rfl rfl ?_
  refine fr_imul (q := 65) F dX8_notes_64 rfl ?_
  obtain ⟨n3, hr2, h⟩ := fr_bd_some h
  refine fr_callS (q := 68) (M' := (u0, n3)) (rest := []) (st' := []) F dX8_notes_65 rfl (tX8_copies_53_55 hr2) mlRX8_231 msX8_copies ⟨Nat.le_of_ble_eq_true rfl, Nat.le_of_ble_eq_true rfl⟩ rfl rfl (Nat.le_of_ble_eq_true rfl) rfl ?_
  refine fr_aload_n (q := 69) F dX8_notes_68 rfl rfl ?_
  refine fr_dup (q := 70) F dX8_notes_69 rfl rfl ?_
  refine fr_gfI (q := 73) (x := (n3 0 3)) F dX8_notes_70 rfl faRX8_235 (by decide) rfl rfl rfl ?_
  refine fr_iconst (q := 74) (v := 1) F dX8_notes_73 rfl (by decide) ?_
  refine fr_iadd (q := 75) F dX8_notes_74 rfl ?_
  obtain ⟨n4, hn5, h⟩ := fr_lt_some h
  refine fr_pfI (q := 78) (M' := (u0, n4)) F dX8_notes_75 rfl fpRX8_235 (by decide) rfl rfl (congrArg (fun z => (u0, z)) hn5) ?_
  obtain rfl := Option.some.inj h
  exact fr_vret F E rfl dX8_notes_78
theorem tX8_notes_11 {K : fr_K} {u0 : fr_N} {nz : fr_N} (F : fr_F YX8_notes K) (E : fr_R YX8_notes K none (u0, nz)) : ∀ (k : Nat) (x1 : Int32) (n0 : fr_N), fX8_notes_11 k x1 n0 = some nz → fr_V YX8_notes K 11 [some (.ref 52), some (.int x1)] [] (u0, n0) := by
  intro k
  induction k with
  | zero =>
    intro x1 n0 h
    rw [fX8_notes_11] at h
    cases h
  | succ k ih =>
    intro x1 n0 h
    rw [fX8_notes_11] at h
    refine fr_iload_n (q := 12) F dX8_notes_11 rfl rfl ?_
    refine fr_sipush (q := 15) (v := 1185) F dX8_notes_12 rfl (by decide) ?_
    refine fr_icmp_ge (q := 18) (tgt := 39) F dX8_notes_15 (by decide) rfl (fun hc6 => ?_) (fun hc6 => ?_)
    · rw [if_pos hc6] at h
      refine fr_aload_n (q := 40) F dX8_notes_39 rfl rfl ?_
      refine fr_dup (q := 41) F dX8_notes_40 rfl rfl ?_
      refine fr_gfI (q := 44) (x := (n0 0 3)) F dX8_notes_41 rfl faRX8_235 (by decide) rfl rfl rfl ?_
      refine fr_iconst (q := 45) (v := 1) F dX8_notes_44 rfl (by decide) ?_
      refine fr_isub (q := 46) F dX8_notes_45 rfl ?_
      obtain ⟨n7, hn8, h⟩ := fr_lt_some h
      refine fr_pfI (q := 49) (M' := (u0, n7)) F dX8_notes_46 rfl fpRX8_235 (by decide) rfl rfl (congrArg (fun z => (u0, z)) hn8) ?_
      exact fr_wj (tX8_notes_49 F E h) ⟨rfl, trivial⟩
    · rw [if_neg hc6] at h
      refine fr_aload_n (q := 19) F dX8_notes_18 rfl rfl ?_
      refine fr_gfR (q := 22) (j := 55) F dX8_notes_19 rfl faRX8_16 (by decide) rfl rfl ?_
      refine fr_iload_n (q := 23) F dX8_notes_22 rfl rfl ?_
      refine fr_aload_n (q := 24) F dX8_notes_23 rfl rfl ?_
      refine fr_gfR (q := 27) (j := 55) F dX8_notes_24 rfl faRX8_16 (by decide) rfl rfl ?_
      refine fr_iload_n (q := 28) F dX8_notes_27 rfl rfl ?_
      refine fr_bipush (q := 30) (v := 79) F dX8_notes_28 rfl (by decide) ?_
      refine fr_iadd (q := 31) F dX8_notes_30 rfl ?_
      obtain ⟨hi9, h⟩ := fr_ck_some h
      refine fr_ial (q := 32) (x := (n0 3 (Int32.toNatClampNeg (x1 + (79 : Int32))))) F dX8_notes_31 rfl hi9 (by decide) rfl rfl ?_
      obtain ⟨hi10, h⟩ := fr_ck_some h
      obtain ⟨n11, hn12, h⟩ := fr_lt_some h
      refine fr_ias (q := 33) (M' := (u0, n11)) F dX8_notes_32 rfl hi10 (by decide) rfl (congrArg (fun z => (u0, z)) hn12) ?_
      refine fr_iinc (q := 36) (v := (x1 + (1 : Int32))) F dX8_notes_33 rfl rfl rfl (by decide) rfl ?_
      refine fr_goto (tgt := 11) F dX8_notes_36 (by decide) ?_
      exact fr_wj (ih _ _ h) ⟨rfl, ⟨rfl, trivial⟩⟩
theorem tX8_notes {l : Launch} {G : fr_G} {u0 : fr_N} {n0 : fr_N} {nz : fr_N} (h : fX8_notes n0 = some nz) : fr_Met l G YX8_notes [.ref 52] (u0, n0) none (u0, nz) := by
  refine fr_met (pad := List.replicate 1 none) (by decide) (Nat.le_of_ble_eq_true rfl) (fun _ h => List.eq_of_mem_replicate h) ⟨rfl, rfl⟩ (fun K F hG hL E => ?_)
  subst hG; subst hL
  rw [fX8_notes] at h
  show fr_V YX8_notes K 0 [some (.ref 52), none] [] (u0, n0)
  refine fr_aload_n (q := 1) F dX8_notes_0 rfl rfl ?_
  refine fr_gfI (q := 4) (x := (n0 0 3)) F dX8_notes_1 rfl faRX8_235 (by decide) rfl rfl rfl ?_
  refine fr_bipush (q := 6) (v := 16) F dX8_notes_4 rfl (by decide) ?_
  refine fr_icmp_ne (q := 9) (tgt := 49) F dX8_notes_6 (by decide) rfl (fun hc13 => ?_) (fun hc13 => ?_)
  · rw [if_neg hc13] at h
    exact fr_wj (tX8_notes_49 F E h) ⟨rfl, trivial⟩
  · rw [if_pos hc13] at h
    refine fr_iconst (q := 10) (v := 0) F dX8_notes_9 rfl (by decide) ?_
    refine fr_istore_n (q := 11) F dX8_notes_10 rfl (by decide) rfl ?_
    exact fr_wj (tX8_notes_11 F E _ _ _ h) ⟨rfl, ⟨rfl, trivial⟩⟩
/-! FeastRotaModel.alter (52, None, None, None) -/
def fX8_alter (a1 : Int32) (a2 : Int32) (a3 : Int32) (n0 : fr_N) : Option (Int32 × fr_N) := fr_bd (fX8_isFeast a1 n0) fun r1 => (if r1 = true then fr_bd (fX8_mayBe a1 a2 a3 n0) fun r4 => (if r4 = true then fr_bd (fX8_notes n0) fun n9 => (fr_bd (fX8_of a1 a2 n9) fun r10 => (fr_ck (((9 : Int32) + ((4 : Int32) * a1)) + a2) 79 (fr_lt (fr_up n9 1 (Int32.toNatClampNeg (((9 : Int32) + ((4 : Int32) * a1)) + a2)) a3) fun n13 => (some (r10, n13))))) else some ((-1000001 : Int32), n0)) else some ((-1000001 : Int32), n0))
theorem tX8_alter {l : Launch} {G : fr_G} {u0 : fr_N} {a1 : Int32} {a2 : Int32} {a3 : Int32} {n0 : fr_N} {rz : Int32} {nz : fr_N} (h : fX8_alter a1 a2 a3 n0 = some (rz, nz)) : fr_Met l G YX8_alter [.ref 52, .int a1, .int a2, .int a3] (u0, n0) (some (.int rz)) (u0, nz) := by
  refine fr_met (pad := List.replicate 1 none) (by decide) (Nat.le_of_ble_eq_true rfl) (fun _ h => List.eq_of_mem_replicate h) ⟨rfl, rfl⟩ (fun K F hG hL E => ?_)
  subst hG; subst hL
  rw [fX8_alter] at h
  show fr_V YX8_alter K 0 [some (.ref 52), some (.int a1), some (.int a2), some (.int a3), none] [] (u0, n0)
  refine fr_aload_n (q := 1) F dX8_alter_0 rfl rfl ?_
  refine fr_iload_n (q := 2) F dX8_alter_1 rfl rfl ?_
  obtain ⟨r1, hr2, h⟩ := fr_bd_some h
  refine fr_callV (q := 5) (M' := (u0, n0)) (rest := []) (st' := [.int (fr_b r1)]) F dX8_alter_2 rfl (tX8_isFeast hr2) mlRX8_252 msX8_isFeast ⟨Nat.le_of_ble_eq_true rfl, Nat.le_of_ble_eq_true rfl⟩ (by decide) rfl rfl rfl (Nat.le_of_ble_eq_true rfl) rfl ?_
  refine fr_if_eqb (q := 8) (tgt := 18) F dX8_alter_5 (by decide) rfl (fun hc3 => ?_) (fun hc3 => ?_)
  · rw [if_neg hc3] at h
    refine fr_ldc (q := 20) F dX8_alter_18 rfl kcRX8_209 ?_
    obtain ⟨rfl, rfl⟩ := Prod.mk.inj (Option.some.inj h)
    exact fr_iret F E rfl dX8_alter_20
  · rw [if_pos hc3] at h
    refine fr_aload_n (q := 9) F dX8_alter_8 rfl rfl ?_
    refine fr_iload_n (q := 10) F dX8_alter_9 rfl rfl ?_
    refine fr_iload_n (q := 11) F dX8_alter_10 rfl rfl ?_
    refine fr_iload_n (q := 12) F dX8_alter_11 rfl rfl ?_
    obtain ⟨r4, hr5, h⟩ := fr_bd_some h
    refine fr_callV (q := 15) (M' := (u0, n0)) (rest := []) (st' := [.int (fr_b r4)]) F dX8_alter_12 rfl (tX8_mayBe hr5) mlRX8_255 msX8_mayBe ⟨Nat.le_of_ble_eq_true rfl, Nat.le_of_ble_eq_true rfl⟩ (by decide) rfl rfl rfl (Nat.le_of_ble_eq_true rfl) rfl ?_
    refine fr_if_neb (q := 18) (tgt := 21) F dX8_alter_15 (by decide) rfl (fun hc6 => ?_) (fun hc6 => ?_)
    · rw [if_pos hc6] at h
      refine fr_aload_n (q := 22) F dX8_alter_21 rfl rfl ?_
      obtain ⟨n9, hr8, h⟩ := fr_bd_some h
      refine fr_callV (q := 25) (M' := (u0, n9)) (rest := []) (st' := []) F dX8_alter_22 rfl (tX8_notes hr8) mlRX8_258 msX8_notes ⟨Nat.le_of_ble_eq_true rfl, Nat.le_of_ble_eq_true rfl⟩ (by decide) rfl rfl rfl (Nat.le_of_ble_eq_true rfl) rfl ?_
      refine fr_aload_n (q := 26) F dX8_alter_25 rfl rfl ?_
      refine fr_iload_n (q := 27) F dX8_alter_26 rfl rfl ?_
      refine fr_iload_n (q := 28) F dX8_alter_27 rfl rfl ?_
      obtain ⟨r10, hr11, h⟩ := fr_bd_some h
      refine fr_callV (q := 31) (M' := (u0, n9)) (rest := []) (st' := [.int r10]) F dX8_alter_28 rfl (tX8_of hr11) mlRX8_84 msX8_of ⟨Nat.le_of_ble_eq_true rfl, Nat.le_of_ble_eq_true rfl⟩ (by decide) rfl rfl rfl (Nat.le_of_ble_eq_true rfl) rfl ?_
      refine fr_istore (q := 33) F dX8_alter_31 rfl (by decide) rfl ?_
      refine fr_aload_n (q := 34) F dX8_alter_33 rfl rfl ?_
      refine fr_gfR (q := 37) (j := 53) F dX8_alter_34 rfl faRX8_7 (by decide) rfl rfl ?_
      refine fr_bipush (q := 39) (v := 9) F dX8_alter_37 rfl (by decide) ?_
      refine fr_iconst (q := 40) (v := 4) F dX8_alter_39 rfl (by decide) ?_
      refine fr_iload_n (q := 41) F dX8_alter_40 rfl rfl ?_
      refine fr_imul (q := 42) F dX8_alter_41 rfl ?_
      refine fr_iadd (q := 43) F dX8_alter_42 rfl ?_
      refine fr_iload_n (q := 44) F dX8_alter_43 rfl rfl ?_
      refine fr_iadd (q := 45) F dX8_alter_44 rfl ?_
      refine fr_iload_n (q := 46) F dX8_alter_45 rfl rfl ?_
      obtain ⟨hi12, h⟩ := fr_ck_some h
      obtain ⟨n13, hn14, h⟩ := fr_lt_some h
      refine fr_ias (q := 47) (M' := (u0, n13)) F dX8_alter_46 rfl hi12 (by decide) rfl (congrArg (fun z => (u0, z)) hn14) ?_
      refine fr_iload (q := 49) F dX8_alter_47 rfl rfl ?_
      obtain ⟨rfl, rfl⟩ := Prod.mk.inj (Option.some.inj h)
      exact fr_iret F E rfl dX8_alter_49
    · rw [if_neg hc6] at h
      refine fr_ldc (q := 20) F dX8_alter_18 rfl kcRX8_209 ?_
      obtain ⟨rfl, rfl⟩ := Prod.mk.inj (Option.some.inj h)
      exact fr_iret F E rfl dX8_alter_20
/-! FeastRota$Book.tellFeast (3, None, None, None, None) -/
def fX1_tellFeast_3 (a1 : Int32) (a2 : Int32) (a3 : Int32) (a4 : Int32) (n0 : fr_N) : Option fr_N := if (n0 3 1) < (12 : Int32) then fr_ck (((n0 3 1) * (4 : Int32)) + (0 : Int32)) 48 (fr_lt (fr_up n0 5 (Int32.toNatClampNeg (((n0 3 1) * (4 : Int32)) + (0 : Int32))) a1) fun n3 => (fr_ck (((n0 3 1) * (4 : Int32)) + (1 : Int32)) 48 (fr_lt (fr_up n3 5 (Int32.toNatClampNeg (((n0 3 1) * (4 : Int32)) + (1 : Int32))) a2) fun n6 => (fr_ck (((n0 3 1) * (4 : Int32)) + (2 : Int32)) 48 (fr_lt (fr_up n6 5 (Int32.toNatClampNeg (((n0 3 1) * (4 : Int32)) + (2 : Int32))) a3) fun n9 => (fr_ck (((n0 3 1) * (4 : Int32)) + (3 : Int32)) 48 (fr_lt (fr_up n9 5 (Int32.toNatClampNeg (((n0 3 1) * (4 : Int32)) + (3 : Int32))) a4) fun n12 => (fr_lt (fr_up n12 3 1 ((n12 3 1) + (1 : Int32))) fun n14 => (some n14))))))))) else some n0
theorem tX1_tellFeast_3 {l : Launch} {G : fr_G} {u0 : fr_N} {a1 : Int32} {a2 : Int32} {a3 : Int32} {a4 : Int32} {n0 : fr_N} {nz : fr_N} (h : fX1_tellFeast_3 a1 a2 a3 a4 n0 = some nz) : fr_Met l G YX1_tellFeast [.ref 3, .int a1, .int a2, .int a3, .int a4] (n0, u0) none (nz, u0) := by
  refine fr_met (pad := List.replicate 1 none) (by decide) (Nat.le_of_ble_eq_true rfl) (fun _ h => List.eq_of_mem_replicate h) ⟨rfl, rfl⟩ (fun K F hG hL E => ?_)
  subst hG; subst hL
  rw [fX1_tellFeast_3] at h
  show fr_V YX1_tellFeast K 0 [some (.ref 3), some (.int a1), some (.int a2), some (.int a3), some (.int a4), none] [] (n0, u0)
  refine fr_aload_n (q := 1) F dX1_tellFeast_0 rfl rfl ?_
  refine fr_gfI (q := 4) (x := (n0 3 1)) F dX1_tellFeast_1 rfl faRX1_48 (by decide) rfl rfl rfl ?_
  refine fr_bipush (q := 6) (v := 12) F dX1_tellFeast_4 rfl (by decide) ?_
  refine fr_icmp_lt (q := 9) (tgt := 10) F dX1_tellFeast_6 (by decide) rfl (fun hc1 => ?_) (fun hc1 => ?_)
  · rw [if_pos hc1] at h
    refine fr_aload_n (q := 11) F dX1_tellFeast_10 rfl rfl ?_
    refine fr_gfI (q := 14) (x := (n0 3 1)) F dX1_tellFeast_11 rfl faRX1_48 (by decide) rfl rfl rfl ?_
    refine fr_iconst (q := 15) (v := 4) F dX1_tellFeast_14 rfl (by decide) ?_
    refine fr_imul (q := 16) F dX1_tellFeast_15 rfl ?_
    refine fr_istore (q := 18) F dX1_tellFeast_16 rfl (by decide) rfl ?_
    refine fr_aload_n (q := 19) F dX1_tellFeast_18 rfl rfl ?_
    refine fr_gfR (q := 22) (j := 5) F dX1_tellFeast_19 rfl faRX1_15 (by decide) rfl rfl ?_
    refine fr_iload (q := 24) F dX1_tellFeast_22 rfl rfl ?_
    refine fr_iconst (q := 25) (v := 0) F dX1_tellFeast_24 rfl (by decide) ?_
    refine fr_iadd (q := 26) F dX1_tellFeast_25 rfl ?_
    refine fr_iload_n (q := 27) F dX1_tellFeast_26 rfl rfl ?_
    obtain ⟨hi2, h⟩ := fr_ck_some h
    obtain ⟨n3, hn4, h⟩ := fr_lt_some h
    refine fr_ias (q := 28) (M' := (n3, u0)) F dX1_tellFeast_27 rfl hi2 (by decide) rfl (congrArg (fun z => (z, u0)) hn4) ?_
    refine fr_aload_n (q := 29) F dX1_tellFeast_28 rfl rfl ?_
    refine fr_gfR (q := 32) (j := 5) F dX1_tellFeast_29 rfl faRX1_15 (by decide) rfl rfl ?_
    refine fr_iload (q := 34) F dX1_tellFeast_32 rfl rfl ?_
    refine fr_iconst (q := 35) (v := 1) F dX1_tellFeast_34 rfl (by decide) ?_
    refine fr_iadd (q := 36) F dX1_tellFeast_35 rfl ?_
    refine fr_iload_n (q := 37) F dX1_tellFeast_36 rfl rfl ?_
    obtain ⟨hi5, h⟩ := fr_ck_some h
    obtain ⟨n6, hn7, h⟩ := fr_lt_some h
    refine fr_ias (q := 38) (M' := (n6, u0)) F dX1_tellFeast_37 rfl hi5 (by decide) rfl (congrArg (fun z => (z, u0)) hn7) ?_
    refine fr_aload_n (q := 39) F dX1_tellFeast_38 rfl rfl ?_
    refine fr_gfR (q := 42) (j := 5) F dX1_tellFeast_39 rfl faRX1_15 (by decide) rfl rfl ?_
    refine fr_iload (q := 44) F dX1_tellFeast_42 rfl rfl ?_
    refine fr_iconst (q := 45) (v := 2) F dX1_tellFeast_44 rfl (by decide) ?_
    refine fr_iadd (q := 46) F dX1_tellFeast_45 rfl ?_
    refine fr_iload_n (q := 47) F dX1_tellFeast_46 rfl rfl ?_
    obtain ⟨hi8, h⟩ := fr_ck_some h
    obtain ⟨n9, hn10, h⟩ := fr_lt_some h
    refine fr_ias (q := 48) (M' := (n9, u0)) F dX1_tellFeast_47 rfl hi8 (by decide) rfl (congrArg (fun z => (z, u0)) hn10) ?_
    refine fr_aload_n (q := 49) F dX1_tellFeast_48 rfl rfl ?_
    refine fr_gfR (q := 52) (j := 5) F dX1_tellFeast_49 rfl faRX1_15 (by decide) rfl rfl ?_
    refine fr_iload (q := 54) F dX1_tellFeast_52 rfl rfl ?_
    refine fr_iconst (q := 55) (v := 3) F dX1_tellFeast_54 rfl (by decide) ?_
    refine fr_iadd (q := 56) F dX1_tellFeast_55 rfl ?_
    refine fr_iload (q := 58) F dX1_tellFeast_56 rfl rfl ?_
    obtain ⟨hi11, h⟩ := fr_ck_some h
    obtain ⟨n12, hn13, h⟩ := fr_lt_some h
    refine fr_ias (q := 59) (M' := (n12, u0)) F dX1_tellFeast_58 rfl hi11 (by decide) rfl (congrArg (fun z => (z, u0)) hn13) ?_
    refine fr_aload_n (q := 60) F dX1_tellFeast_59 rfl rfl ?_
    refine fr_dup (q := 61) F dX1_tellFeast_60 rfl rfl ?_
    refine fr_gfI (q := 64) (x := (n12 3 1)) F dX1_tellFeast_61 rfl faRX1_48 (by decide) rfl rfl rfl ?_
    refine fr_iconst (q := 65) (v := 1) F dX1_tellFeast_64 rfl (by decide) ?_
    refine fr_iadd (q := 66) F dX1_tellFeast_65 rfl ?_
    obtain ⟨n14, hn15, h⟩ := fr_lt_some h
    refine fr_pfI (q := 69) (M' := (n14, u0)) F dX1_tellFeast_66 rfl fpRX1_48 (by decide) rfl rfl (congrArg (fun z => (z, u0)) hn15) ?_
    obtain rfl := Option.some.inj h
    exact fr_vret F E rfl dX1_tellFeast_69
  · rw [if_neg hc1] at h
    obtain rfl := Option.some.inj h
    exact fr_vret F E rfl dX1_tellFeast_9
/-! FeastRota.add (0, None, None, None, None) -/
def fX7_add (a1 : Int32) (a2 : Int32) (a3 : Int32) (a4 : Int32) (n0 : fr_N) : Option (Int32 × fr_N) := if (n0 3 0) = 0 then some ((-1000002 : Int32), n0) else fr_bd (fX1_canBe a1 a2 a3 a4) fun r2 => (if r2 = true then if (n0 3 1) < (12 : Int32) then fr_bd (fX0_keep (1 : Int32) (0 : Int32) (0 : Int32) (0 : Int32) n0) fun n8 => (fr_bd (fX1_tellFeast_3 a1 a2 a3 a4 n8) fun n11 => (some (((n11 3 1) - (1 : Int32)), n11))) else some ((-1000003 : Int32), n0) else some ((-1000001 : Int32), n0))
theorem tX7_add {l : Launch} {G : fr_G} {u0 : fr_N} {a1 : Int32} {a2 : Int32} {a3 : Int32} {a4 : Int32} {n0 : fr_N} {rz : Int32} {nz : fr_N} (h : fX7_add a1 a2 a3 a4 n0 = some (rz, nz)) : fr_Met l G YX7_add [.ref 0, .int a1, .int a2, .int a3, .int a4] (n0, u0) (some (.int rz)) (nz, u0) := by
  refine fr_met (pad := List.replicate 0 none) (by decide) (Nat.le_of_ble_eq_true rfl) (fun _ h => List.eq_of_mem_replicate h) ⟨rfl, rfl⟩ (fun K F hG hL E => ?_)
  subst hG; subst hL
  rw [fX7_add] at h
  show fr_V YX7_add K 0 [some (.ref 0), some (.int a1), some (.int a2), some (.int a3), some (.int a4)] [] (n0, u0)
  refine fr_aload_n (q := 1) F dX7_add_0 rfl rfl ?_
  refine fr_gfR (q := 4) (j := 3) F dX7_add_1 rfl faRX7_36 (by decide) rfl rfl ?_
  refine fr_gfI (q := 7) (x := (n0 3 0)) F dX7_add_4 rfl faRX7_128 (by decide) rfl rfl rfl ?_
  refine fr_if_ne (q := 10) (tgt := 13) F dX7_add_7 (by decide) rfl (fun hc1 => ?_) (fun hc1 => ?_)
  · rw [if_neg hc1] at h
    refine fr_iload_n (q := 14) F dX7_add_13 rfl rfl ?_
    refine fr_iload_n (q := 15) F dX7_add_14 rfl rfl ?_
    refine fr_iload_n (q := 16) F dX7_add_15 rfl rfl ?_
    refine fr_iload (q := 18) F dX7_add_16 rfl rfl ?_
    obtain ⟨r2, hr3, h⟩ := fr_bd_some h
    refine fr_callS (q := 21) (M' := (n0, u0)) (rest := []) (st' := [.int (fr_b r2)]) F dX7_add_18 rfl (tX1_canBe hr3) mlRX7_116 msX1_canBe ⟨Nat.le_of_ble_eq_true rfl, Nat.le_of_ble_eq_true rfl⟩ rfl rfl (Nat.le_of_ble_eq_true rfl) rfl ?_
    refine fr_if_neb (q := 24) (tgt := 27) F dX7_add_21 (by decide) rfl (fun hc4 => ?_) (fun hc4 => ?_)
    · rw [if_pos hc4] at h
      refine fr_aload_n (q := 28) F dX7_add_27 rfl rfl ?_
      refine fr_gfR (q := 31) (j := 3) F dX7_add_28 rfl faRX7_36 (by decide) rfl rfl ?_
      refine fr_gfI (q := 34) (x := (n0 3 1)) F dX7_add_31 rfl faRX7_102 (by decide) rfl rfl rfl ?_
      refine fr_bipush (q := 36) (v := 12) F dX7_add_34 rfl (by decide) ?_
      refine fr_icmp_lt (q := 39) (tgt := 42) F dX7_add_36 (by decide) rfl (fun hc5 => ?_) (fun hc5 => ?_)
      · rw [if_pos hc5] at h
        refine fr_aload_n (q := 43) F dX7_add_42 rfl rfl ?_
        refine fr_gfR (q := 46) (j := 43) F dX7_add_43 rfl faRX7_47 (by decide) rfl rfl ?_
        refine fr_iconst (q := 47) (v := 1) F dX7_add_46 rfl (by decide) ?_
        refine fr_iconst (q := 48) (v := 0) F dX7_add_47 rfl (by decide) ?_
        refine fr_iconst (q := 49) (v := 0) F dX7_add_48 rfl (by decide) ?_
        refine fr_iconst (q := 50) (v := 0) F dX7_add_49 rfl (by decide) ?_
        obtain ⟨n8, hr7, h⟩ := fr_bd_some h
        refine fr_callV (q := 53) (M' := (n8, u0)) (rest := []) (st' := []) F dX7_add_50 rfl (tX0_keep hr7) mlRX7_120 msX0_keep ⟨Nat.le_of_ble_eq_true rfl, Nat.le_of_ble_eq_true rfl⟩ (by decide) rfl rfl rfl (Nat.le_of_ble_eq_true rfl) rfl ?_
        refine fr_aload_n (q := 54) F dX7_add_53 rfl rfl ?_
        refine fr_gfR (q := 57) (j := 3) F dX7_add_54 rfl faRX7_36 (by decide) rfl rfl ?_
        refine fr_iload_n (q := 58) F dX7_add_57 rfl rfl ?_
        refine fr_iload_n (q := 59) F dX7_add_58 rfl rfl ?_
        refine fr_iload_n (q := 60) F dX7_add_59 rfl rfl ?_
        refine fr_iload (q := 62) F dX7_add_60 rfl rfl ?_
        obtain ⟨n11, hr10, h⟩ := fr_bd_some h
        refine fr_callV (q := 65) (M' := (n11, u0)) (rest := []) (st' := []) F dX7_add_62 rfl (tX1_tellFeast_3 hr10) mlRX7_132 msX1_tellFeast ⟨Nat.le_of_ble_eq_true rfl, Nat.le_of_ble_eq_true rfl⟩ (by decide) rfl rfl rfl (Nat.le_of_ble_eq_true rfl) rfl ?_
        refine fr_aload_n (q := 66) F dX7_add_65 rfl rfl ?_
        refine fr_gfR (q := 69) (j := 3) F dX7_add_66 rfl faRX7_36 (by decide) rfl rfl ?_
        refine fr_gfI (q := 72) (x := (n11 3 1)) F dX7_add_69 rfl faRX7_102 (by decide) rfl rfl rfl ?_
        refine fr_iconst (q := 73) (v := 1) F dX7_add_72 rfl (by decide) ?_
        refine fr_isub (q := 74) F dX7_add_73 rfl ?_
        obtain ⟨rfl, rfl⟩ := Prod.mk.inj (Option.some.inj h)
        exact fr_iret F E rfl dX7_add_74
      · rw [if_neg hc5] at h
        refine fr_ldc (q := 41) F dX7_add_39 rfl kcRX7_80 ?_
        obtain ⟨rfl, rfl⟩ := Prod.mk.inj (Option.some.inj h)
        exact fr_iret F E rfl dX7_add_41
    · rw [if_neg hc4] at h
      refine fr_ldc (q := 26) F dX7_add_24 rfl kcRX7_72 ?_
      obtain ⟨rfl, rfl⟩ := Prod.mk.inj (Option.some.inj h)
      exact fr_iret F E rfl dX7_add_26
  · rw [if_pos hc1] at h
    refine fr_ldc (q := 12) F dX7_add_10 rfl kcRX7_105 ?_
    obtain ⟨rfl, rfl⟩ := Prod.mk.inj (Option.some.inj h)
    exact fr_iret F E rfl dX7_add_12
/-! FeastRotaModel.isBook (52,) -/
def fX8_isBook (n0 : fr_N) : Option Bool := if (n0 1 8) ≤ 0 then some false else some true
theorem tX8_isBook {l : Launch} {G : fr_G} {u0 : fr_N} {n0 : fr_N} {rz : Bool} (h : fX8_isBook n0 = some rz) : fr_Met l G YX8_isBook [.ref 52] (u0, n0) (some (.int (fr_b rz))) (u0, n0) := by
  refine fr_met (pad := List.replicate 0 none) (by decide) (Nat.le_of_ble_eq_true rfl) (fun _ h => List.eq_of_mem_replicate h) ⟨rfl, rfl⟩ (fun K F hG hL E => ?_)
  subst hG; subst hL
  rw [fX8_isBook] at h
  show fr_V YX8_isBook K 0 [some (.ref 52)] [] (u0, n0)
  refine fr_aload_n (q := 1) F dX8_isBook_0 rfl rfl ?_
  refine fr_gfR (q := 4) (j := 53) F dX8_isBook_1 rfl faRX8_7 (by decide) rfl rfl ?_
  refine fr_bipush (q := 6) (v := 8) F dX8_isBook_4 rfl (by decide) ?_
  refine fr_ial (q := 7) (x := (n0 1 8)) F dX8_isBook_6 rfl (fr_vin rfl) (by decide) rfl rfl ?_
  refine fr_if_le (q := 10) (tgt := 14) F dX8_isBook_7 (by decide) rfl (fun hc1 => ?_) (fun hc1 => ?_)
  · rw [if_pos hc1] at h
    refine fr_iconst (q := 15) (v := 0) F dX8_isBook_14 rfl (by decide) ?_
    obtain rfl := Option.some.inj h
    exact fr_zret F E rfl dX8_isBook_15
  · rw [if_neg hc1] at h
    refine fr_iconst (q := 11) (v := 1) F dX8_isBook_10 rfl (by decide) ?_
    refine fr_goto (tgt := 15) F dX8_isBook_11 (by decide) ?_
    obtain rfl := Option.some.inj h
    exact fr_zret F E rfl dX8_isBook_15
/-! FeastRotaModel.puts (53, None, None, None, None) -/
def fX8_puts_53 (a1 : Int32) (a2 : Int32) (a3 : Int32) (a4 : Int32) (n0 : fr_N) : Option fr_N := fr_ck ((9 : Int32) + ((4 : Int32) * (n0 1 6))) 79 (fr_lt (fr_up n0 1 (Int32.toNatClampNeg ((9 : Int32) + ((4 : Int32) * (n0 1 6)))) a1) fun n2 => (fr_ck (((9 : Int32) + ((4 : Int32) * (n0 1 6))) + (1 : Int32)) 79 (fr_lt (fr_up n2 1 (Int32.toNatClampNeg (((9 : Int32) + ((4 : Int32) * (n0 1 6))) + (1 : Int32))) a2) fun n5 => (fr_ck (((9 : Int32) + ((4 : Int32) * (n0 1 6))) + (2 : Int32)) 79 (fr_lt (fr_up n5 1 (Int32.toNatClampNeg (((9 : Int32) + ((4 : Int32) * (n0 1 6))) + (2 : Int32))) a3) fun n8 => (fr_ck (((9 : Int32) + ((4 : Int32) * (n0 1 6))) + (3 : Int32)) 79 (fr_lt (fr_up n8 1 (Int32.toNatClampNeg (((9 : Int32) + ((4 : Int32) * (n0 1 6))) + (3 : Int32))) a4) fun n11 => (fr_lt (fr_up n11 1 6 ((n11 1 6) + (1 : Int32))) fun n13 => (some n13)))))))))
theorem tX8_puts_53 {l : Launch} {G : fr_G} {u0 : fr_N} {a1 : Int32} {a2 : Int32} {a3 : Int32} {a4 : Int32} {n0 : fr_N} {nz : fr_N} (h : fX8_puts_53 a1 a2 a3 a4 n0 = some nz) : fr_Met l G YX8_puts [.ref 53, .int a1, .int a2, .int a3, .int a4] (u0, n0) none (u0, nz) := by
  refine fr_met (pad := List.replicate 1 none) (by decide) (Nat.le_of_ble_eq_true rfl) (fun _ h => List.eq_of_mem_replicate h) ⟨rfl, rfl⟩ (fun K F hG hL E => ?_)
  subst hG; subst hL
  rw [fX8_puts_53] at h
  show fr_V YX8_puts K 0 [some (.ref 53), some (.int a1), some (.int a2), some (.int a3), some (.int a4), none] [] (u0, n0)
  refine fr_bipush (q := 2) (v := 9) F dX8_puts_0 rfl (by decide) ?_
  refine fr_iconst (q := 3) (v := 4) F dX8_puts_2 rfl (by decide) ?_
  refine fr_aload_n (q := 4) F dX8_puts_3 rfl rfl ?_
  refine fr_bipush (q := 6) (v := 6) F dX8_puts_4 rfl (by decide) ?_
  refine fr_ial (q := 7) (x := (n0 1 6)) F dX8_puts_6 rfl (fr_vin rfl) (by decide) rfl rfl ?_
  refine fr_imul (q := 8) F dX8_puts_7 rfl ?_
  refine fr_iadd (q := 9) F dX8_puts_8 rfl ?_
  refine fr_istore (q := 11) F dX8_puts_9 rfl (by decide) rfl ?_
  refine fr_aload_n (q := 12) F dX8_puts_11 rfl rfl ?_
  refine fr_iload (q := 14) F dX8_puts_12 rfl rfl ?_
  refine fr_iload_n (q := 15) F dX8_puts_14 rfl rfl ?_
  obtain ⟨hi1, h⟩ := fr_ck_some h
  obtain ⟨n2, hn3, h⟩ := fr_lt_some h
  refine fr_ias (q := 16) (M' := (u0, n2)) F dX8_puts_15 rfl hi1 (by decide) rfl (congrArg (fun z => (u0, z)) hn3) ?_
  refine fr_aload_n (q := 17) F dX8_puts_16 rfl rfl ?_
  refine fr_iload (q := 19) F dX8_puts_17 rfl rfl ?_
  refine fr_iconst (q := 20) (v := 1) F dX8_puts_19 rfl (by decide) ?_
  refine fr_iadd (q := 21) F dX8_puts_20 rfl ?_
  refine fr_iload_n (q := 22) F dX8_puts_21 rfl rfl ?_
  obtain ⟨hi4, h⟩ := fr_ck_some h
  obtain ⟨n5, hn6, h⟩ := fr_lt_some h
  refine fr_ias (q := 23) (M' := (u0, n5)) F dX8_puts_22 rfl hi4 (by decide) rfl (congrArg (fun z => (u0, z)) hn6) ?_
  refine fr_aload_n (q := 24) F dX8_puts_23 rfl rfl ?_
  refine fr_iload (q := 26) F dX8_puts_24 rfl rfl ?_
  refine fr_iconst (q := 27) (v := 2) F dX8_puts_26 rfl (by decide) ?_
  refine fr_iadd (q := 28) F dX8_puts_27 rfl ?_
  refine fr_iload_n (q := 29) F dX8_puts_28 rfl rfl ?_
  obtain ⟨hi7, h⟩ := fr_ck_some h
  obtain ⟨n8, hn9, h⟩ := fr_lt_some h
  refine fr_ias (q := 30) (M' := (u0, n8)) F dX8_puts_29 rfl hi7 (by decide) rfl (congrArg (fun z => (u0, z)) hn9) ?_
  refine fr_aload_n (q := 31) F dX8_puts_30 rfl rfl ?_
  refine fr_iload (q := 33) F dX8_puts_31 rfl rfl ?_
  refine fr_iconst (q := 34) (v := 3) F dX8_puts_33 rfl (by decide) ?_
  refine fr_iadd (q := 35) F dX8_puts_34 rfl ?_
  refine fr_iload (q := 37) F dX8_puts_35 rfl rfl ?_
  obtain ⟨hi10, h⟩ := fr_ck_some h
  obtain ⟨n11, hn12, h⟩ := fr_lt_some h
  refine fr_ias (q := 38) (M' := (u0, n11)) F dX8_puts_37 rfl hi10 (by decide) rfl (congrArg (fun z => (u0, z)) hn12) ?_
  refine fr_aload_n (q := 39) F dX8_puts_38 rfl rfl ?_
  refine fr_bipush (q := 41) (v := 6) F dX8_puts_39 rfl (by decide) ?_
  refine fr_dup2 (q := 42) F dX8_puts_41 rfl rfl rfl ?_
  refine fr_ial (q := 43) (x := (n11 1 6)) F dX8_puts_42 rfl (fr_vin rfl) (by decide) rfl rfl ?_
  refine fr_iconst (q := 44) (v := 1) F dX8_puts_43 rfl (by decide) ?_
  refine fr_iadd (q := 45) F dX8_puts_44 rfl ?_
  obtain ⟨n13, hn14, h⟩ := fr_lt_some h
  refine fr_ias (q := 46) (M' := (u0, n13)) F dX8_puts_45 rfl (fr_vin rfl) (by decide) rfl (congrArg (fun z => (u0, z)) hn14) ?_
  obtain rfl := Option.some.inj h
  exact fr_vret F E rfl dX8_puts_46
/-! FeastRotaModel.add (52, None, None, None, None) -/
def fX8_add (a1 : Int32) (a2 : Int32) (a3 : Int32) (a4 : Int32) (n0 : fr_N) : Option (Int32 × fr_N) := fr_bd (fX8_isBook n0) fun r1 => (if r1 = true then fr_bd (fX8_in (Int32.toInt64 a1) (0 : Int64) (3 : Int64)) fun r4 => (if r4 = true then fr_bd (fX8_isN a1 a2) fun r7 => (if r7 = true then fr_bd (fX8_in (Int32.toInt64 a3) (1 : Int64) (5 : Int64)) fun r10 => (if r10 = true then fr_bd (fX8_in (Int32.toInt64 a4) (1 : Int64) (6 : Int64)) fun r13 => (if r13 = true then if (n0 1 6) = (12 : Int32) then some ((-1000003 : Int32), n0) else fr_bd (fX8_notes n0) fun n19 => (fr_bd (fX8_puts_53 a1 a2 a3 a4 n19) fun n22 => (some (((n22 1 6) - (1 : Int32)), n22))) else some ((-1000001 : Int32), n0)) else some ((-1000001 : Int32), n0)) else some ((-1000001 : Int32), n0)) else some ((-1000001 : Int32), n0)) else some ((-1000002 : Int32), n0))
theorem tX8_add {l : Launch} {G : fr_G} {u0 : fr_N} {a1 : Int32} {a2 : Int32} {a3 : Int32} {a4 : Int32} {n0 : fr_N} {rz : Int32} {nz : fr_N} (h : fX8_add a1 a2 a3 a4 n0 = some (rz, nz)) : fr_Met l G YX8_add [.ref 52, .int a1, .int a2, .int a3, .int a4] (u0, n0) (some (.int rz)) (u0, nz) := by
  refine fr_met (pad := List.replicate 0 none) (by decide) (Nat.le_of_ble_eq_true rfl) (fun _ h => List.eq_of_mem_replicate h) ⟨rfl, rfl⟩ (fun K F hG hL E => ?_)
  subst hG; subst hL
  rw [fX8_add] at h
  show fr_V YX8_add K 0 [some (.ref 52), some (.int a1), some (.int a2), some (.int a3), some (.int a4)] [] (u0, n0)
  refine fr_aload_n (q := 1) F dX8_add_0 rfl rfl ?_
  obtain ⟨r1, hr2, h⟩ := fr_bd_some h
  refine fr_callV (q := 4) (M' := (u0, n0)) (rest := []) (st' := [.int (fr_b r1)]) F dX8_add_1 rfl (tX8_isBook hr2) mlRX8_261 msX8_isBook ⟨Nat.le_of_ble_eq_true rfl, Nat.le_of_ble_eq_true rfl⟩ (by decide) rfl rfl rfl (Nat.le_of_ble_eq_true rfl) rfl ?_
  refine fr_if_neb (q := 7) (tgt := 10) F dX8_add_4 (by decide) rfl (fun hc3 => ?_) (fun hc3 => ?_)
  · rw [if_pos hc3] at h
    refine fr_iload_n (q := 11) F dX8_add_10 rfl rfl ?_
    refine fr_i2l (q := 12) F dX8_add_11 rfl ?_
    refine fr_lconst (q := 13) (v := 0) F dX8_add_12 rfl (by decide) ?_
    refine fr_ldc2 (q := 16) F dX8_add_13 rfl klRX8_243 ?_
    obtain ⟨r4, hr5, h⟩ := fr_bd_some h
    refine fr_callS (q := 19) (M' := (u0, n0)) (rest := []) (st' := [.int (fr_b r4)]) F dX8_add_16 rfl (tX8_in hr5) mlRX8_55 msX8_in ⟨Nat.le_of_ble_eq_true rfl, Nat.le_of_ble_eq_true rfl⟩ rfl rfl (Nat.le_of_ble_eq_true rfl) rfl ?_
    refine fr_if_eqb (q := 22) (tgt := 55) F dX8_add_19 (by decide) rfl (fun hc6 => ?_) (fun hc6 => ?_)
    · rw [if_neg hc6] at h
      refine fr_ldc (q := 57) F dX8_add_55 rfl kcRX8_209 ?_
      obtain ⟨rfl, rfl⟩ := Prod.mk.inj (Option.some.inj h)
      exact fr_iret F E rfl dX8_add_57
    · rw [if_pos hc6] at h
      refine fr_iload_n (q := 23) F dX8_add_22 rfl rfl ?_
      refine fr_iload_n (q := 24) F dX8_add_23 rfl rfl ?_
      obtain ⟨r7, hr8, h⟩ := fr_bd_some h
      refine fr_callS (q := 27) (M' := (u0, n0)) (rest := []) (st' := [.int (fr_b r7)]) F dX8_add_24 rfl (tX8_isN hr8) mlRX8_245 msX8_isN ⟨Nat.le_of_ble_eq_true rfl, Nat.le_of_ble_eq_true rfl⟩ rfl rfl (Nat.le_of_ble_eq_true rfl) rfl ?_
      refine fr_if_eqb (q := 30) (tgt := 55) F dX8_add_27 (by decide) rfl (fun hc9 => ?_) (fun hc9 => ?_)
      · rw [if_neg hc9] at h
        refine fr_ldc (q := 57) F dX8_add_55 rfl kcRX8_209 ?_
        obtain ⟨rfl, rfl⟩ := Prod.mk.inj (Option.some.inj h)
        exact fr_iret F E rfl dX8_add_57
      · rw [if_pos hc9] at h
        refine fr_iload_n (q := 31) F dX8_add_30 rfl rfl ?_
        refine fr_i2l (q := 32) F dX8_add_31 rfl ?_
        refine fr_lconst (q := 33) (v := 1) F dX8_add_32 rfl (by decide) ?_
        refine fr_ldc2 (q := 36) F dX8_add_33 rfl klRX8_248 ?_
        obtain ⟨r10, hr11, h⟩ := fr_bd_some h
        refine fr_callS (q := 39) (M' := (u0, n0)) (rest := []) (st' := [.int (fr_b r10)]) F dX8_add_36 rfl (tX8_in hr11) mlRX8_55 msX8_in ⟨Nat.le_of_ble_eq_true rfl, Nat.le_of_ble_eq_true rfl⟩ rfl rfl (Nat.le_of_ble_eq_true rfl) rfl ?_
        refine fr_if_eqb (q := 42) (tgt := 55) F dX8_add_39 (by decide) rfl (fun hc12 => ?_) (fun hc12 => ?_)
        · rw [if_neg hc12] at h
          refine fr_ldc (q := 57) F dX8_add_55 rfl kcRX8_209 ?_
          obtain ⟨rfl, rfl⟩ := Prod.mk.inj (Option.some.inj h)
          exact fr_iret F E rfl dX8_add_57
        · rw [if_pos hc12] at h
          refine fr_iload (q := 44) F dX8_add_42 rfl rfl ?_
          refine fr_i2l (q := 45) F dX8_add_44 rfl ?_
          refine fr_lconst (q := 46) (v := 1) F dX8_add_45 rfl (by decide) ?_
          refine fr_ldc2 (q := 49) F dX8_add_46 rfl klRX8_250 ?_
          obtain ⟨r13, hr14, h⟩ := fr_bd_some h
          refine fr_callS (q := 52) (M' := (u0, n0)) (rest := []) (st' := [.int (fr_b r13)]) F dX8_add_49 rfl (tX8_in hr14) mlRX8_55 msX8_in ⟨Nat.le_of_ble_eq_true rfl, Nat.le_of_ble_eq_true rfl⟩ rfl rfl (Nat.le_of_ble_eq_true rfl) rfl ?_
          refine fr_if_neb (q := 55) (tgt := 58) F dX8_add_52 (by decide) rfl (fun hc15 => ?_) (fun hc15 => ?_)
          · rw [if_pos hc15] at h
            refine fr_aload_n (q := 59) F dX8_add_58 rfl rfl ?_
            refine fr_gfR (q := 62) (j := 53) F dX8_add_59 rfl faRX8_7 (by decide) rfl rfl ?_
            refine fr_bipush (q := 64) (v := 6) F dX8_add_62 rfl (by decide) ?_
            refine fr_ial (q := 65) (x := (n0 1 6)) F dX8_add_64 rfl (fr_vin rfl) (by decide) rfl rfl ?_
            refine fr_bipush (q := 67) (v := 12) F dX8_add_65 rfl (by decide) ?_
            refine fr_icmp_ne (q := 70) (tgt := 73) F dX8_add_67 (by decide) rfl (fun hc16 => ?_) (fun hc16 => ?_)
            · rw [if_neg hc16] at h
              refine fr_aload_n (q := 74) F dX8_add_73 rfl rfl ?_
              obtain ⟨n19, hr18, h⟩ := fr_bd_some h
              refine fr_callV (q := 77) (M' := (u0, n19)) (rest := []) (st' := []) F dX8_add_74 rfl (tX8_notes hr18) mlRX8_258 msX8_notes ⟨Nat.le_of_ble_eq_true rfl, Nat.le_of_ble_eq_true rfl⟩ (by decide) rfl rfl rfl (Nat.le_of_ble_eq_true rfl) rfl ?_
              refine fr_aload_n (q := 78) F dX8_add_77 rfl rfl ?_
              refine fr_gfR (q := 81) (j := 53) F dX8_add_78 rfl faRX8_7 (by decide) rfl rfl ?_
              refine fr_iload_n (q := 82) F dX8_add_81 rfl rfl ?_
              refine fr_iload_n (q := 83) F dX8_add_82 rfl rfl ?_
              refine fr_iload_n (q := 84) F dX8_add_83 rfl rfl ?_
              refine fr_iload (q := 86) F dX8_add_84 rfl rfl ?_
              obtain ⟨n22, hr21, h⟩ := fr_bd_some h
              refine fr_callS (q := 89) (M' := (u0, n22)) (rest := []) (st' := []) F dX8_add_86 rfl (tX8_puts_53 hr21) mlRX8_203 msX8_puts ⟨Nat.le_of_ble_eq_true rfl, Nat.le_of_ble_eq_true rfl⟩ rfl rfl (Nat.le_of_ble_eq_true rfl) rfl ?_
              refine fr_aload_n (q := 90) F dX8_add_89 rfl rfl ?_
              refine fr_gfR (q := 93) (j := 53) F dX8_add_90 rfl faRX8_7 (by decide) rfl rfl ?_
              refine fr_bipush (q := 95) (v := 6) F dX8_add_93 rfl (by decide) ?_
              refine fr_ial (q := 96) (x := (n22 1 6)) F dX8_add_95 rfl (fr_vin rfl) (by decide) rfl rfl ?_
              refine fr_iconst (q := 97) (v := 1) F dX8_add_96 rfl (by decide) ?_
              refine fr_isub (q := 98) F dX8_add_97 rfl ?_
              obtain ⟨rfl, rfl⟩ := Prod.mk.inj (Option.some.inj h)
              exact fr_iret F E rfl dX8_add_98
            · rw [if_pos hc16] at h
              refine fr_ldc (q := 72) F dX8_add_70 rfl kcRX8_210 ?_
              obtain ⟨rfl, rfl⟩ := Prod.mk.inj (Option.some.inj h)
              exact fr_iret F E rfl dX8_add_72
          · rw [if_neg hc15] at h
            refine fr_ldc (q := 57) F dX8_add_55 rfl kcRX8_209 ?_
            obtain ⟨rfl, rfl⟩ := Prod.mk.inj (Option.some.inj h)
            exact fr_iret F E rfl dX8_add_57
  · rw [if_neg hc3] at h
    refine fr_ldc (q := 9) F dX8_add_7 rfl kcRX8_238 ?_
    obtain ⟨rfl, rfl⟩ := Prod.mk.inj (Option.some.inj h)
    exact fr_iret F E rfl dX8_add_9
/-! FeastRota.law (0, None, None) -/
def fX7_law (a1 : Int32) (a2 : Int32) (n0 : fr_N) : Option (Int32 × fr_N) := if (n0 3 0) = 0 then some ((-1000002 : Int32), n0) else fr_bd (fX7_within a1 (0 : Int32) (5 : Int32)) fun r2 => (if r2 = true then fr_ck a1 6 (fr_ck a1 6 (fr_bd (fX7_within a2 (fr_tb1 (Int32.toNatClampNeg a1)) (fr_tb2 (Int32.toNatClampNeg a1))) fun r7 => (if r7 = true then fr_ck a1 6 (fr_bd (fX0_keep (2 : Int32) a1 (n0 4 (Int32.toNatClampNeg a1)) (0 : Int32) n0) fun n13 => (fr_ck a1 6 (fr_lt (fr_up n13 4 (Int32.toNatClampNeg a1) a2) fun n15 => (some ((n0 4 (Int32.toNatClampNeg a1)), n15))))) else some ((-1000001 : Int32), n0)))) else some ((-1000001 : Int32), n0))
theorem tX7_law {l : Launch} {G : fr_G} {u0 : fr_N} {a1 : Int32} {a2 : Int32} {n0 : fr_N} {rz : Int32} {nz : fr_N} (h : fX7_law a1 a2 n0 = some (rz, nz)) : fr_Met l G YX7_law [.ref 0, .int a1, .int a2] (n0, u0) (some (.int rz)) (nz, u0) := by
  refine fr_met (pad := List.replicate 1 none) (by decide) (Nat.le_of_ble_eq_true rfl) (fun _ h => List.eq_of_mem_replicate h) ⟨rfl, rfl⟩ (fun K F hG hL E => ?_)
  subst hG; subst hL
  rw [fX7_law] at h
  show fr_V YX7_law K 0 [some (.ref 0), some (.int a1), some (.int a2), none] [] (n0, u0)
  refine fr_aload_n (q := 1) F dX7_law_0 rfl rfl ?_
  refine fr_gfR (q := 4) (j := 3) F dX7_law_1 rfl faRX7_36 (by decide) rfl rfl ?_
  refine fr_gfI (q := 7) (x := (n0 3 0)) F dX7_law_4 rfl faRX7_128 (by decide) rfl rfl rfl ?_
  refine fr_if_ne (q := 10) (tgt := 13) F dX7_law_7 (by decide) rfl (fun hc1 => ?_) (fun hc1 => ?_)
  · rw [if_neg hc1] at h
    refine fr_iload_n (q := 14) F dX7_law_13 rfl rfl ?_
    refine fr_iconst (q := 15) (v := 0) F dX7_law_14 rfl (by decide) ?_
    refine fr_iconst (q := 16) (v := 5) F dX7_law_15 rfl (by decide) ?_
    obtain ⟨r2, hr3, h⟩ := fr_bd_some h
    refine fr_callS (q := 19) (M' := (n0, u0)) (rest := []) (st' := [.int (fr_b r2)]) F dX7_law_16 rfl (tX7_within hr3) mlRX7_68 msX7_within ⟨Nat.le_of_ble_eq_true rfl, Nat.le_of_ble_eq_true rfl⟩ rfl rfl (Nat.le_of_ble_eq_true rfl) rfl ?_
    refine fr_if_eqb (q := 22) (tgt := 39) F dX7_law_19 (by decide) rfl (fun hc4 => ?_) (fun hc4 => ?_)
    · rw [if_neg hc4] at h
      refine fr_ldc (q := 41) F dX7_law_39 rfl kcRX7_72 ?_
      obtain ⟨rfl, rfl⟩ := Prod.mk.inj (Option.some.inj h)
      exact fr_iret F E rfl dX7_law_41
    · rw [if_pos hc4] at h
      refine fr_iload_n (q := 23) F dX7_law_22 rfl rfl ?_
      refine fr_gs (q := 26) (k := 0) (j := 67) F dX7_law_23 rfl (by decide) slRX7_135 rfl ?_
      refine fr_iload_n (q := 27) F dX7_law_26 rfl rfl ?_
      obtain ⟨hi5, h⟩ := fr_ck_some h
      refine fr_tal (q := 28) (k := 0) (x := (fr_tb1 (Int32.toNatClampNeg a1))) F dX7_law_27 rfl hi5 (by decide) rfl rfl ?_
      refine fr_gs (q := 31) (k := 1) (j := 68) F dX7_law_28 rfl (by decide) slRX7_138 rfl ?_
      refine fr_iload_n (q := 32) F dX7_law_31 rfl rfl ?_
      obtain ⟨hi6, h⟩ := fr_ck_some h
      refine fr_tal (q := 33) (k := 1) (x := (fr_tb2 (Int32.toNatClampNeg a1))) F dX7_law_32 rfl hi6 (by decide) rfl rfl ?_
      obtain ⟨r7, hr8, h⟩ := fr_bd_some h
      refine fr_callS (q := 36) (M' := (n0, u0)) (rest := []) (st' := [.int (fr_b r7)]) F dX7_law_33 rfl (tX7_within hr8) mlRX7_68 msX7_within ⟨Nat.le_of_ble_eq_true rfl, Nat.le_of_ble_eq_true rfl⟩ rfl rfl (Nat.le_of_ble_eq_true rfl) rfl ?_
      refine fr_if_neb (q := 39) (tgt := 42) F dX7_law_36 (by decide) rfl (fun hc9 => ?_) (fun hc9 => ?_)
      · rw [if_pos hc9] at h
        refine fr_aload_n (q := 43) F dX7_law_42 rfl rfl ?_
        refine fr_gfR (q := 46) (j := 3) F dX7_law_43 rfl faRX7_36 (by decide) rfl rfl ?_
        refine fr_gfR (q := 49) (j := 4) F dX7_law_46 rfl faRX7_141 (by decide) rfl rfl ?_
        refine fr_iload_n (q := 50) F dX7_law_49 rfl rfl ?_
        obtain ⟨hi10, h⟩ := fr_ck_some h
        refine fr_ial (q := 51) (x := (n0 4 (Int32.toNatClampNeg a1))) F dX7_law_50 rfl hi10 (by decide) rfl rfl ?_
        refine fr_istore_n (q := 52) F dX7_law_51 rfl (by decide) rfl ?_
        refine fr_aload_n (q := 53) F dX7_law_52 rfl rfl ?_
        refine fr_gfR (q := 56) (j := 43) F dX7_law_53 rfl faRX7_47 (by decide) rfl rfl ?_
        refine fr_iconst (q := 57) (v := 2) F dX7_law_56 rfl (by decide) ?_
        refine fr_iload_n (q := 58) F dX7_law_57 rfl rfl ?_
        refine fr_iload_n (q := 59) F dX7_law_58 rfl rfl ?_
        refine fr_iconst (q := 60) (v := 0) F dX7_law_59 rfl (by decide) ?_
        obtain ⟨n13, hr12, h⟩ := fr_bd_some h
        refine fr_callV (q := 63) (M' := (n13, u0)) (rest := []) (st' := []) F dX7_law_60 rfl (tX0_keep hr12) mlRX7_120 msX0_keep ⟨Nat.le_of_ble_eq_true rfl, Nat.le_of_ble_eq_true rfl⟩ (by decide) rfl rfl rfl (Nat.le_of_ble_eq_true rfl) rfl ?_
        refine fr_aload_n (q := 64) F dX7_law_63 rfl rfl ?_
        refine fr_gfR (q := 67) (j := 3) F dX7_law_64 rfl faRX7_36 (by decide) rfl rfl ?_
        refine fr_gfR (q := 70) (j := 4) F dX7_law_67 rfl faRX7_141 (by decide) rfl rfl ?_
        refine fr_iload_n (q := 71) F dX7_law_70 rfl rfl ?_
        refine fr_iload_n (q := 72) F dX7_law_71 rfl rfl ?_
        obtain ⟨hi14, h⟩ := fr_ck_some h
        obtain ⟨n15, hn16, h⟩ := fr_lt_some h
        refine fr_ias (q := 73) (M' := (n15, u0)) F dX7_law_72 rfl hi14 (by decide) rfl (congrArg (fun z => (z, u0)) hn16) ?_
        refine fr_iload_n (q := 74) F dX7_law_73 rfl rfl ?_
        obtain ⟨rfl, rfl⟩ := Prod.mk.inj (Option.some.inj h)
        exact fr_iret F E rfl dX7_law_74
      · rw [if_neg hc9] at h
        refine fr_ldc (q := 41) F dX7_law_39 rfl kcRX7_72 ?_
        obtain ⟨rfl, rfl⟩ := Prod.mk.inj (Option.some.inj h)
        exact fr_iret F E rfl dX7_law_41
  · rw [if_pos hc1] at h
    refine fr_ldc (q := 12) F dX7_law_10 rfl kcRX7_105 ?_
    obtain ⟨rfl, rfl⟩ := Prod.mk.inj (Option.some.inj h)
    exact fr_iret F E rfl dX7_law_12
/-! FeastRotaModel.isLaw (None, None) -/
def fX8_isLaw (a0 : Int32) (a1 : Int32) : Option Bool := if a0 = (0 : Int32) then fr_bd (fX8_in (Int32.toInt64 a1) (0 : Int64) (2 : Int64)) fun r2 => (some r2) else (if a0 = (1 : Int32) then fr_bd (fX8_in (Int32.toInt64 a1) (0 : Int64) (29 : Int64)) fun r5 => (some r5) else (if a0 = (2 : Int32) then fr_bd (fX8_in (Int32.toInt64 a1) (0 : Int64) (6 : Int64)) fun r8 => (some r8) else (if a0 = (3 : Int32) then fr_bd (fX8_in (Int32.toInt64 a1) (10 : Int64) (150 : Int64)) fun r11 => (some r11) else (if a0 = (4 : Int32) then fr_bd (fX8_in (Int32.toInt64 a1) (1 : Int64) (9 : Int64)) fun r14 => (some r14) else (if a0 = (5 : Int32) then fr_bd (fX8_in (Int32.toInt64 a1) (0 : Int64) (2 : Int64)) fun r17 => (some r17) else (some false))))))
theorem tX8_isLaw {l : Launch} {G : fr_G} {M0 : fr_M} {a0 : Int32} {a1 : Int32} {rz : Bool} (h : fX8_isLaw a0 a1 = some rz) : fr_Met l G YX8_isLaw [.int a0, .int a1] M0 (some (.int (fr_b rz))) M0 := by
  refine fr_met (pad := List.replicate 0 none) (by decide) (Nat.le_of_ble_eq_true rfl) (fun _ h => List.eq_of_mem_replicate h) ⟨rfl, rfl⟩ (fun K F hG hL E => ?_)
  subst hG; subst hL
  rw [fX8_isLaw] at h
  show fr_V YX8_isLaw K 0 [some (.int a0), some (.int a1)] [] M0
  refine fr_iload_n (q := 1) F dX8_isLaw_0 rfl rfl ?_
  by_cases hc1 : a0 = (0 : Int32)
  · rw [if_pos hc1] at h
    refine fr_tswI (k := 0) (off := 39) (tgt := 40) F hc1 dX8_isLaw_1 (by decide) (by decide) (by decide) (by decide) ?_
    refine fr_iload_n (q := 41) F dX8_isLaw_40 rfl rfl ?_
    refine fr_i2l (q := 42) F dX8_isLaw_41 rfl ?_
    refine fr_lconst (q := 43) (v := 0) F dX8_isLaw_42 rfl (by decide) ?_
    refine fr_ldc2 (q := 46) F dX8_isLaw_43 rfl klRX8_265 ?_
    obtain ⟨r2, hr3, h⟩ := fr_bd_some h
    refine fr_callS (q := 49) (M' := M0) (rest := []) (st' := [.int (fr_b r2)]) F dX8_isLaw_46 rfl (tX8_in hr3) mlRX8_55 msX8_in ⟨Nat.le_of_ble_eq_true rfl, Nat.le_of_ble_eq_true rfl⟩ rfl rfl (Nat.le_of_ble_eq_true rfl) rfl ?_
    obtain rfl := Option.some.inj h
    exact fr_zret F E rfl dX8_isLaw_49
  · rw [if_neg hc1] at h
    by_cases hc4 : a0 = (1 : Int32)
    · rw [if_pos hc4] at h
      refine fr_tswI (k := 1) (off := 49) (tgt := 50) F hc4 dX8_isLaw_1 (by decide) (by decide) (by decide) (by decide) ?_
      refine fr_iload_n (q := 51) F dX8_isLaw_50 rfl rfl ?_
      refine fr_i2l (q := 52) F dX8_isLaw_51 rfl ?_
      refine fr_lconst (q := 53) (v := 0) F dX8_isLaw_52 rfl (by decide) ?_
      refine fr_ldc2 (q := 56) F dX8_isLaw_53 rfl klRX8_267 ?_
      obtain ⟨r5, hr6, h⟩ := fr_bd_some h
      refine fr_callS (q := 59) (M' := M0) (rest := []) (st' := [.int (fr_b r5)]) F dX8_isLaw_56 rfl (tX8_in hr6) mlRX8_55 msX8_in ⟨Nat.le_of_ble_eq_true rfl, Nat.le_of_ble_eq_true rfl⟩ rfl rfl (Nat.le_of_ble_eq_true rfl) rfl ?_
      obtain rfl := Option.some.inj h
      exact fr_zret F E rfl dX8_isLaw_59
    · rw [if_neg hc4] at h
      by_cases hc7 : a0 = (2 : Int32)
      · rw [if_pos hc7] at h
        refine fr_tswI (k := 2) (off := 59) (tgt := 60) F hc7 dX8_isLaw_1 (by decide) (by decide) (by decide) (by decide) ?_
        refine fr_iload_n (q := 61) F dX8_isLaw_60 rfl rfl ?_
        refine fr_i2l (q := 62) F dX8_isLaw_61 rfl ?_
        refine fr_lconst (q := 63) (v := 0) F dX8_isLaw_62 rfl (by decide) ?_
        refine fr_ldc2 (q := 66) F dX8_isLaw_63 rfl klRX8_250 ?_
        obtain ⟨r8, hr9, h⟩ := fr_bd_some h
        refine fr_callS (q := 69) (M' := M0) (rest := []) (st' := [.int (fr_b r8)]) F dX8_isLaw_66 rfl (tX8_in hr9) mlRX8_55 msX8_in ⟨Nat.le_of_ble_eq_true rfl, Nat.le_of_ble_eq_true rfl⟩ rfl rfl (Nat.le_of_ble_eq_true rfl) rfl ?_
        obtain rfl := Option.some.inj h
        exact fr_zret F E rfl dX8_isLaw_69
      · rw [if_neg hc7] at h
        by_cases hc10 : a0 = (3 : Int32)
        · rw [if_pos hc10] at h
          refine fr_tswI (k := 3) (off := 69) (tgt := 70) F hc10 dX8_isLaw_1 (by decide) (by decide) (by decide) (by decide) ?_
          refine fr_iload_n (q := 71) F dX8_isLaw_70 rfl rfl ?_
          refine fr_i2l (q := 72) F dX8_isLaw_71 rfl ?_
          refine fr_ldc2 (q := 75) F dX8_isLaw_72 rfl klRX8_269 ?_
          refine fr_ldc2 (q := 78) F dX8_isLaw_75 rfl klRX8_271 ?_
          obtain ⟨r11, hr12, h⟩ := fr_bd_some h
          refine fr_callS (q := 81) (M' := M0) (rest := []) (st' := [.int (fr_b r11)]) F dX8_isLaw_78 rfl (tX8_in hr12) mlRX8_55 msX8_in ⟨Nat.le_of_ble_eq_true rfl, Nat.le_of_ble_eq_true rfl⟩ rfl rfl (Nat.le_of_ble_eq_true rfl) rfl ?_
          obtain rfl := Option.some.inj h
          exact fr_zret F E rfl dX8_isLaw_81
        · rw [if_neg hc10] at h
          by_cases hc13 : a0 = (4 : Int32)
          · rw [if_pos hc13] at h
            refine fr_tswI (k := 4) (off := 81) (tgt := 82) F hc13 dX8_isLaw_1 (by decide) (by decide) (by decide) (by decide) ?_
            refine fr_iload_n (q := 83) F dX8_isLaw_82 rfl rfl ?_
            refine fr_i2l (q := 84) F dX8_isLaw_83 rfl ?_
            refine fr_lconst (q := 85) (v := 1) F dX8_isLaw_84 rfl (by decide) ?_
            refine fr_ldc2 (q := 88) F dX8_isLaw_85 rfl klRX8_273 ?_
            obtain ⟨r14, hr15, h⟩ := fr_bd_some h
            refine fr_callS (q := 91) (M' := M0) (rest := []) (st' := [.int (fr_b r14)]) F dX8_isLaw_88 rfl (tX8_in hr15) mlRX8_55 msX8_in ⟨Nat.le_of_ble_eq_true rfl, Nat.le_of_ble_eq_true rfl⟩ rfl rfl (Nat.le_of_ble_eq_true rfl) rfl ?_
            obtain rfl := Option.some.inj h
            exact fr_zret F E rfl dX8_isLaw_91
          · rw [if_neg hc13] at h
            by_cases hc16 : a0 = (5 : Int32)
            · rw [if_pos hc16] at h
              refine fr_tswI (k := 5) (off := 91) (tgt := 92) F hc16 dX8_isLaw_1 (by decide) (by decide) (by decide) (by decide) ?_
              refine fr_iload_n (q := 93) F dX8_isLaw_92 rfl rfl ?_
              refine fr_i2l (q := 94) F dX8_isLaw_93 rfl ?_
              refine fr_lconst (q := 95) (v := 0) F dX8_isLaw_94 rfl (by decide) ?_
              refine fr_ldc2 (q := 98) F dX8_isLaw_95 rfl klRX8_265 ?_
              obtain ⟨r17, hr18, h⟩ := fr_bd_some h
              refine fr_callS (q := 101) (M' := M0) (rest := []) (st' := [.int (fr_b r17)]) F dX8_isLaw_98 rfl (tX8_in hr18) mlRX8_55 msX8_in ⟨Nat.le_of_ble_eq_true rfl, Nat.le_of_ble_eq_true rfl⟩ rfl rfl (Nat.le_of_ble_eq_true rfl) rfl ?_
              obtain rfl := Option.some.inj h
              exact fr_zret F E rfl dX8_isLaw_101
            · rw [if_neg hc16] at h
              refine fr_tswO (tgt := 102) F dX8_isLaw_1 (fr_out (n := 5) (by decide) (fun k hk => match k, hk with | 0, _ => hc1 | 1, _ => hc4 | 2, _ => hc7 | 3, _ => hc10 | 4, _ => hc13 | 5, _ => hc16 | k + 6, hk => absurd hk (by omega))) (by decide) ?_
              refine fr_iconst (q := 103) (v := 0) F dX8_isLaw_102 rfl (by decide) ?_
              obtain rfl := Option.some.inj h
              exact fr_zret F E rfl dX8_isLaw_103
/-! FeastRotaModel.law (52, None, None) -/
def fX8_law (a1 : Int32) (a2 : Int32) (n0 : fr_N) : Option (Int32 × fr_N) := fr_bd (fX8_isBook n0) fun r1 => (if r1 = true then fr_bd (fX8_isLaw a1 a2) fun r4 => (if r4 = true then fr_bd (fX8_notes n0) fun n9 => (fr_ck a1 79 (fr_ck a1 79 (fr_lt (fr_up n9 1 (Int32.toNatClampNeg a1) a2) fun n12 => (some ((n9 1 (Int32.toNatClampNeg a1)), n12))))) else some ((-1000001 : Int32), n0)) else some ((-1000002 : Int32), n0))
theorem tX8_law {l : Launch} {G : fr_G} {u0 : fr_N} {a1 : Int32} {a2 : Int32} {n0 : fr_N} {rz : Int32} {nz : fr_N} (h : fX8_law a1 a2 n0 = some (rz, nz)) : fr_Met l G YX8_law [.ref 52, .int a1, .int a2] (u0, n0) (some (.int rz)) (u0, nz) := by
  refine fr_met (pad := List.replicate 1 none) (by decide) (Nat.le_of_ble_eq_true rfl) (fun _ h => List.eq_of_mem_replicate h) ⟨rfl, rfl⟩ (fun K F hG hL E => ?_)
  subst hG; subst hL
  rw [fX8_law] at h
  show fr_V YX8_law K 0 [some (.ref 52), some (.int a1), some (.int a2), none] [] (u0, n0)
  refine fr_aload_n (q := 1) F dX8_law_0 rfl rfl ?_
  obtain ⟨r1, hr2, h⟩ := fr_bd_some h
  refine fr_callV (q := 4) (M' := (u0, n0)) (rest := []) (st' := [.int (fr_b r1)]) F dX8_law_1 rfl (tX8_isBook hr2) mlRX8_261 msX8_isBook ⟨Nat.le_of_ble_eq_true rfl, Nat.le_of_ble_eq_true rfl⟩ (by decide) rfl rfl rfl (Nat.le_of_ble_eq_true rfl) rfl ?_
  refine fr_if_neb (q := 7) (tgt := 10) F dX8_law_4 (by decide) rfl (fun hc3 => ?_) (fun hc3 => ?_)
  · rw [if_pos hc3] at h
    refine fr_iload_n (q := 11) F dX8_law_10 rfl rfl ?_
    refine fr_iload_n (q := 12) F dX8_law_11 rfl rfl ?_
    obtain ⟨r4, hr5, h⟩ := fr_bd_some h
    refine fr_callS (q := 15) (M' := (u0, n0)) (rest := []) (st' := [.int (fr_b r4)]) F dX8_law_12 rfl (tX8_isLaw hr5) mlRX8_275 msX8_isLaw ⟨Nat.le_of_ble_eq_true rfl, Nat.le_of_ble_eq_true rfl⟩ rfl rfl (Nat.le_of_ble_eq_true rfl) rfl ?_
    refine fr_if_neb (q := 18) (tgt := 21) F dX8_law_15 (by decide) rfl (fun hc6 => ?_) (fun hc6 => ?_)
    · rw [if_pos hc6] at h
      refine fr_aload_n (q := 22) F dX8_law_21 rfl rfl ?_
      obtain ⟨n9, hr8, h⟩ := fr_bd_some h
      refine fr_callV (q := 25) (M' := (u0, n9)) (rest := []) (st' := []) F dX8_law_22 rfl (tX8_notes hr8) mlRX8_258 msX8_notes ⟨Nat.le_of_ble_eq_true rfl, Nat.le_of_ble_eq_true rfl⟩ (by decide) rfl rfl rfl (Nat.le_of_ble_eq_true rfl) rfl ?_
      refine fr_aload_n (q := 26) F dX8_law_25 rfl rfl ?_
      refine fr_gfR (q := 29) (j := 53) F dX8_law_26 rfl faRX8_7 (by decide) rfl rfl ?_
      refine fr_iload_n (q := 30) F dX8_law_29 rfl rfl ?_
      obtain ⟨hi10, h⟩ := fr_ck_some h
      refine fr_ial (q := 31) (x := (n9 1 (Int32.toNatClampNeg a1))) F dX8_law_30 rfl hi10 (by decide) rfl rfl ?_
      refine fr_istore_n (q := 32) F dX8_law_31 rfl (by decide) rfl ?_
      refine fr_aload_n (q := 33) F dX8_law_32 rfl rfl ?_
      refine fr_gfR (q := 36) (j := 53) F dX8_law_33 rfl faRX8_7 (by decide) rfl rfl ?_
      refine fr_iload_n (q := 37) F dX8_law_36 rfl rfl ?_
      refine fr_iload_n (q := 38) F dX8_law_37 rfl rfl ?_
      obtain ⟨hi11, h⟩ := fr_ck_some h
      obtain ⟨n12, hn13, h⟩ := fr_lt_some h
      refine fr_ias (q := 39) (M' := (u0, n12)) F dX8_law_38 rfl hi11 (by decide) rfl (congrArg (fun z => (u0, z)) hn13) ?_
      refine fr_iload_n (q := 40) F dX8_law_39 rfl rfl ?_
      obtain ⟨rfl, rfl⟩ := Prod.mk.inj (Option.some.inj h)
      exact fr_iret F E rfl dX8_law_40
    · rw [if_neg hc6] at h
      refine fr_ldc (q := 20) F dX8_law_18 rfl kcRX8_209 ?_
      obtain ⟨rfl, rfl⟩ := Prod.mk.inj (Option.some.inj h)
      exact fr_iret F E rfl dX8_law_20
  · rw [if_neg hc3] at h
    refine fr_ldc (q := 9) F dX8_law_7 rfl kcRX8_238 ?_
    obtain ⟨rfl, rfl⟩ := Prod.mk.inj (Option.some.inj h)
    exact fr_iret F E rfl dX8_law_9
/-! FeastRota$Book.hasChoir (3, None) -/
def fX1_hasChoir_3 (a1 : Int32) (n0 : fr_N) : Option Bool := if a1 < (0 : Int32) then some false else if (n0 3 3) ≤ a1 then some false else some true
theorem tX1_hasChoir_3 {l : Launch} {G : fr_G} {u0 : fr_N} {a1 : Int32} {n0 : fr_N} {rz : Bool} (h : fX1_hasChoir_3 a1 n0 = some rz) : fr_Met l G YX1_hasChoir [.ref 3, .int a1] (n0, u0) (some (.int (fr_b rz))) (n0, u0) := by
  refine fr_met (pad := List.replicate 0 none) (by decide) (Nat.le_of_ble_eq_true rfl) (fun _ h => List.eq_of_mem_replicate h) ⟨rfl, rfl⟩ (fun K F hG hL E => ?_)
  subst hG; subst hL
  rw [fX1_hasChoir_3] at h
  show fr_V YX1_hasChoir K 0 [some (.ref 3), some (.int a1)] [] (n0, u0)
  refine fr_iconst (q := 1) (v := 0) F dX1_hasChoir_0 rfl (by decide) ?_
  refine fr_iload_n (q := 2) F dX1_hasChoir_1 rfl rfl ?_
  refine fr_icmp_gt (q := 5) (tgt := 17) F dX1_hasChoir_2 (by decide) rfl (fun hc1 => ?_) (fun hc1 => ?_)
  · rw [if_pos hc1] at h
    refine fr_iconst (q := 18) (v := 0) F dX1_hasChoir_17 rfl (by decide) ?_
    obtain rfl := Option.some.inj h
    exact fr_zret F E rfl dX1_hasChoir_18
  · rw [if_neg hc1] at h
    refine fr_iload_n (q := 6) F dX1_hasChoir_5 rfl rfl ?_
    refine fr_aload_n (q := 7) F dX1_hasChoir_6 rfl rfl ?_
    refine fr_gfI (q := 10) (x := (n0 3 3)) F dX1_hasChoir_7 rfl faRX1_55 (by decide) rfl rfl rfl ?_
    refine fr_icmp_ge (q := 13) (tgt := 17) F dX1_hasChoir_10 (by decide) rfl (fun hc2 => ?_) (fun hc2 => ?_)
    · rw [if_pos hc2] at h
      refine fr_iconst (q := 18) (v := 0) F dX1_hasChoir_17 rfl (by decide) ?_
      obtain rfl := Option.some.inj h
      exact fr_zret F E rfl dX1_hasChoir_18
    · rw [if_neg hc2] at h
      refine fr_iconst (q := 14) (v := 1) F dX1_hasChoir_13 rfl (by decide) ?_
      refine fr_goto (tgt := 18) F dX1_hasChoir_14 (by decide) ?_
      obtain rfl := Option.some.inj h
      exact fr_zret F E rfl dX1_hasChoir_18
/-! FeastRota.away (0, None, None, None) -/
def fX7_away (a1 : Int32) (a2 : Int32) (a3 : Int32) (n0 : fr_N) : Option (Int32 × fr_N) := fr_bd (fX1_hasChoir_3 a1 n0) fun r1 => (if r1 = true then fr_bd (fX7_within a2 (0 : Int32) (366 : Int32)) fun r4 => (if r4 = true then fr_bd (fX7_within a3 (0 : Int32) (366 : Int32)) fun r7 => (if r7 = true then fr_ck a1 5 (fr_ck a1 5 (fr_bd (fX0_keep (3 : Int32) a1 (n0 9 (Int32.toNatClampNeg a1)) (n0 10 (Int32.toNatClampNeg a1)) n0) fun n14 => (fr_ck a1 5 (fr_lt (fr_up n14 9 (Int32.toNatClampNeg a1) a2) fun n16 => (fr_ck a1 5 (fr_lt (fr_up n16 10 (Int32.toNatClampNeg a1) a3) fun n19 => (some ((1 : Int32), n19)))))))) else some ((-1000001 : Int32), n0)) else some ((-1000001 : Int32), n0)) else some ((-1000001 : Int32), n0))
theorem tX7_away {l : Launch} {G : fr_G} {u0 : fr_N} {a1 : Int32} {a2 : Int32} {a3 : Int32} {n0 : fr_N} {rz : Int32} {nz : fr_N} (h : fX7_away a1 a2 a3 n0 = some (rz, nz)) : fr_Met l G YX7_away [.ref 0, .int a1, .int a2, .int a3] (n0, u0) (some (.int rz)) (nz, u0) := by
  refine fr_met (pad := List.replicate 0 none) (by decide) (Nat.le_of_ble_eq_true rfl) (fun _ h => List.eq_of_mem_replicate h) ⟨rfl, rfl⟩ (fun K F hG hL E => ?_)
  subst hG; subst hL
  rw [fX7_away] at h
  show fr_V YX7_away K 0 [some (.ref 0), some (.int a1), some (.int a2), some (.int a3)] [] (n0, u0)
  refine fr_aload_n (q := 1) F dX7_away_0 rfl rfl ?_
  refine fr_gfR (q := 4) (j := 3) F dX7_away_1 rfl faRX7_36 (by decide) rfl rfl ?_
  refine fr_iload_n (q := 5) F dX7_away_4 rfl rfl ?_
  obtain ⟨r1, hr2, h⟩ := fr_bd_some h
  refine fr_callV (q := 8) (M' := (n0, u0)) (rest := []) (st' := [.int (fr_b r1)]) F dX7_away_5 rfl (tX1_hasChoir_3 hr2) mlRX7_144 msX1_hasChoir ⟨Nat.le_of_ble_eq_true rfl, Nat.le_of_ble_eq_true rfl⟩ (by decide) rfl rfl rfl (Nat.le_of_ble_eq_true rfl) rfl ?_
  refine fr_if_eqb (q := 11) (tgt := 33) F dX7_away_8 (by decide) rfl (fun hc3 => ?_) (fun hc3 => ?_)
  · rw [if_neg hc3] at h
    refine fr_ldc (q := 35) F dX7_away_33 rfl kcRX7_72 ?_
    obtain ⟨rfl, rfl⟩ := Prod.mk.inj (Option.some.inj h)
    exact fr_iret F E rfl dX7_away_35
  · rw [if_pos hc3] at h
    refine fr_iload_n (q := 12) F dX7_away_11 rfl rfl ?_
    refine fr_iconst (q := 13) (v := 0) F dX7_away_12 rfl (by decide) ?_
    refine fr_sipush (q := 16) (v := 366) F dX7_away_13 rfl (by decide) ?_
    obtain ⟨r4, hr5, h⟩ := fr_bd_some h
    refine fr_callS (q := 19) (M' := (n0, u0)) (rest := []) (st' := [.int (fr_b r4)]) F dX7_away_16 rfl (tX7_within hr5) mlRX7_68 msX7_within ⟨Nat.le_of_ble_eq_true rfl, Nat.le_of_ble_eq_true rfl⟩ rfl rfl (Nat.le_of_ble_eq_true rfl) rfl ?_
    refine fr_if_eqb (q := 22) (tgt := 33) F dX7_away_19 (by decide) rfl (fun hc6 => ?_) (fun hc6 => ?_)
    · rw [if_neg hc6] at h
      refine fr_ldc (q := 35) F dX7_away_33 rfl kcRX7_72 ?_
      obtain ⟨rfl, rfl⟩ := Prod.mk.inj (Option.some.inj h)
      exact fr_iret F E rfl dX7_away_35
    · rw [if_pos hc6] at h
      refine fr_iload_n (q := 23) F dX7_away_22 rfl rfl ?_
      refine fr_iconst (q := 24) (v := 0) F dX7_away_23 rfl (by decide) ?_
      refine fr_sipush (q := 27) (v := 366) F dX7_away_24 rfl (by decide) ?_
      obtain ⟨r7, hr8, h⟩ := fr_bd_some h
      refine fr_callS (q := 30) (M' := (n0, u0)) (rest := []) (st' := [.int (fr_b r7)]) F dX7_away_27 rfl (tX7_within hr8) mlRX7_68 msX7_within ⟨Nat.le_of_ble_eq_true rfl, Nat.le_of_ble_eq_true rfl⟩ rfl rfl (Nat.le_of_ble_eq_true rfl) rfl ?_
      refine fr_if_neb (q := 33) (tgt := 36) F dX7_away_30 (by decide) rfl (fun hc9 => ?_) (fun hc9 => ?_)
      · rw [if_pos hc9] at h
        refine fr_aload_n (q := 37) F dX7_away_36 rfl rfl ?_
        refine fr_gfR (q := 40) (j := 43) F dX7_away_37 rfl faRX7_47 (by decide) rfl rfl ?_
        refine fr_iconst (q := 41) (v := 3) F dX7_away_40 rfl (by decide) ?_
        refine fr_iload_n (q := 42) F dX7_away_41 rfl rfl ?_
        refine fr_aload_n (q := 43) F dX7_away_42 rfl rfl ?_
        refine fr_gfR (q := 46) (j := 3) F dX7_away_43 rfl faRX7_36 (by decide) rfl rfl ?_
        refine fr_gfR (q := 49) (j := 9) F dX7_away_46 rfl faRX7_147 (by decide) rfl rfl ?_
        refine fr_iload_n (q := 50) F dX7_away_49 rfl rfl ?_
        obtain ⟨hi10, h⟩ := fr_ck_some h
        refine fr_ial (q := 51) (x := (n0 9 (Int32.toNatClampNeg a1))) F dX7_away_50 rfl hi10 (by decide) rfl rfl ?_
        refine fr_aload_n (q := 52) F dX7_away_51 rfl rfl ?_
        refine fr_gfR (q := 55) (j := 3) F dX7_away_52 rfl faRX7_36 (by decide) rfl rfl ?_
        refine fr_gfR (q := 58) (j := 10) F dX7_away_55 rfl faRX7_150 (by decide) rfl rfl ?_
        refine fr_iload_n (q := 59) F dX7_away_58 rfl rfl ?_
        obtain ⟨hi11, h⟩ := fr_ck_some h
        refine fr_ial (q := 60) (x := (n0 10 (Int32.toNatClampNeg a1))) F dX7_away_59 rfl hi11 (by decide) rfl rfl ?_
        obtain ⟨n14, hr13, h⟩ := fr_bd_some h
        refine fr_callV (q := 63) (M' := (n14, u0)) (rest := []) (st' := []) F dX7_away_60 rfl (tX0_keep hr13) mlRX7_120 msX0_keep ⟨Nat.le_of_ble_eq_true rfl, Nat.le_of_ble_eq_true rfl⟩ (by decide) rfl rfl rfl (Nat.le_of_ble_eq_true rfl) rfl ?_
        refine fr_aload_n (q := 64) F dX7_away_63 rfl rfl ?_
        refine fr_gfR (q := 67) (j := 3) F dX7_away_64 rfl faRX7_36 (by decide) rfl rfl ?_
        refine fr_gfR (q := 70) (j := 9) F dX7_away_67 rfl faRX7_147 (by decide) rfl rfl ?_
        refine fr_iload_n (q := 71) F dX7_away_70 rfl rfl ?_
        refine fr_iload_n (q := 72) F dX7_away_71 rfl rfl ?_
        obtain ⟨hi15, h⟩ := fr_ck_some h
        obtain ⟨n16, hn17, h⟩ := fr_lt_some h
        refine fr_ias (q := 73) (M' := (n16, u0)) F dX7_away_72 rfl hi15 (by decide) rfl (congrArg (fun z => (z, u0)) hn17) ?_
        refine fr_aload_n (q := 74) F dX7_away_73 rfl rfl ?_
        refine fr_gfR (q := 77) (j := 3) F dX7_away_74 rfl faRX7_36 (by decide) rfl rfl ?_
        refine fr_gfR (q := 80) (j := 10) F dX7_away_77 rfl faRX7_150 (by decide) rfl rfl ?_
        refine fr_iload_n (q := 81) F dX7_away_80 rfl rfl ?_
        refine fr_iload_n (q := 82) F dX7_away_81 rfl rfl ?_
        obtain ⟨hi18, h⟩ := fr_ck_some h
        obtain ⟨n19, hn20, h⟩ := fr_lt_some h
        refine fr_ias (q := 83) (M' := (n19, u0)) F dX7_away_82 rfl hi18 (by decide) rfl (congrArg (fun z => (z, u0)) hn20) ?_
        refine fr_iconst (q := 84) (v := 1) F dX7_away_83 rfl (by decide) ?_
        obtain ⟨rfl, rfl⟩ := Prod.mk.inj (Option.some.inj h)
        exact fr_iret F E rfl dX7_away_84
      · rw [if_neg hc9] at h
        refine fr_ldc (q := 35) F dX7_away_33 rfl kcRX7_72 ?_
        obtain ⟨rfl, rfl⟩ := Prod.mk.inj (Option.some.inj h)
        exact fr_iret F E rfl dX7_away_35
/-! FeastRotaModel.isChoir (52, None) -/
def fX8_isChoir (a1 : Int32) (n0 : fr_N) : Option Bool := fr_bd (fX8_in (Int32.toInt64 a1) (0 : Int64) (Int32.toInt64 ((n0 1 8) - (1 : Int32)))) fun r1 => (some r1)
theorem tX8_isChoir {l : Launch} {G : fr_G} {u0 : fr_N} {a1 : Int32} {n0 : fr_N} {rz : Bool} (h : fX8_isChoir a1 n0 = some rz) : fr_Met l G YX8_isChoir [.ref 52, .int a1] (u0, n0) (some (.int (fr_b rz))) (u0, n0) := by
  refine fr_met (pad := List.replicate 0 none) (by decide) (Nat.le_of_ble_eq_true rfl) (fun _ h => List.eq_of_mem_replicate h) ⟨rfl, rfl⟩ (fun K F hG hL E => ?_)
  subst hG; subst hL
  rw [fX8_isChoir] at h
  show fr_V YX8_isChoir K 0 [some (.ref 52), some (.int a1)] [] (u0, n0)
  refine fr_iload_n (q := 1) F dX8_isChoir_0 rfl rfl ?_
  refine fr_i2l (q := 2) F dX8_isChoir_1 rfl ?_
  refine fr_lconst (q := 3) (v := 0) F dX8_isChoir_2 rfl (by decide) ?_
  refine fr_aload_n (q := 4) F dX8_isChoir_3 rfl rfl ?_
  refine fr_gfR (q := 7) (j := 53) F dX8_isChoir_4 rfl faRX8_7 (by decide) rfl rfl ?_
  refine fr_bipush (q := 9) (v := 8) F dX8_isChoir_7 rfl (by decide) ?_
  refine fr_ial (q := 10) (x := (n0 1 8)) F dX8_isChoir_9 rfl (fr_vin rfl) (by decide) rfl rfl ?_
  refine fr_iconst (q := 11) (v := 1) F dX8_isChoir_10 rfl (by decide) ?_
  refine fr_isub (q := 12) F dX8_isChoir_11 rfl ?_
  refine fr_i2l (q := 13) F dX8_isChoir_12 rfl ?_
  obtain ⟨r1, hr2, h⟩ := fr_bd_some h
  refine fr_callS (q := 16) (M' := (u0, n0)) (rest := []) (st' := [.int (fr_b r1)]) F dX8_isChoir_13 rfl (tX8_in hr2) mlRX8_55 msX8_in ⟨Nat.le_of_ble_eq_true rfl, Nat.le_of_ble_eq_true rfl⟩ rfl rfl (Nat.le_of_ble_eq_true rfl) rfl ?_
  obtain rfl := Option.some.inj h
  exact fr_zret F E rfl dX8_isChoir_16
/-! FeastRotaModel.away (52, None, None, None) -/
def fX8_away (a1 : Int32) (a2 : Int32) (a3 : Int32) (n0 : fr_N) : Option (Int32 × fr_N) := fr_bd (fX8_isChoir a1 n0) fun r1 => (if r1 = true then fr_bd (fX8_in (Int32.toInt64 a2) (0 : Int64) (366 : Int64)) fun r4 => (if r4 = true then fr_bd (fX8_in (Int32.toInt64 a3) (0 : Int64) (366 : Int64)) fun r7 => (if r7 = true then fr_bd (fX8_notes n0) fun n12 => (fr_ck ((69 : Int32) + ((2 : Int32) * a1)) 79 (fr_lt (fr_up n12 1 (Int32.toNatClampNeg ((69 : Int32) + ((2 : Int32) * a1))) a2) fun n14 => (fr_ck (((69 : Int32) + ((2 : Int32) * a1)) + (1 : Int32)) 79 (fr_lt (fr_up n14 1 (Int32.toNatClampNeg (((69 : Int32) + ((2 : Int32) * a1)) + (1 : Int32))) a3) fun n17 => (some ((1 : Int32), n17)))))) else some ((-1000001 : Int32), n0)) else some ((-1000001 : Int32), n0)) else some ((-1000001 : Int32), n0))
theorem tX8_away {l : Launch} {G : fr_G} {u0 : fr_N} {a1 : Int32} {a2 : Int32} {a3 : Int32} {n0 : fr_N} {rz : Int32} {nz : fr_N} (h : fX8_away a1 a2 a3 n0 = some (rz, nz)) : fr_Met l G YX8_away [.ref 52, .int a1, .int a2, .int a3] (u0, n0) (some (.int rz)) (u0, nz) := by
  refine fr_met (pad := List.replicate 0 none) (by decide) (Nat.le_of_ble_eq_true rfl) (fun _ h => List.eq_of_mem_replicate h) ⟨rfl, rfl⟩ (fun K F hG hL E => ?_)
  subst hG; subst hL
  rw [fX8_away] at h
  show fr_V YX8_away K 0 [some (.ref 52), some (.int a1), some (.int a2), some (.int a3)] [] (u0, n0)
  refine fr_aload_n (q := 1) F dX8_away_0 rfl rfl ?_
  refine fr_iload_n (q := 2) F dX8_away_1 rfl rfl ?_
  obtain ⟨r1, hr2, h⟩ := fr_bd_some h
  refine fr_callV (q := 5) (M' := (u0, n0)) (rest := []) (st' := [.int (fr_b r1)]) F dX8_away_2 rfl (tX8_isChoir hr2) mlRX8_278 msX8_isChoir ⟨Nat.le_of_ble_eq_true rfl, Nat.le_of_ble_eq_true rfl⟩ (by decide) rfl rfl rfl (Nat.le_of_ble_eq_true rfl) rfl ?_
  refine fr_if_eqb (q := 8) (tgt := 32) F dX8_away_5 (by decide) rfl (fun hc3 => ?_) (fun hc3 => ?_)
  · rw [if_neg hc3] at h
    refine fr_ldc (q := 34) F dX8_away_32 rfl kcRX8_209 ?_
    obtain ⟨rfl, rfl⟩ := Prod.mk.inj (Option.some.inj h)
    exact fr_iret F E rfl dX8_away_34
  · rw [if_pos hc3] at h
    refine fr_iload_n (q := 9) F dX8_away_8 rfl rfl ?_
    refine fr_i2l (q := 10) F dX8_away_9 rfl ?_
    refine fr_lconst (q := 11) (v := 0) F dX8_away_10 rfl (by decide) ?_
    refine fr_ldc2 (q := 14) F dX8_away_11 rfl klRX8_281 ?_
    obtain ⟨r4, hr5, h⟩ := fr_bd_some h
    refine fr_callS (q := 17) (M' := (u0, n0)) (rest := []) (st' := [.int (fr_b r4)]) F dX8_away_14 rfl (tX8_in hr5) mlRX8_55 msX8_in ⟨Nat.le_of_ble_eq_true rfl, Nat.le_of_ble_eq_true rfl⟩ rfl rfl (Nat.le_of_ble_eq_true rfl) rfl ?_
    refine fr_if_eqb (q := 20) (tgt := 32) F dX8_away_17 (by decide) rfl (fun hc6 => ?_) (fun hc6 => ?_)
    · rw [if_neg hc6] at h
      refine fr_ldc (q := 34) F dX8_away_32 rfl kcRX8_209 ?_
      obtain ⟨rfl, rfl⟩ := Prod.mk.inj (Option.some.inj h)
      exact fr_iret F E rfl dX8_away_34
    · rw [if_pos hc6] at h
      refine fr_iload_n (q := 21) F dX8_away_20 rfl rfl ?_
      refine fr_i2l (q := 22) F dX8_away_21 rfl ?_
      refine fr_lconst (q := 23) (v := 0) F dX8_away_22 rfl (by decide) ?_
      refine fr_ldc2 (q := 26) F dX8_away_23 rfl klRX8_281 ?_
      obtain ⟨r7, hr8, h⟩ := fr_bd_some h
      refine fr_callS (q := 29) (M' := (u0, n0)) (rest := []) (st' := [.int (fr_b r7)]) F dX8_away_26 rfl (tX8_in hr8) mlRX8_55 msX8_in ⟨Nat.le_of_ble_eq_true rfl, Nat.le_of_ble_eq_true rfl⟩ rfl rfl (Nat.le_of_ble_eq_true rfl) rfl ?_
      refine fr_if_neb (q := 32) (tgt := 35) F dX8_away_29 (by decide) rfl (fun hc9 => ?_) (fun hc9 => ?_)
      · rw [if_pos hc9] at h
        refine fr_aload_n (q := 36) F dX8_away_35 rfl rfl ?_
        obtain ⟨n12, hr11, h⟩ := fr_bd_some h
        refine fr_callV (q := 39) (M' := (u0, n12)) (rest := []) (st' := []) F dX8_away_36 rfl (tX8_notes hr11) mlRX8_258 msX8_notes ⟨Nat.le_of_ble_eq_true rfl, Nat.le_of_ble_eq_true rfl⟩ (by decide) rfl rfl rfl (Nat.le_of_ble_eq_true rfl) rfl ?_
        refine fr_aload_n (q := 40) F dX8_away_39 rfl rfl ?_
        refine fr_gfR (q := 43) (j := 53) F dX8_away_40 rfl faRX8_7 (by decide) rfl rfl ?_
        refine fr_bipush (q := 45) (v := 69) F dX8_away_43 rfl (by decide) ?_
        refine fr_iconst (q := 46) (v := 2) F dX8_away_45 rfl (by decide) ?_
        refine fr_iload_n (q := 47) F dX8_away_46 rfl rfl ?_
        refine fr_imul (q := 48) F dX8_away_47 rfl ?_
        refine fr_iadd (q := 49) F dX8_away_48 rfl ?_
        refine fr_iload_n (q := 50) F dX8_away_49 rfl rfl ?_
        obtain ⟨hi13, h⟩ := fr_ck_some h
        obtain ⟨n14, hn15, h⟩ := fr_lt_some h
        refine fr_ias (q := 51) (M' := (u0, n14)) F dX8_away_50 rfl hi13 (by decide) rfl (congrArg (fun z => (u0, z)) hn15) ?_
        refine fr_aload_n (q := 52) F dX8_away_51 rfl rfl ?_
        refine fr_gfR (q := 55) (j := 53) F dX8_away_52 rfl faRX8_7 (by decide) rfl rfl ?_
        refine fr_bipush (q := 57) (v := 69) F dX8_away_55 rfl (by decide) ?_
        refine fr_iconst (q := 58) (v := 2) F dX8_away_57 rfl (by decide) ?_
        refine fr_iload_n (q := 59) F dX8_away_58 rfl rfl ?_
        refine fr_imul (q := 60) F dX8_away_59 rfl ?_
        refine fr_iadd (q := 61) F dX8_away_60 rfl ?_
        refine fr_iconst (q := 62) (v := 1) F dX8_away_61 rfl (by decide) ?_
        refine fr_iadd (q := 63) F dX8_away_62 rfl ?_
        refine fr_iload_n (q := 64) F dX8_away_63 rfl rfl ?_
        obtain ⟨hi16, h⟩ := fr_ck_some h
        obtain ⟨n17, hn18, h⟩ := fr_lt_some h
        refine fr_ias (q := 65) (M' := (u0, n17)) F dX8_away_64 rfl hi16 (by decide) rfl (congrArg (fun z => (u0, z)) hn18) ?_
        refine fr_iconst (q := 66) (v := 1) F dX8_away_65 rfl (by decide) ?_
        obtain ⟨rfl, rfl⟩ := Prod.mk.inj (Option.some.inj h)
        exact fr_iret F E rfl dX8_away_66
      · rw [if_neg hc9] at h
        refine fr_ldc (q := 34) F dX8_away_32 rfl kcRX8_209 ?_
        obtain ⟨rfl, rfl⟩ := Prod.mk.inj (Option.some.inj h)
        exact fr_iret F E rfl dX8_away_34
/-! FeastRota.feast (0, None, None) -/
def fX7_feast (a1 : Int32) (a2 : Int32) (n0 : fr_N) : Option Int32 := fr_bd (fX1_hasFeast_3 a1 n0) fun r1 => (if r1 = true then fr_bd (fX7_within a2 (0 : Int32) (3 : Int32)) fun r4 => (if r4 = true then fr_bd (fX1_mark_3 a1 a2 n0) fun r7 => (some r7) else some (-1000001 : Int32)) else some (-1000001 : Int32))
theorem tX7_feast {l : Launch} {G : fr_G} {u0 : fr_N} {a1 : Int32} {a2 : Int32} {n0 : fr_N} {rz : Int32} (h : fX7_feast a1 a2 n0 = some rz) : fr_Met l G YX7_feast [.ref 0, .int a1, .int a2] (n0, u0) (some (.int rz)) (n0, u0) := by
  refine fr_met (pad := List.replicate 0 none) (by decide) (Nat.le_of_ble_eq_true rfl) (fun _ h => List.eq_of_mem_replicate h) ⟨rfl, rfl⟩ (fun K F hG hL E => ?_)
  subst hG; subst hL
  rw [fX7_feast] at h
  show fr_V YX7_feast K 0 [some (.ref 0), some (.int a1), some (.int a2)] [] (n0, u0)
  refine fr_aload_n (q := 1) F dX7_feast_0 rfl rfl ?_
  refine fr_gfR (q := 4) (j := 3) F dX7_feast_1 rfl faRX7_36 (by decide) rfl rfl ?_
  refine fr_iload_n (q := 5) F dX7_feast_4 rfl rfl ?_
  obtain ⟨r1, hr2, h⟩ := fr_bd_some h
  refine fr_callV (q := 8) (M' := (n0, u0)) (rest := []) (st' := [.int (fr_b r1)]) F dX7_feast_5 rfl (tX1_hasFeast_3 hr2) mlRX7_109 msX1_hasFeast ⟨Nat.le_of_ble_eq_true rfl, Nat.le_of_ble_eq_true rfl⟩ (by decide) rfl rfl rfl (Nat.le_of_ble_eq_true rfl) rfl ?_
  refine fr_if_eqb (q := 11) (tgt := 20) F dX7_feast_8 (by decide) rfl (fun hc3 => ?_) (fun hc3 => ?_)
  · rw [if_neg hc3] at h
    refine fr_ldc (q := 22) F dX7_feast_20 rfl kcRX7_72 ?_
    obtain rfl := Option.some.inj h
    exact fr_iret F E rfl dX7_feast_22
  · rw [if_pos hc3] at h
    refine fr_iload_n (q := 12) F dX7_feast_11 rfl rfl ?_
    refine fr_iconst (q := 13) (v := 0) F dX7_feast_12 rfl (by decide) ?_
    refine fr_iconst (q := 14) (v := 3) F dX7_feast_13 rfl (by decide) ?_
    obtain ⟨r4, hr5, h⟩ := fr_bd_some h
    refine fr_callS (q := 17) (M' := (n0, u0)) (rest := []) (st' := [.int (fr_b r4)]) F dX7_feast_14 rfl (tX7_within hr5) mlRX7_68 msX7_within ⟨Nat.le_of_ble_eq_true rfl, Nat.le_of_ble_eq_true rfl⟩ rfl rfl (Nat.le_of_ble_eq_true rfl) rfl ?_
    refine fr_if_neb (q := 20) (tgt := 23) F dX7_feast_17 (by decide) rfl (fun hc6 => ?_) (fun hc6 => ?_)
    · rw [if_pos hc6] at h
      refine fr_aload_n (q := 24) F dX7_feast_23 rfl rfl ?_
      refine fr_gfR (q := 27) (j := 3) F dX7_feast_24 rfl faRX7_36 (by decide) rfl rfl ?_
      refine fr_iload_n (q := 28) F dX7_feast_27 rfl rfl ?_
      refine fr_iload_n (q := 29) F dX7_feast_28 rfl rfl ?_
      obtain ⟨r7, hr8, h⟩ := fr_bd_some h
      refine fr_callV (q := 32) (M' := (n0, u0)) (rest := []) (st' := [.int r7]) F dX7_feast_29 rfl (tX1_mark_3 hr8) mlRX7_112 msX1_mark ⟨Nat.le_of_ble_eq_true rfl, Nat.le_of_ble_eq_true rfl⟩ (by decide) rfl rfl rfl (Nat.le_of_ble_eq_true rfl) rfl ?_
      obtain rfl := Option.some.inj h
      exact fr_iret F E rfl dX7_feast_32
    · rw [if_neg hc6] at h
      refine fr_ldc (q := 22) F dX7_feast_20 rfl kcRX7_72 ?_
      obtain rfl := Option.some.inj h
      exact fr_iret F E rfl dX7_feast_22
/-! FeastRotaModel.feast (52, None, None) -/
def fX8_feast (a1 : Int32) (a2 : Int32) (n0 : fr_N) : Option Int32 := fr_bd (fX8_isFeast a1 n0) fun r1 => (if r1 = true then fr_bd (fX8_in (Int32.toInt64 a2) (0 : Int64) (3 : Int64)) fun r4 => (if r4 = true then fr_bd (fX8_of a1 a2 n0) fun r7 => (some r7) else some (-1000001 : Int32)) else some (-1000001 : Int32))
theorem tX8_feast {l : Launch} {G : fr_G} {u0 : fr_N} {a1 : Int32} {a2 : Int32} {n0 : fr_N} {rz : Int32} (h : fX8_feast a1 a2 n0 = some rz) : fr_Met l G YX8_feast [.ref 52, .int a1, .int a2] (u0, n0) (some (.int rz)) (u0, n0) := by
  refine fr_met (pad := List.replicate 0 none) (by decide) (Nat.le_of_ble_eq_true rfl) (fun _ h => List.eq_of_mem_replicate h) ⟨rfl, rfl⟩ (fun K F hG hL E => ?_)
  subst hG; subst hL
  rw [fX8_feast] at h
  show fr_V YX8_feast K 0 [some (.ref 52), some (.int a1), some (.int a2)] [] (u0, n0)
  refine fr_aload_n (q := 1) F dX8_feast_0 rfl rfl ?_
  refine fr_iload_n (q := 2) F dX8_feast_1 rfl rfl ?_
  obtain ⟨r1, hr2, h⟩ := fr_bd_some h
  refine fr_callV (q := 5) (M' := (u0, n0)) (rest := []) (st' := [.int (fr_b r1)]) F dX8_feast_2 rfl (tX8_isFeast hr2) mlRX8_252 msX8_isFeast ⟨Nat.le_of_ble_eq_true rfl, Nat.le_of_ble_eq_true rfl⟩ (by decide) rfl rfl rfl (Nat.le_of_ble_eq_true rfl) rfl ?_
  refine fr_if_eqb (q := 8) (tgt := 29) F dX8_feast_5 (by decide) rfl (fun hc3 => ?_) (fun hc3 => ?_)
  · rw [if_neg hc3] at h
    refine fr_ldc (q := 31) F dX8_feast_29 rfl kcRX8_209 ?_
    obtain rfl := Option.some.inj h
    exact fr_iret F E rfl dX8_feast_31
  · rw [if_pos hc3] at h
    refine fr_iload_n (q := 9) F dX8_feast_8 rfl rfl ?_
    refine fr_i2l (q := 10) F dX8_feast_9 rfl ?_
    refine fr_lconst (q := 11) (v := 0) F dX8_feast_10 rfl (by decide) ?_
    refine fr_ldc2 (q := 14) F dX8_feast_11 rfl klRX8_243 ?_
    obtain ⟨r4, hr5, h⟩ := fr_bd_some h
    refine fr_callS (q := 17) (M' := (u0, n0)) (rest := []) (st' := [.int (fr_b r4)]) F dX8_feast_14 rfl (tX8_in hr5) mlRX8_55 msX8_in ⟨Nat.le_of_ble_eq_true rfl, Nat.le_of_ble_eq_true rfl⟩ rfl rfl (Nat.le_of_ble_eq_true rfl) rfl ?_
    refine fr_if_eqb (q := 20) (tgt := 29) F dX8_feast_17 (by decide) rfl (fun hc6 => ?_) (fun hc6 => ?_)
    · rw [if_neg hc6] at h
      refine fr_ldc (q := 31) F dX8_feast_29 rfl kcRX8_209 ?_
      obtain rfl := Option.some.inj h
      exact fr_iret F E rfl dX8_feast_31
    · rw [if_pos hc6] at h
      refine fr_aload_n (q := 21) F dX8_feast_20 rfl rfl ?_
      refine fr_iload_n (q := 22) F dX8_feast_21 rfl rfl ?_
      refine fr_iload_n (q := 23) F dX8_feast_22 rfl rfl ?_
      obtain ⟨r7, hr8, h⟩ := fr_bd_some h
      refine fr_callV (q := 26) (M' := (u0, n0)) (rest := []) (st' := [.int r7]) F dX8_feast_23 rfl (tX8_of hr8) mlRX8_84 msX8_of ⟨Nat.le_of_ble_eq_true rfl, Nat.le_of_ble_eq_true rfl⟩ (by decide) rfl rfl rfl (Nat.le_of_ble_eq_true rfl) rfl ?_
      refine fr_goto (tgt := 31) F dX8_feast_26 (by decide) ?_
      obtain rfl := Option.some.inj h
      exact fr_iret F E rfl dX8_feast_31
/-! FeastRota.isYear (None,) -/
def fX7_isYear (a0 : Int32) : Option Bool := fr_bd (fX7_within a0 (1 : Int32) (999 : Int32)) fun r1 => (some r1)
theorem tX7_isYear {l : Launch} {G : fr_G} {M0 : fr_M} {a0 : Int32} {rz : Bool} (h : fX7_isYear a0 = some rz) : fr_Met l G YX7_isYear [.int a0] M0 (some (.int (fr_b rz))) M0 := by
  refine fr_met (pad := List.replicate 0 none) (by decide) (Nat.le_of_ble_eq_true rfl) (fun _ h => List.eq_of_mem_replicate h) ⟨rfl, rfl⟩ (fun K F hG hL E => ?_)
  subst hG; subst hL
  rw [fX7_isYear] at h
  show fr_V YX7_isYear K 0 [some (.int a0)] [] M0
  refine fr_iload_n (q := 1) F dX7_isYear_0 rfl rfl ?_
  refine fr_iconst (q := 2) (v := 1) F dX7_isYear_1 rfl (by decide) ?_
  refine fr_sipush (q := 5) (v := 999) F dX7_isYear_2 rfl (by decide) ?_
  obtain ⟨r1, hr2, h⟩ := fr_bd_some h
  refine fr_callS (q := 8) (M' := M0) (rest := []) (st' := [.int (fr_b r1)]) F dX7_isYear_5 rfl (tX7_within hr2) mlRX7_68 msX7_within ⟨Nat.le_of_ble_eq_true rfl, Nat.le_of_ble_eq_true rfl⟩ rfl rfl (Nat.le_of_ble_eq_true rfl) rfl ?_
  obtain rfl := Option.some.inj h
  exact fr_zret F E rfl dX7_isYear_8
/-! FeastRota$Calendar.daysOf (None, None) -/
def fX2_daysOf_42 (s0 : Bool) : Option Int32 := if s0 = true then some (366 : Int32) else some (365 : Int32)
def fX2_daysOf_11 (x0 : Int32) (x1 : Int32) : Option Int32 := if x0 = (2 : Int32) then if (fr_rem x1 (4 : Int32)) = 0 then if (fr_rem x1 (100 : Int32)) = 0 then if (fr_rem x1 (400 : Int32)) = 0 then fX2_daysOf_42 true else fX2_daysOf_42 false else fX2_daysOf_42 true else fX2_daysOf_42 false else fX2_daysOf_42 false
def fX2_daysOf (a0 : Int32) (a1 : Int32) : Option Int32 := if a0 = (1 : Int32) then if (fr_rem a1 (4 : Int32)) = 0 then fX2_daysOf_42 true else fX2_daysOf_11 a0 a1 else fX2_daysOf_11 a0 a1
theorem tX2_daysOf_42 {K : fr_K} {M0 : fr_M} {rz : Int32} (F : fr_F YX2_daysOf K) (E : fr_R YX2_daysOf K (some (.int rz)) M0) {s0 : Bool} (h : fX2_daysOf_42 s0 = some rz) : fr_V YX2_daysOf K 42 [none, none, none] [.int (fr_b s0)] M0 := by
  rw [fX2_daysOf_42] at h
  refine fr_istore_n (q := 43) F dX2_daysOf_42 rfl (by decide) rfl ?_
  refine fr_iload_n (q := 44) F dX2_daysOf_43 rfl rfl ?_
  refine fr_if_eqb (q := 47) (tgt := 53) F dX2_daysOf_44 (by decide) rfl (fun hc1 => ?_) (fun hc1 => ?_)
  · rw [if_neg hc1] at h
    refine fr_sipush (q := 56) (v := 365) F dX2_daysOf_53 rfl (by decide) ?_
    obtain rfl := Option.some.inj h
    exact fr_iret F E rfl dX2_daysOf_56
  · rw [if_pos hc1] at h
    refine fr_sipush (q := 50) (v := 366) F dX2_daysOf_47 rfl (by decide) ?_
    refine fr_goto (tgt := 56) F dX2_daysOf_50 (by decide) ?_
    obtain rfl := Option.some.inj h
    exact fr_iret F E rfl dX2_daysOf_56
theorem tX2_daysOf_11 {K : fr_K} {M0 : fr_M} {rz : Int32} (F : fr_F YX2_daysOf K) (E : fr_R YX2_daysOf K (some (.int rz)) M0) {x0 : Int32} {x1 : Int32} (h : fX2_daysOf_11 x0 x1 = some rz) : fr_V YX2_daysOf K 11 [some (.int x0), some (.int x1), none] [] M0 := by
  rw [fX2_daysOf_11] at h
  refine fr_iload_n (q := 12) F dX2_daysOf_11 rfl rfl ?_
  refine fr_iconst (q := 13) (v := 2) F dX2_daysOf_12 rfl (by decide) ?_
  refine fr_icmp_ne (q := 16) (tgt := 41) F dX2_daysOf_13 (by decide) rfl (fun hc2 => ?_) (fun hc2 => ?_)
  · rw [if_neg hc2] at h
    refine fr_iconst (q := 42) (v := 0) F dX2_daysOf_41 rfl (by decide) ?_
    exact fr_wj (tX2_daysOf_42 F E h) trivial
  · rw [if_pos hc2] at h
    refine fr_iload_n (q := 17) F dX2_daysOf_16 rfl rfl ?_
    refine fr_iconst (q := 18) (v := 4) F dX2_daysOf_17 rfl (by decide) ?_
    refine fr_irem (q := 19) F dX2_daysOf_18 rfl (by decide) ?_
    refine fr_if_ne (q := 22) (tgt := 41) F dX2_daysOf_19 (by decide) rfl (fun hc3 => ?_) (fun hc3 => ?_)
    · rw [if_neg hc3] at h
      refine fr_iconst (q := 42) (v := 0) F dX2_daysOf_41 rfl (by decide) ?_
      exact fr_wj (tX2_daysOf_42 F E h) trivial
    · rw [if_pos hc3] at h
      refine fr_iload_n (q := 23) F dX2_daysOf_22 rfl rfl ?_
      refine fr_bipush (q := 25) (v := 100) F dX2_daysOf_23 rfl (by decide) ?_
      refine fr_irem (q := 26) F dX2_daysOf_25 rfl (by decide) ?_
      refine fr_if_ne (q := 29) (tgt := 37) F dX2_daysOf_26 (by decide) rfl (fun hc4 => ?_) (fun hc4 => ?_)
      · rw [if_neg hc4] at h
        refine fr_iconst (q := 38) (v := 1) F dX2_daysOf_37 rfl (by decide) ?_
        refine fr_goto (tgt := 42) F dX2_daysOf_38 (by decide) ?_
        exact fr_wj (tX2_daysOf_42 F E h) trivial
      · rw [if_pos hc4] at h
        refine fr_iload_n (q := 30) F dX2_daysOf_29 rfl rfl ?_
        refine fr_sipush (q := 33) (v := 400) F dX2_daysOf_30 rfl (by decide) ?_
        refine fr_irem (q := 34) F dX2_daysOf_33 rfl (by decide) ?_
        refine fr_if_ne (q := 37) (tgt := 41) F dX2_daysOf_34 (by decide) rfl (fun hc5 => ?_) (fun hc5 => ?_)
        · rw [if_neg hc5] at h
          refine fr_iconst (q := 42) (v := 0) F dX2_daysOf_41 rfl (by decide) ?_
          exact fr_wj (tX2_daysOf_42 F E h) trivial
        · rw [if_pos hc5] at h
          refine fr_iconst (q := 38) (v := 1) F dX2_daysOf_37 rfl (by decide) ?_
          refine fr_goto (tgt := 42) F dX2_daysOf_38 (by decide) ?_
          exact fr_wj (tX2_daysOf_42 F E h) trivial
theorem tX2_daysOf {l : Launch} {G : fr_G} {M0 : fr_M} {a0 : Int32} {a1 : Int32} {rz : Int32} (h : fX2_daysOf a0 a1 = some rz) : fr_Met l G YX2_daysOf [.int a0, .int a1] M0 (some (.int rz)) M0 := by
  refine fr_met (pad := List.replicate 1 none) (by decide) (Nat.le_of_ble_eq_true rfl) (fun _ h => List.eq_of_mem_replicate h) ⟨rfl, rfl⟩ (fun K F hG hL E => ?_)
  subst hG; subst hL
  rw [fX2_daysOf] at h
  show fr_V YX2_daysOf K 0 [some (.int a0), some (.int a1), none] [] M0
  refine fr_iload_n (q := 1) F dX2_daysOf_0 rfl rfl ?_
  refine fr_iconst (q := 2) (v := 1) F dX2_daysOf_1 rfl (by decide) ?_
  refine fr_icmp_ne (q := 5) (tgt := 11) F dX2_daysOf_2 (by decide) rfl (fun hc6 => ?_) (fun hc6 => ?_)
  · rw [if_neg hc6] at h
    exact fr_wj (tX2_daysOf_11 F E h) ⟨rfl, ⟨rfl, trivial⟩⟩
  · rw [if_pos hc6] at h
    refine fr_iload_n (q := 6) F dX2_daysOf_5 rfl rfl ?_
    refine fr_iconst (q := 7) (v := 4) F dX2_daysOf_6 rfl (by decide) ?_
    refine fr_irem (q := 8) F dX2_daysOf_7 rfl (by decide) ?_
    refine fr_if_eq (q := 11) (tgt := 37) F dX2_daysOf_8 (by decide) rfl (fun hc7 => ?_) (fun hc7 => ?_)
    · rw [if_pos hc7] at h
      refine fr_iconst (q := 38) (v := 1) F dX2_daysOf_37 rfl (by decide) ?_
      refine fr_goto (tgt := 42) F dX2_daysOf_38 (by decide) ?_
      exact fr_wj (tX2_daysOf_42 F E h) trivial
    · rw [if_neg hc7] at h
      exact fr_wj (tX2_daysOf_11 F E h) ⟨rfl, ⟨rfl, trivial⟩⟩
