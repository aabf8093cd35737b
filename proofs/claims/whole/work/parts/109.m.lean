/-! FeastRota$Calendar.dateOfSpring (12,) -/
def fX2_dateOfSpring (n0 : fr_N) : Option Int32 := fr_bd (fX2_isLeap n0) fun r1 => (if r1 = true then some ((n0 12 3) - (1 : Int32)) else some (n0 12 3))
theorem tX2_dateOfSpring {l : Launch} {G : fr_G} {u0 : fr_N} {n0 : fr_N} {rz : Int32} (h : fX2_dateOfSpring n0 = some rz) : fr_Met l G YX2_dateOfSpring [.ref 12] (n0, u0) (some (.int rz)) (n0, u0) := by
  refine fr_met (pad := List.replicate 0 none) (by decide) (Nat.le_of_ble_eq_true rfl) (fun _ h => List.eq_of_mem_replicate h) ⟨rfl, rfl⟩ (fun K F hG hL E => ?_)
  subst hG; subst hL
  rw [fX2_dateOfSpring] at h
  show fr_V YX2_dateOfSpring K 0 [some (.ref 12)] [] (n0, u0)
  refine fr_aload_n (q := 1) F dX2_dateOfSpring_0 rfl rfl ?_
  obtain ⟨r1, hr2, h⟩ := fr_bd_some h
  refine fr_callV (q := 4) (M' := (n0, u0)) (rest := []) (st' := [.int (fr_b r1)]) F dX2_dateOfSpring_1 rfl (tX2_isLeap hr2) mlRX2_44 msX2_isLeap ⟨Nat.le_of_ble_eq_true rfl, Nat.le_of_ble_eq_true rfl⟩ (by decide) rfl rfl rfl (Nat.le_of_ble_eq_true rfl) rfl ?_
  refine fr_if_eqb (q := 7) (tgt := 16) F dX2_dateOfSpring_4 (by decide) rfl (fun hc3 => ?_) (fun hc3 => ?_)
  · rw [if_neg hc3] at h
    refine fr_aload_n (q := 17) F dX2_dateOfSpring_16 rfl rfl ?_
    refine fr_gfI (q := 20) (x := (n0 12 3)) F dX2_dateOfSpring_17 rfl faRX2_41 (by decide) rfl rfl rfl ?_
    obtain rfl := Option.some.inj h
    exact fr_iret F E rfl dX2_dateOfSpring_20
  · rw [if_pos hc3] at h
    refine fr_aload_n (q := 8) F dX2_dateOfSpring_7 rfl rfl ?_
    refine fr_gfI (q := 11) (x := (n0 12 3)) F dX2_dateOfSpring_8 rfl faRX2_41 (by decide) rfl rfl rfl ?_
    refine fr_iconst (q := 12) (v := 1) F dX2_dateOfSpring_11 rfl (by decide) ?_
    refine fr_isub (q := 13) F dX2_dateOfSpring_12 rfl ?_
    refine fr_goto (tgt := 20) F dX2_dateOfSpring_13 (by decide) ?_
    obtain rfl := Option.some.inj h
    exact fr_iret F E rfl dX2_dateOfSpring_20
/-! FeastRota.springs (0, None, None, None) -/
def fX7_springs_63 : Nat → Int32 → Int32 → Int32 → Int32 → Int32 → Int32 → fr_N → Option (Int32 × fr_N)
  | 0, _, _, _, _, _, _, _ => none
  | k + 1, x3, x4, x5, x6, x7, x8, n0 => if x7 < x8 then if x3 = 0 then some (x4, n0) else if x3 = (1 : Int32) then some (x5, n0) else some (x6, n0) else fr_bd (fX2_turnTo x8 n0) fun n6 => (fr_bd (fX2_dateOfSpring n6) fun r7 => (fr_bd (fX2_isLeap n6) fun r9 => (if r9 = true then (fX7_springs_63 k) x3 (if r7 < x4 then r7 else x4) (if x5 < r7 then r7 else x5) (x6 + (1 : Int32)) x7 (x8 + (1 : Int32)) n6 else (fX7_springs_63 k) x3 (if r7 < x4 then r7 else x4) (if x5 < r7 then r7 else x5) (x6 + (0 : Int32)) x7 (x8 + (1 : Int32)) n6)))
def fX7_springs (a1 : Int32) (a2 : Int32) (a3 : Int32) (n0 : fr_N) : Option (Int32 × fr_N) := if (n0 3 0) = 0 then some ((-1000002 : Int32), n0) else fr_bd (fX7_isYear a1) fun r13 => (if r13 = true then fr_bd (fX7_within a2 (1 : Int32) (99 : Int32)) fun r16 => (if r16 = true then fr_bd (fX7_within a3 (0 : Int32) (2 : Int32)) fun r19 => (if r19 = true then fr_bd (fX7_lastOf a1 a2) fun r22 => (fX7_springs_63 2000 a3 (366 : Int32) (0 : Int32) (0 : Int32) r22 a1 n0) else some ((-1000001 : Int32), n0)) else some ((-1000001 : Int32), n0)) else some ((-1000001 : Int32), n0))
theorem tX7_springs_63 {K : fr_K} {u0 : fr_N} {rz : Int32} {nz : fr_N} (F : fr_F YX7_springs K) (E : fr_R YX7_springs K (some (.int rz)) (nz, u0)) : ∀ (k : Nat) (x3 : Int32) (x4 : Int32) (x5 : Int32) (x6 : Int32) (x7 : Int32) (x8 : Int32) (n0 : fr_N), fX7_springs_63 k x3 x4 x5 x6 x7 x8 n0 = some (rz, nz) → fr_V YX7_springs K 63 [some (.ref 0), none, none, some (.int x3), some (.int x4), some (.int x5), some (.int x6), some (.int x7), some (.int x8), none] [] (n0, u0) := by
  intro k
  induction k with
  | zero =>
    intro x3 x4 x5 x6 x7 x8 n0 h
    rw [fX7_springs_63] at h
    cases h
  | succ k ih =>
    intro x3 x4 x5 x6 x7 x8 n0 h
    rw [fX7_springs_63] at h
    refine fr_iload (q := 65) F dX7_springs_63 rfl rfl ?_
    refine fr_iload (q := 67) F dX7_springs_65 rfl rfl ?_
    refine fr_icmp_gt (q := 70) (tgt := 145) F dX7_springs_67 (by decide) rfl (fun hc1 => ?_) (fun hc1 => ?_)
    · rw [if_pos hc1] at h
      refine fr_iload_n (q := 146) F dX7_springs_145 rfl rfl ?_
      refine fr_if_ne (q := 149) (tgt := 154) F dX7_springs_146 (by decide) rfl (fun hc2 => ?_) (fun hc2 => ?_)
      · rw [if_neg hc2] at h
        refine fr_iload_n (q := 155) F dX7_springs_154 rfl rfl ?_
        refine fr_iconst (q := 156) (v := 1) F dX7_springs_155 rfl (by decide) ?_
        refine fr_icmp_ne (q := 159) (tgt := 164) F dX7_springs_156 (by decide) rfl (fun hc3 => ?_) (fun hc3 => ?_)
        · rw [if_neg hc3] at h
          refine fr_iload (q := 166) F dX7_springs_164 rfl rfl ?_
          obtain ⟨rfl, rfl⟩ := Prod.mk.inj (Option.some.inj h)
          exact fr_iret F E rfl dX7_springs_166
        · rw [if_pos hc3] at h
          refine fr_iload (q := 161) F dX7_springs_159 rfl rfl ?_
          refine fr_goto (tgt := 166) F dX7_springs_161 (by decide) ?_
          obtain ⟨rfl, rfl⟩ := Prod.mk.inj (Option.some.inj h)
          exact fr_iret F E rfl dX7_springs_166
      · rw [if_pos hc2] at h
        refine fr_iload (q := 151) F dX7_springs_149 rfl rfl ?_
        refine fr_goto (tgt := 166) F dX7_springs_151 (by decide) ?_
        obtain ⟨rfl, rfl⟩ := Prod.mk.inj (Option.some.inj h)
        exact fr_iret F E rfl dX7_springs_166
    · rw [if_neg hc1] at h
      refine fr_aload_n (q := 71) F dX7_springs_70 rfl rfl ?_
      refine fr_gfR (q := 74) (j := 11) F dX7_springs_71 rfl faRX7_51 (by decide) rfl rfl ?_
      refine fr_gfR (q := 77) (j := 12) F dX7_springs_74 rfl faRX7_160 (by decide) rfl rfl ?_
      refine fr_aload_n (q := 78) F dX7_springs_77 rfl rfl ?_
      refine fr_gfR (q := 81) (j := 3) F dX7_springs_78 rfl faRX7_36 (by decide) rfl rfl ?_
      refine fr_iload (q := 83) F dX7_springs_81 rfl rfl ?_
      obtain ⟨n6, hr5, h⟩ := fr_bd_some h
      refine fr_callV (q := 86) (M' := (n6, u0)) (rest := []) (st' := []) F dX7_springs_83 rfl (tX2_turnTo hr5) mlRX7_252 msX2_turnTo ⟨Nat.le_of_ble_eq_true rfl, Nat.le_of_ble_eq_true rfl⟩ (by decide) rfl rfl rfl (Nat.le_of_ble_eq_true rfl) rfl ?_
      refine fr_aload_n (q := 87) F dX7_springs_86 rfl rfl ?_
      refine fr_gfR (q := 90) (j := 11) F dX7_springs_87 rfl faRX7_51 (by decide) rfl rfl ?_
      refine fr_gfR (q := 93) (j := 12) F dX7_springs_90 rfl faRX7_160 (by decide) rfl rfl ?_
      obtain ⟨r7, hr8, h⟩ := fr_bd_some h
      refine fr_callV (q := 96) (M' := (n6, u0)) (rest := []) (st' := [.int r7]) F dX7_springs_93 rfl (tX2_dateOfSpring hr8) mlRX7_259 msX2_dateOfSpring ⟨Nat.le_of_ble_eq_true rfl, Nat.le_of_ble_eq_true rfl⟩ (by decide) rfl rfl rfl (Nat.le_of_ble_eq_true rfl) rfl ?_
      refine fr_istore (q := 98) F dX7_springs_96 rfl (by decide) rfl ?_
      refine fr_iload (q := 100) F dX7_springs_98 rfl rfl ?_
      refine fr_iload (q := 102) F dX7_springs_100 rfl rfl ?_
      refine fr_min (q := 105) F dX7_springs_102 rfl mlRX7_262 mm_min ⟨Nat.le_of_ble_eq_true rfl, Nat.le_of_ble_eq_true rfl⟩ ?_
      refine fr_istore (q := 107) F dX7_springs_105 rfl (by decide) rfl ?_
      refine fr_iload (q := 109) F dX7_springs_107 rfl rfl ?_
      refine fr_iload (q := 111) F dX7_springs_109 rfl rfl ?_
      refine fr_max (q := 114) F dX7_springs_111 rfl mlRX7_225 mm_max ⟨Nat.le_of_ble_eq_true rfl, Nat.le_of_ble_eq_true rfl⟩ ?_
      refine fr_istore (q := 116) F dX7_springs_114 rfl (by decide) rfl ?_
      refine fr_iload (q := 118) F dX7_springs_116 rfl rfl ?_
      refine fr_aload_n (q := 119) F dX7_springs_118 rfl rfl ?_
      refine fr_gfR (q := 122) (j := 11) F dX7_springs_119 rfl faRX7_51 (by decide) rfl rfl ?_
      refine fr_gfR (q := 125) (j := 12) F dX7_springs_122 rfl faRX7_160 (by decide) rfl rfl ?_
      obtain ⟨r9, hr10, h⟩ := fr_bd_some h
      refine fr_callV (q := 128) (M' := (n6, u0)) (rest := [.int x6]) (st' := [.int (fr_b r9), .int x6]) F dX7_springs_125 rfl (tX2_isLeap hr10) mlRX7_265 msX2_isLeap ⟨Nat.le_of_ble_eq_true rfl, Nat.le_of_ble_eq_true rfl⟩ (by decide) rfl rfl rfl (Nat.le_of_ble_eq_true rfl) rfl ?_
      refine fr_if_eqb (q := 131) (tgt := 135) F dX7_springs_128 (by decide) rfl (fun hc11 => ?_) (fun hc11 => ?_)
      · rw [if_neg hc11] at h
        refine fr_iconst (q := 136) (v := 0) F dX7_springs_135 rfl (by decide) ?_
        refine fr_iadd (q := 137) F dX7_springs_136 rfl ?_
        refine fr_istore (q := 139) F dX7_springs_137 rfl (by decide) rfl ?_
        refine fr_iinc (q := 142) (v := (x8 + (1 : Int32))) F dX7_springs_139 rfl rfl rfl (by decide) rfl ?_
        refine fr_goto (tgt := 63) F dX7_springs_142 (by decide) ?_
        exact fr_wj (ih _ _ _ _ _ _ _ h) ⟨rfl, ⟨rfl, ⟨rfl, ⟨rfl, ⟨rfl, ⟨rfl, ⟨rfl, trivial⟩⟩⟩⟩⟩⟩⟩
      · rw [if_pos hc11] at h
        refine fr_iconst (q := 132) (v := 1) F dX7_springs_131 rfl (by decide) ?_
        refine fr_goto (tgt := 136) F dX7_springs_132 (by decide) ?_
        refine fr_iadd (q := 137) F dX7_springs_136 rfl ?_
        refine fr_istore (q := 139) F dX7_springs_137 rfl (by decide) rfl ?_
        refine fr_iinc (q := 142) (v := (x8 + (1 : Int32))) F dX7_springs_139 rfl rfl rfl (by decide) rfl ?_
        refine fr_goto (tgt := 63) F dX7_springs_142 (by decide) ?_
        exact fr_wj (ih _ _ _ _ _ _ _ h) ⟨rfl, ⟨rfl, ⟨rfl, ⟨rfl, ⟨rfl, ⟨rfl, ⟨rfl, trivial⟩⟩⟩⟩⟩⟩⟩
theorem tX7_springs {l : Launch} {G : fr_G} {u0 : fr_N} {a1 : Int32} {a2 : Int32} {a3 : Int32} {n0 : fr_N} {rz : Int32} {nz : fr_N} (h : fX7_springs a1 a2 a3 n0 = some (rz, nz)) : fr_Met l G YX7_springs [.ref 0, .int a1, .int a2, .int a3] (n0, u0) (some (.int rz)) (nz, u0) := by
  refine fr_met (pad := List.replicate 6 none) (by decide) (Nat.le_of_ble_eq_true rfl) (fun _ h => List.eq_of_mem_replicate h) ⟨rfl, rfl⟩ (fun K F hG hL E => ?_)
  subst hG; subst hL
  rw [fX7_springs] at h
  show fr_V YX7_springs K 0 [some (.ref 0), some (.int a1), some (.int a2), some (.int a3), none, none, none, none, none, none] [] (n0, u0)
  refine fr_aload_n (q := 1) F dX7_springs_0 rfl rfl ?_
  refine fr_gfR (q := 4) (j := 3) F dX7_springs_1 rfl faRX7_36 (by decide) rfl rfl ?_
  refine fr_gfI (q := 7) (x := (n0 3 0)) F dX7_springs_4 rfl faRX7_128 (by decide) rfl rfl rfl ?_
  refine fr_if_ne (q := 10) (tgt := 13) F dX7_springs_7 (by decide) rfl (fun hc12 => ?_) (fun hc12 => ?_)
  · rw [if_neg hc12] at h
    refine fr_iload_n (q := 14) F dX7_springs_13 rfl rfl ?_
    obtain ⟨r13, hr14, h⟩ := fr_bd_some h
    refine fr_callS (q := 17) (M' := (n0, u0)) (rest := []) (st' := [.int (fr_b r13)]) F dX7_springs_14 rfl (tX7_isYear hr14) mlRX7_153 msX7_isYear ⟨Nat.le_of_ble_eq_true rfl, Nat.le_of_ble_eq_true rfl⟩ rfl rfl (Nat.le_of_ble_eq_true rfl) rfl ?_
    refine fr_if_eqb (q := 20) (tgt := 39) F dX7_springs_17 (by decide) rfl (fun hc15 => ?_) (fun hc15 => ?_)
    · rw [if_neg hc15] at h
      refine fr_ldc (q := 41) F dX7_springs_39 rfl kcRX7_72 ?_
      obtain ⟨rfl, rfl⟩ := Prod.mk.inj (Option.some.inj h)
      exact fr_iret F E rfl dX7_springs_41
    · rw [if_pos hc15] at h
      refine fr_iload_n (q := 21) F dX7_springs_20 rfl rfl ?_
      refine fr_iconst (q := 22) (v := 1) F dX7_springs_21 rfl (by decide) ?_
      refine fr_bipush (q := 24) (v := 99) F dX7_springs_22 rfl (by decide) ?_
      obtain ⟨r16, hr17, h⟩ := fr_bd_some h
      refine fr_callS (q := 27) (M' := (n0, u0)) (rest := []) (st' := [.int (fr_b r16)]) F dX7_springs_24 rfl (tX7_within hr17) mlRX7_68 msX7_within ⟨Nat.le_of_ble_eq_true rfl, Nat.le_of_ble_eq_true rfl⟩ rfl rfl (Nat.le_of_ble_eq_true rfl) rfl ?_
      refine fr_if_eqb (q := 30) (tgt := 39) F dX7_springs_27 (by decide) rfl (fun hc18 => ?_) (fun hc18 => ?_)
      · rw [if_neg hc18] at h
        refine fr_ldc (q := 41) F dX7_springs_39 rfl kcRX7_72 ?_
        obtain ⟨rfl, rfl⟩ := Prod.mk.inj (Option.some.inj h)
        exact fr_iret F E rfl dX7_springs_41
      · rw [if_pos hc18] at h
        refine fr_iload_n (q := 31) F dX7_springs_30 rfl rfl ?_
        refine fr_iconst (q := 32) (v := 0) F dX7_springs_31 rfl (by decide) ?_
        refine fr_iconst (q := 33) (v := 2) F dX7_springs_32 rfl (by decide) ?_
        obtain ⟨r19, hr20, h⟩ := fr_bd_some h
        refine fr_callS (q := 36) (M' := (n0, u0)) (rest := []) (st' := [.int (fr_b r19)]) F dX7_springs_33 rfl (tX7_within hr20) mlRX7_68 msX7_within ⟨Nat.le_of_ble_eq_true rfl, Nat.le_of_ble_eq_true rfl⟩ rfl rfl (Nat.le_of_ble_eq_true rfl) rfl ?_
        refine fr_if_neb (q := 39) (tgt := 42) F dX7_springs_36 (by decide) rfl (fun hc21 => ?_) (fun hc21 => ?_)
        · rw [if_pos hc21] at h
          refine fr_sipush (q := 45) (v := 366) F dX7_springs_42 rfl (by decide) ?_
          refine fr_istore (q := 47) F dX7_springs_45 rfl (by decide) rfl ?_
          refine fr_iconst (q := 48) (v := 0) F dX7_springs_47 rfl (by decide) ?_
          refine fr_istore (q := 50) F dX7_springs_48 rfl (by decide) rfl ?_
          refine fr_iconst (q := 51) (v := 0) F dX7_springs_50 rfl (by decide) ?_
          refine fr_istore (q := 53) F dX7_springs_51 rfl (by decide) rfl ?_
          refine fr_iload_n (q := 54) F dX7_springs_53 rfl rfl ?_
          refine fr_iload_n (q := 55) F dX7_springs_54 rfl rfl ?_
          obtain ⟨r22, hr23, h⟩ := fr_bd_some h
          refine fr_callS (q := 58) (M' := (n0, u0)) (rest := []) (st' := [.int r22]) F dX7_springs_55 rfl (tX7_lastOf hr23) mlRX7_249 msX7_lastOf ⟨Nat.le_of_ble_eq_true rfl, Nat.le_of_ble_eq_true rfl⟩ rfl rfl (Nat.le_of_ble_eq_true rfl) rfl ?_
          refine fr_istore (q := 60) F dX7_springs_58 rfl (by decide) rfl ?_
          refine fr_iload_n (q := 61) F dX7_springs_60 rfl rfl ?_
          refine fr_istore (q := 63) F dX7_springs_61 rfl (by decide) rfl ?_
          exact fr_wj (tX7_springs_63 F E _ _ _ _ _ _ _ _ h) ⟨rfl, ⟨rfl, ⟨rfl, ⟨rfl, ⟨rfl, ⟨rfl, ⟨rfl, trivial⟩⟩⟩⟩⟩⟩⟩
        · rw [if_neg hc21] at h
          refine fr_ldc (q := 41) F dX7_springs_39 rfl kcRX7_72 ?_
          obtain ⟨rfl, rfl⟩ := Prod.mk.inj (Option.some.inj h)
          exact fr_iret F E rfl dX7_springs_41
  · rw [if_pos hc12] at h
    refine fr_ldc (q := 12) F dX7_springs_10 rfl kcRX7_105 ?_
    obtain ⟨rfl, rfl⟩ := Prod.mk.inj (Option.some.inj h)
    exact fr_iret F E rfl dX7_springs_12
/-! FeastRotaModel.springs (52, None, None, None) -/
def fX8_springs_133 (k58 : Int32 → Int32 → Int32 → Int32 → Int32 → Int32 → Int32 → fr_N → Option (Int32 × fr_N)) (x1 : Int32) (x2 : Int32) (x3 : Int32) (x4 : Int32) (x6 : Int32) (x7 : Int32) (s0 : Int32) (n0 : fr_N) : Option (Int32 × fr_N) := fr_bd (fX8_isLeap x7 n0) fun r1 => (if r1 = true then k58 x1 x2 x3 x4 s0 (x6 + (1 : Int32)) (x7 + (1 : Int32)) n0 else k58 x1 x2 x3 x4 s0 (x6 + (0 : Int32)) (x7 + (1 : Int32)) n0)
def fX8_springs_117 (k58 : Int32 → Int32 → Int32 → Int32 → Int32 → Int32 → Int32 → fr_N → Option (Int32 × fr_N)) (x1 : Int32) (x2 : Int32) (x3 : Int32) (x5 : Int32) (x6 : Int32) (x7 : Int32) (x8 : Int32) (s0 : Int32) (n0 : fr_N) : Option (Int32 × fr_N) := if x8 ≤ x5 then fX8_springs_133 k58 x1 x2 x3 s0 x6 x7 x5 n0 else fX8_springs_133 k58 x1 x2 x3 s0 x6 x7 x8 n0
def fX8_springs_100 (k58 : Int32 → Int32 → Int32 → Int32 → Int32 → Int32 → Int32 → fr_N → Option (Int32 × fr_N)) (x1 : Int32) (x2 : Int32) (x3 : Int32) (x4 : Int32) (x5 : Int32) (x6 : Int32) (x7 : Int32) (s0 : Bool) (s1 : Int32) (n0 : fr_N) : Option (Int32 × fr_N) := if x4 ≤ (s1 - (fr_b s0)) then fX8_springs_117 k58 x1 x2 x3 x5 x6 x7 (s1 - (fr_b s0)) x4 n0 else fX8_springs_117 k58 x1 x2 x3 x5 x6 x7 (s1 - (fr_b s0)) (s1 - (fr_b s0)) n0
def fX8_springs_160 (x3 : Int32) (x4 : Int32) (x5 : Int32) (x6 : Int32) (n0 : fr_N) : Option (Int32 × fr_N) := if x3 = 0 then some (x4, n0) else if x3 = (1 : Int32) then some (x5, n0) else some (x6, n0)
def fX8_springs_58 : Nat → Int32 → Int32 → Int32 → Int32 → Int32 → Int32 → Int32 → fr_N → Option (Int32 × fr_N)
  | 0, _, _, _, _, _, _, _, _ => none
  | k + 1, x1, x2, x3, x4, x5, x6, x7, n0 => if (x1 + x2) ≤ x7 then fX8_springs_160 x3 x4 x5 x6 n0 else if (1000 : Int32) ≤ x7 then fX8_springs_160 x3 x4 x5 x6 n0 else fr_bd (fX8_opens x7 n0) fun n12 => (fr_bd (fX8_spring x7 n12) fun r13 => (fr_bd (fX8_isLeap x7 n12) fun r15 => (if r15 = true then fX8_springs_100 (fX8_springs_58 k) x1 x2 x3 x4 x5 x6 x7 true r13 n12 else fX8_springs_100 (fX8_springs_58 k) x1 x2 x3 x4 x5 x6 x7 false r13 n12)))
def fX8_springs (a1 : Int32) (a2 : Int32) (a3 : Int32) (n0 : fr_N) : Option (Int32 × fr_N) := fr_bd (fX8_isBook n0) fun r18 => (if r18 = true then fr_bd (fX8_isYear a1) fun r21 => (if r21 = true then fr_bd (fX8_in (Int32.toInt64 a2) (1 : Int64) (99 : Int64)) fun r24 => (if r24 = true then fr_bd (fX8_in (Int32.toInt64 a3) (0 : Int64) (2 : Int64)) fun r27 => (if r27 = true then fX8_springs_58 2000 a1 a2 a3 (999 : Int32) (0 : Int32) (0 : Int32) a1 n0 else some ((-1000001 : Int32), n0)) else some ((-1000001 : Int32), n0)) else some ((-1000001 : Int32), n0)) else some ((-1000002 : Int32), n0))
theorem tX8_springs_133 {K : fr_K} {k58 : Int32 → Int32 → Int32 → Int32 → Int32 → Int32 → Int32 → fr_N → Option (Int32 × fr_N)} {u0 : fr_N} {rz : Int32} {nz : fr_N} (F : fr_F YX8_springs K) (E : fr_R YX8_springs K (some (.int rz)) (u0, nz)) (H58 : ∀ (y1 : Int32) (y2 : Int32) (y3 : Int32) (y4 : Int32) (y5 : Int32) (y6 : Int32) (y7 : Int32) (n : fr_N), k58 y1 y2 y3 y4 y5 y6 y7 n = some (rz, nz) → fr_V YX8_springs K 58 [some (.ref 52), some (.int y1), some (.int y2), some (.int y3), some (.int y4), some (.int y5), some (.int y6), some (.int y7), none] [] (u0, n)) {x1 : Int32} {x2 : Int32} {x3 : Int32} {x4 : Int32} {x6 : Int32} {x7 : Int32} {s0 : Int32} {n0 : fr_N} (h : fX8_springs_133 k58 x1 x2 x3 x4 x6 x7 s0 n0 = some (rz, nz)) : fr_V YX8_springs K 133 [some (.ref 52), some (.int x1), some (.int x2), some (.int x3), some (.int x4), none, some (.int x6), some (.int x7), none] [.int s0] (u0, n0) := by
  rw [fX8_springs_133] at h
  refine fr_istore (q := 135) F dX8_springs_133 rfl (by decide) rfl ?_
  refine fr_iload (q := 137) F dX8_springs_135 rfl rfl ?_
  refine fr_aload_n (q := 138) F dX8_springs_137 rfl rfl ?_
  refine fr_iload (q := 140) F dX8_springs_138 rfl rfl ?_
  obtain ⟨r1, hr2, h⟩ := fr_bd_some h
  refine fr_callV (q := 143) (M' := (u0, n0)) (rest := [.int x6]) (st' := [.int (fr_b r1), .int x6]) F dX8_springs_140 rfl (tX8_isLeap hr2) mlRX8_59 msX8_isLeap ⟨Nat.le_of_ble_eq_true rfl, Nat.le_of_ble_eq_true rfl⟩ (by decide) rfl rfl rfl (Nat.le_of_ble_eq_true rfl) rfl ?_
  refine fr_if_eqb (q := 146) (tgt := 150) F dX8_springs_143 (by decide) rfl (fun hc3 => ?_) (fun hc3 => ?_)
  · rw [if_neg hc3] at h
    refine fr_iconst (q := 151) (v := 0) F dX8_springs_150 rfl (by decide) ?_
    refine fr_iadd (q := 152) F dX8_springs_151 rfl ?_
    refine fr_istore (q := 154) F dX8_springs_152 rfl (by decide) rfl ?_
    refine fr_iinc (q := 157) (v := (x7 + (1 : Int32))) F dX8_springs_154 rfl rfl rfl (by decide) rfl ?_
    refine fr_goto (tgt := 58) F dX8_springs_157 (by decide) ?_
    exact fr_wj (H58 _ _ _ _ _ _ _ _ h) ⟨rfl, ⟨rfl, ⟨rfl, ⟨rfl, ⟨rfl, ⟨rfl, ⟨rfl, ⟨rfl, trivial⟩⟩⟩⟩⟩⟩⟩⟩
  · rw [if_pos hc3] at h
    refine fr_iconst (q := 147) (v := 1) F dX8_springs_146 rfl (by decide) ?_
    refine fr_goto (tgt := 151) F dX8_springs_147 (by decide) ?_
    refine fr_iadd (q := 152) F dX8_springs_151 rfl ?_
    refine fr_istore (q := 154) F dX8_springs_152 rfl (by decide) rfl ?_
    refine fr_iinc (q := 157) (v := (x7 + (1 : Int32))) F dX8_springs_154 rfl rfl rfl (by decide) rfl ?_
    refine fr_goto (tgt := 58) F dX8_springs_157 (by decide) ?_
    exact fr_wj (H58 _ _ _ _ _ _ _ _ h) ⟨rfl, ⟨rfl, ⟨rfl, ⟨rfl, ⟨rfl, ⟨rfl, ⟨rfl, ⟨rfl, trivial⟩⟩⟩⟩⟩⟩⟩⟩
theorem tX8_springs_117 {K : fr_K} {k58 : Int32 → Int32 → Int32 → Int32 → Int32 → Int32 → Int32 → fr_N → Option (Int32 × fr_N)} {u0 : fr_N} {rz : Int32} {nz : fr_N} (F : fr_F YX8_springs K) (E : fr_R YX8_springs K (some (.int rz)) (u0, nz)) (H58 : ∀ (y1 : Int32) (y2 : Int32) (y3 : Int32) (y4 : Int32) (y5 : Int32) (y6 : Int32) (y7 : Int32) (n : fr_N), k58 y1 y2 y3 y4 y5 y6 y7 n = some (rz, nz) → fr_V YX8_springs K 58 [some (.ref 52), some (.int y1), some (.int y2), some (.int y3), some (.int y4), some (.int y5), some (.int y6), some (.int y7), none] [] (u0, n)) {x1 : Int32} {x2 : Int32} {x3 : Int32} {x5 : Int32} {x6 : Int32} {x7 : Int32} {x8 : Int32} {s0 : Int32} {n0 : fr_N} (h : fX8_springs_117 k58 x1 x2 x3 x5 x6 x7 x8 s0 n0 = some (rz, nz)) : fr_V YX8_springs K 117 [some (.ref 52), some (.int x1), some (.int x2), some (.int x3), none, some (.int x5), some (.int x6), some (.int x7), some (.int x8)] [.int s0] (u0, n0) := by
  rw [fX8_springs_117] at h
  refine fr_istore (q := 119) F dX8_springs_117 rfl (by decide) rfl ?_
  refine fr_iload (q := 121) F dX8_springs_119 rfl rfl ?_
  refine fr_iload (q := 123) F dX8_springs_121 rfl rfl ?_
  refine fr_icmp_le (q := 126) (tgt := 131) F dX8_springs_123 (by decide) rfl (fun hc4 => ?_) (fun hc4 => ?_)
  · rw [if_pos hc4] at h
    refine fr_iload (q := 133) F dX8_springs_131 rfl rfl ?_
    exact fr_wj (tX8_springs_133 F E H58 h) ⟨rfl, ⟨rfl, ⟨rfl, ⟨rfl, ⟨rfl, ⟨rfl, ⟨rfl, trivial⟩⟩⟩⟩⟩⟩⟩
  · rw [if_neg hc4] at h
    refine fr_iload (q := 128) F dX8_springs_126 rfl rfl ?_
    refine fr_goto (tgt := 133) F dX8_springs_128 (by decide) ?_
    exact fr_wj (tX8_springs_133 F E H58 h) ⟨rfl, ⟨rfl, ⟨rfl, ⟨rfl, ⟨rfl, ⟨rfl, ⟨rfl, trivial⟩⟩⟩⟩⟩⟩⟩
theorem tX8_springs_100 {K : fr_K} {k58 : Int32 → Int32 → Int32 → Int32 → Int32 → Int32 → Int32 → fr_N → Option (Int32 × fr_N)} {u0 : fr_N} {rz : Int32} {nz : fr_N} (F : fr_F YX8_springs K) (E : fr_R YX8_springs K (some (.int rz)) (u0, nz)) (H58 : ∀ (y1 : Int32) (y2 : Int32) (y3 : Int32) (y4 : Int32) (y5 : Int32) (y6 : Int32) (y7 : Int32) (n : fr_N), k58 y1 y2 y3 y4 y5 y6 y7 n = some (rz, nz) → fr_V YX8_springs K 58 [some (.ref 52), some (.int y1), some (.int y2), some (.int y3), some (.int y4), some (.int y5), some (.int y6), some (.int y7), none] [] (u0, n)) {x1 : Int32} {x2 : Int32} {x3 : Int32} {x4 : Int32} {x5 : Int32} {x6 : Int32} {x7 : Int32} {s0 : Bool} {s1 : Int32} {n0 : fr_N} (h : fX8_springs_100 k58 x1 x2 x3 x4 x5 x6 x7 s0 s1 n0 = some (rz, nz)) : fr_V YX8_springs K 100 [some (.ref 52), some (.int x1), some (.int x2), some (.int x3), some (.int x4), some (.int x5), some (.int x6), some (.int x7), none] [.int (fr_b s0), .int s1] (u0, n0) := by
  rw [fX8_springs_100] at h
  refine fr_isub (q := 101) F dX8_springs_100 rfl ?_
  refine fr_istore (q := 103) F dX8_springs_101 rfl (by decide) rfl ?_
  refine fr_iload (q := 105) F dX8_springs_103 rfl rfl ?_
  refine fr_iload (q := 107) F dX8_springs_105 rfl rfl ?_
  refine fr_icmp_ge (q := 110) (tgt := 115) F dX8_springs_107 (by decide) rfl (fun hc5 => ?_) (fun hc5 => ?_)
  · rw [if_pos hc5] at h
    refine fr_iload (q := 117) F dX8_springs_115 rfl rfl ?_
    exact fr_wj (tX8_springs_117 F E H58 h) ⟨rfl, ⟨rfl, ⟨rfl, ⟨rfl, ⟨rfl, ⟨rfl, ⟨rfl, ⟨rfl, trivial⟩⟩⟩⟩⟩⟩⟩⟩
  · rw [if_neg hc5] at h
    refine fr_iload (q := 112) F dX8_springs_110 rfl rfl ?_
    refine fr_goto (tgt := 117) F dX8_springs_112 (by decide) ?_
    exact fr_wj (tX8_springs_117 F E H58 h) ⟨rfl, ⟨rfl, ⟨rfl, ⟨rfl, ⟨rfl, ⟨rfl, ⟨rfl, ⟨rfl, trivial⟩⟩⟩⟩⟩⟩⟩⟩
theorem tX8_springs_160 {K : fr_K} {u0 : fr_N} {rz : Int32} {nz : fr_N} (F : fr_F YX8_springs K) (E : fr_R YX8_springs K (some (.int rz)) (u0, nz)) {x3 : Int32} {x4 : Int32} {x5 : Int32} {x6 : Int32} {n0 : fr_N} (h : fX8_springs_160 x3 x4 x5 x6 n0 = some (rz, nz)) : fr_V YX8_springs K 160 [none, none, none, some (.int x3), some (.int x4), some (.int x5), some (.int x6), none, none] [] (u0, n0) := by
  rw [fX8_springs_160] at h
  refine fr_iload_n (q := 161) F dX8_springs_160 rfl rfl ?_
  refine fr_if_ne (q := 164) (tgt := 169) F dX8_springs_161 (by decide) rfl (fun hc6 => ?_) (fun hc6 => ?_)
  · rw [if_neg hc6] at h
    refine fr_iload_n (q := 170) F dX8_springs_169 rfl rfl ?_
    refine fr_iconst (q := 171) (v := 1) F dX8_springs_170 rfl (by decide) ?_
    refine fr_icmp_ne (q := 174) (tgt := 179) F dX8_springs_171 (by decide) rfl (fun hc7 => ?_) (fun hc7 => ?_)
    · rw [if_neg hc7] at h
      refine fr_iload (q := 181) F dX8_springs_179 rfl rfl ?_
      obtain ⟨rfl, rfl⟩ := Prod.mk.inj (Option.some.inj h)
      exact fr_iret F E rfl dX8_springs_181
    · rw [if_pos hc7] at h
      refine fr_iload (q := 176) F dX8_springs_174 rfl rfl ?_
      refine fr_goto (tgt := 181) F dX8_springs_176 (by decide) ?_
      obtain ⟨rfl, rfl⟩ := Prod.mk.inj (Option.some.inj h)
      exact fr_iret F E rfl dX8_springs_181
  · rw [if_pos hc6] at h
    refine fr_iload (q := 166) F dX8_springs_164 rfl rfl ?_
    refine fr_goto (tgt := 181) F dX8_springs_166 (by decide) ?_
    obtain ⟨rfl, rfl⟩ := Prod.mk.inj (Option.some.inj h)
    exact fr_iret F E rfl dX8_springs_181
theorem tX8_springs_58 {K : fr_K} {u0 : fr_N} {rz : Int32} {nz : fr_N} (F : fr_F YX8_springs K) (E : fr_R YX8_springs K (some (.int rz)) (u0, nz)) : ∀ (k : Nat) (x1 : Int32) (x2 : Int32) (x3 : Int32) (x4 : Int32) (x5 : Int32) (x6 : Int32) (x7 : Int32) (n0 : fr_N), fX8_springs_58 k x1 x2 x3 x4 x5 x6 x7 n0 = some (rz, nz) → fr_V YX8_springs K 58 [some (.ref 52), some (.int x1), some (.int x2), some (.int x3), some (.int x4), some (.int x5), some (.int x6), some (.int x7), none] [] (u0, n0) := by
  intro k
  induction k with
  | zero =>
    intro x1 x2 x3 x4 x5 x6 x7 n0 h
    rw [fX8_springs_58] at h
    cases h
  | succ k ih =>
    intro x1 x2 x3 x4 x5 x6 x7 n0 h
    rw [fX8_springs_58] at h
    refine fr_iload (q := 60) F dX8_springs_58 rfl rfl ?_
    refine fr_iload_n (q := 61) F dX8_springs_60 rfl rfl ?_
    refine fr_iload_n (q := 62) F dX8_springs_61 rfl rfl ?_
    refine fr_iadd (q := 63) F dX8_springs_62 rfl ?_
    refine fr_icmp_ge (q := 66) (tgt := 160) F dX8_springs_63 (by decide) rfl (fun hc8 => ?_) (fun hc8 => ?_)
    · rw [if_pos hc8] at h
      exact fr_wj (tX8_springs_160 F E h) ⟨rfl, ⟨rfl, ⟨rfl, ⟨rfl, trivial⟩⟩⟩⟩
    · rw [if_neg hc8] at h
      refine fr_iload (q := 68) F dX8_springs_66 rfl rfl ?_
      refine fr_sipush (q := 71) (v := 1000) F dX8_springs_68 rfl (by decide) ?_
      refine fr_icmp_ge (q := 74) (tgt := 160) F dX8_springs_71 (by decide) rfl (fun hc9 => ?_) (fun hc9 => ?_)
      · rw [if_pos hc9] at h
        exact fr_wj (tX8_springs_160 F E h) ⟨rfl, ⟨rfl, ⟨rfl, ⟨rfl, trivial⟩⟩⟩⟩
      · rw [if_neg hc9] at h
        refine fr_aload_n (q := 75) F dX8_springs_74 rfl rfl ?_
        refine fr_iload (q := 77) F dX8_springs_75 rfl rfl ?_
        obtain ⟨n12, hr11, h⟩ := fr_bd_some h
        refine fr_callV (q := 80) (M' := (u0, n12)) (rest := []) (st' := []) F dX8_springs_77 rfl (tX8_opens hr11) mlRX8_101 msX8_opens ⟨Nat.le_of_ble_eq_true rfl, Nat.le_of_ble_eq_true rfl⟩ (by decide) rfl rfl rfl (Nat.le_of_ble_eq_true rfl) rfl ?_
        refine fr_aload_n (q := 81) F dX8_springs_80 rfl rfl ?_
        refine fr_iload (q := 83) F dX8_springs_81 rfl rfl ?_
        obtain ⟨r13, hr14, h⟩ := fr_bd_some h
        refine fr_callV (q := 86) (M' := (u0, n12)) (rest := []) (st' := [.int r13]) F dX8_springs_83 rfl (tX8_spring hr14) mlRX8_87 msX8_spring ⟨Nat.le_of_ble_eq_true rfl, Nat.le_of_ble_eq_true rfl⟩ (by decide) rfl rfl rfl (Nat.le_of_ble_eq_true rfl) rfl ?_
        refine fr_aload_n (q := 87) F dX8_springs_86 rfl rfl ?_
        refine fr_iload (q := 89) F dX8_springs_87 rfl rfl ?_
        obtain ⟨r15, hr16, h⟩ := fr_bd_some h
        refine fr_callV (q := 92) (M' := (u0, n12)) (rest := [.int r13]) (st' := [.int (fr_b r15), .int r13]) F dX8_springs_89 rfl (tX8_isLeap hr16) mlRX8_59 msX8_isLeap ⟨Nat.le_of_ble_eq_true rfl, Nat.le_of_ble_eq_true rfl⟩ (by decide) rfl rfl rfl (Nat.le_of_ble_eq_true rfl) rfl ?_
        refine fr_if_eqb (q := 95) (tgt := 99) F dX8_springs_92 (by decide) rfl (fun hc17 => ?_) (fun hc17 => ?_)
        · rw [if_neg hc17] at h
          refine fr_iconst (q := 100) (v := 0) F dX8_springs_99 rfl (by decide) ?_
          exact fr_wj (tX8_springs_100 F E ih h) ⟨rfl, ⟨rfl, ⟨rfl, ⟨rfl, ⟨rfl, ⟨rfl, ⟨rfl, ⟨rfl, trivial⟩⟩⟩⟩⟩⟩⟩⟩
        · rw [if_pos hc17] at h
          refine fr_iconst (q := 96) (v := 1) F dX8_springs_95 rfl (by decide) ?_
          refine fr_goto (tgt := 100) F dX8_springs_96 (by decide) ?_
          exact fr_wj (tX8_springs_100 F E ih h) ⟨rfl, ⟨rfl, ⟨rfl, ⟨rfl, ⟨rfl, ⟨rfl, ⟨rfl, ⟨rfl, trivial⟩⟩⟩⟩⟩⟩⟩⟩
theorem tX8_springs {l : Launch} {G : fr_G} {u0 : fr_N} {a1 : Int32} {a2 : Int32} {a3 : Int32} {n0 : fr_N} {rz : Int32} {nz : fr_N} (h : fX8_springs a1 a2 a3 n0 = some (rz, nz)) : fr_Met l G YX8_springs [.ref 52, .int a1, .int a2, .int a3] (u0, n0) (some (.int rz)) (u0, nz) := by
  refine fr_met (pad := List.replicate 5 none) (by decide) (Nat.le_of_ble_eq_true rfl) (fun _ h => List.eq_of_mem_replicate h) ⟨rfl, rfl⟩ (fun K F hG hL E => ?_)
  subst hG; subst hL
  rw [fX8_springs] at h
  show fr_V YX8_springs K 0 [some (.ref 52), some (.int a1), some (.int a2), some (.int a3), none, none, none, none, none] [] (u0, n0)
  refine fr_aload_n (q := 1) F dX8_springs_0 rfl rfl ?_
  obtain ⟨r18, hr19, h⟩ := fr_bd_some h
  refine fr_callV (q := 4) (M' := (u0, n0)) (rest := []) (st' := [.int (fr_b r18)]) F dX8_springs_1 rfl (tX8_isBook hr19) mlRX8_261 msX8_isBook ⟨Nat.le_of_ble_eq_true rfl, Nat.le_of_ble_eq_true rfl⟩ (by decide) rfl rfl rfl (Nat.le_of_ble_eq_true rfl) rfl ?_
  refine fr_if_neb (q := 7) (tgt := 10) F dX8_springs_4 (by decide) rfl (fun hc20 => ?_) (fun hc20 => ?_)
  · rw [if_pos hc20] at h
    refine fr_iload_n (q := 11) F dX8_springs_10 rfl rfl ?_
    obtain ⟨r21, hr22, h⟩ := fr_bd_some h
    refine fr_callS (q := 14) (M' := (u0, n0)) (rest := []) (st' := [.int (fr_b r21)]) F dX8_springs_11 rfl (tX8_isYear hr22) mlRX8_283 msX8_isYear ⟨Nat.le_of_ble_eq_true rfl, Nat.le_of_ble_eq_true rfl⟩ rfl rfl (Nat.le_of_ble_eq_true rfl) rfl ?_
    refine fr_if_eqb (q := 17) (tgt := 41) F dX8_springs_14 (by decide) rfl (fun hc23 => ?_) (fun hc23 => ?_)
    · rw [if_neg hc23] at h
      refine fr_ldc (q := 43) F dX8_springs_41 rfl kcRX8_209 ?_
      obtain ⟨rfl, rfl⟩ := Prod.mk.inj (Option.some.inj h)
      exact fr_iret F E rfl dX8_springs_43
    · rw [if_pos hc23] at h
      refine fr_iload_n (q := 18) F dX8_springs_17 rfl rfl ?_
      refine fr_i2l (q := 19) F dX8_springs_18 rfl ?_
      refine fr_lconst (q := 20) (v := 1) F dX8_springs_19 rfl (by decide) ?_
      refine fr_ldc2 (q := 23) F dX8_springs_20 rfl klRX8_239 ?_
      obtain ⟨r24, hr25, h⟩ := fr_bd_some h
      refine fr_callS (q := 26) (M' := (u0, n0)) (rest := []) (st' := [.int (fr_b r24)]) F dX8_springs_23 rfl (tX8_in hr25) mlRX8_55 msX8_in ⟨Nat.le_of_ble_eq_true rfl, Nat.le_of_ble_eq_true rfl⟩ rfl rfl (Nat.le_of_ble_eq_true rfl) rfl ?_
      refine fr_if_eqb (q := 29) (tgt := 41) F dX8_springs_26 (by decide) rfl (fun hc26 => ?_) (fun hc26 => ?_)
      · rw [if_neg hc26] at h
        refine fr_ldc (q := 43) F dX8_springs_41 rfl kcRX8_209 ?_
        obtain ⟨rfl, rfl⟩ := Prod.mk.inj (Option.some.inj h)
        exact fr_iret F E rfl dX8_springs_43
      · rw [if_pos hc26] at h
        refine fr_iload_n (q := 30) F dX8_springs_29 rfl rfl ?_
        refine fr_i2l (q := 31) F dX8_springs_30 rfl ?_
        refine fr_lconst (q := 32) (v := 0) F dX8_springs_31 rfl (by decide) ?_
        refine fr_ldc2 (q := 35) F dX8_springs_32 rfl klRX8_265 ?_
        obtain ⟨r27, hr28, h⟩ := fr_bd_some h
        refine fr_callS (q := 38) (M' := (u0, n0)) (rest := []) (st' := [.int (fr_b r27)]) F dX8_springs_35 rfl (tX8_in hr28) mlRX8_55 msX8_in ⟨Nat.le_of_ble_eq_true rfl, Nat.le_of_ble_eq_true rfl⟩ rfl rfl (Nat.le_of_ble_eq_true rfl) rfl ?_
        refine fr_if_neb (q := 41) (tgt := 44) F dX8_springs_38 (by decide) rfl (fun hc29 => ?_) (fun hc29 => ?_)
        · rw [if_pos hc29] at h
          refine fr_sipush (q := 47) (v := 999) F dX8_springs_44 rfl (by decide) ?_
          refine fr_istore (q := 49) F dX8_springs_47 rfl (by decide) rfl ?_
          refine fr_iconst (q := 50) (v := 0) F dX8_springs_49 rfl (by decide) ?_
          refine fr_istore (q := 52) F dX8_springs_50 rfl (by decide) rfl ?_
          refine fr_iconst (q := 53) (v := 0) F dX8_springs_52 rfl (by decide) ?_
          refine fr_istore (q := 55) F dX8_springs_53 rfl (by decide) rfl ?_
          refine fr_iload_n (q := 56) F dX8_springs_55 rfl rfl ?_
          refine fr_istore (q := 58) F dX8_springs_56 rfl (by decide) rfl ?_
          exact fr_wj (tX8_springs_58 F E _ _ _ _ _ _ _ _ _ h) ⟨rfl, ⟨rfl, ⟨rfl, ⟨rfl, ⟨rfl, ⟨rfl, ⟨rfl, ⟨rfl, trivial⟩⟩⟩⟩⟩⟩⟩⟩
        · rw [if_neg hc29] at h
          refine fr_ldc (q := 43) F dX8_springs_41 rfl kcRX8_209 ?_
          obtain ⟨rfl, rfl⟩ := Prod.mk.inj (Option.some.inj h)
          exact fr_iret F E rfl dX8_springs_43
  · rw [if_neg hc20] at h
    refine fr_ldc (q := 9) F dX8_springs_7 rfl kcRX8_238 ?_
    obtain ⟨rfl, rfl⟩ := Prod.mk.inj (Option.some.inj h)
    exact fr_iret F E rfl dX8_springs_9
/-! FeastRota.often (0, None, None, None, None) -/
def fX7_often_54 : Nat → Int32 → Int32 → Int32 → Int32 → Int32 → fr_N → Option (Int32 × fr_N)
  | 0, _, _, _, _, _, _ => none
  | k + 1, x1, x4, x5, x6, x7, n0 => if x6 < x7 then some (x5, n0) else fr_bd (fX3_lay x7 (-1 : Int32) n0) fun n4 => (fr_ck x1 12 (if (n4 14 (Int32.toNatClampNeg x1)) = x4 then (fX7_often_54 k) x1 x4 (x5 + (1 : Int32)) x6 (x7 + (1 : Int32)) n4 else (fX7_often_54 k) x1 x4 (x5 + (0 : Int32)) x6 (x7 + (1 : Int32)) n4))
def fX7_often (a1 : Int32) (a2 : Int32) (a3 : Int32) (a4 : Int32) (n0 : fr_N) : Option (Int32 × fr_N) := fr_bd (fX1_hasFeast_3 a1 n0) fun r7 => (if r7 = true then fr_bd (fX7_isYear a2) fun r10 => (if r10 = true then fr_bd (fX7_within a3 (1 : Int32) (30 : Int32)) fun r13 => (if r13 = true then fr_bd (fX7_within a4 (0 : Int32) (5 : Int32)) fun r16 => (if r16 = true then fr_bd (fX7_lastOf a2 a3) fun r19 => (fX7_often_54 2000 a1 a4 (0 : Int32) r19 a2 n0) else some ((-1000001 : Int32), n0)) else some ((-1000001 : Int32), n0)) else some ((-1000001 : Int32), n0)) else some ((-1000001 : Int32), n0))
theorem tX7_often_54 {K : fr_K} {u0 : fr_N} {rz : Int32} {nz : fr_N} (F : fr_F YX7_often K) (E : fr_R YX7_often K (some (.int rz)) (nz, u0)) : ∀ (k : Nat) (x1 : Int32) (x4 : Int32) (x5 : Int32) (x6 : Int32) (x7 : Int32) (n0 : fr_N), fX7_often_54 k x1 x4 x5 x6 x7 n0 = some (rz, nz) → fr_V YX7_often K 54 [some (.ref 0), some (.int x1), none, none, some (.int x4), some (.int x5), some (.int x6), some (.int x7)] [] (n0, u0) := by
  intro k
  induction k with
  | zero =>
    intro x1 x4 x5 x6 x7 n0 h
    rw [fX7_often_54] at h
    cases h
  | succ k ih =>
    intro x1 x4 x5 x6 x7 n0 h
    rw [fX7_often_54] at h
    refine fr_iload (q := 56) F dX7_often_54 rfl rfl ?_
    refine fr_iload (q := 58) F dX7_often_56 rfl rfl ?_
    refine fr_icmp_gt (q := 61) (tgt := 101) F dX7_often_58 (by decide) rfl (fun hc1 => ?_) (fun hc1 => ?_)
    · rw [if_pos hc1] at h
      refine fr_iload (q := 103) F dX7_often_101 rfl rfl ?_
      obtain ⟨rfl, rfl⟩ := Prod.mk.inj (Option.some.inj h)
      exact fr_iret F E rfl dX7_often_103
    · rw [if_neg hc1] at h
      refine fr_aload_n (q := 62) F dX7_often_61 rfl rfl ?_
      refine fr_gfR (q := 65) (j := 11) F dX7_often_62 rfl faRX7_51 (by decide) rfl rfl ?_
      refine fr_iload (q := 67) F dX7_often_65 rfl rfl ?_
      refine fr_iconst (q := 68) (v := (-1)) F dX7_often_67 rfl (by decide) ?_
      obtain ⟨n4, hr3, h⟩ := fr_bd_some h
      refine fr_callV (q := 71) (M' := (n4, u0)) (rest := []) (st' := []) F dX7_often_68 rfl (tX3_lay hr3) mlRX7_156 msX3_lay ⟨Nat.le_of_ble_eq_true rfl, Nat.le_of_ble_eq_true rfl⟩ (by decide) rfl rfl rfl (Nat.le_of_ble_eq_true rfl) rfl ?_
      refine fr_iload (q := 73) F dX7_often_71 rfl rfl ?_
      refine fr_aload_n (q := 74) F dX7_often_73 rfl rfl ?_
      refine fr_gfR (q := 77) (j := 11) F dX7_often_74 rfl faRX7_51 (by decide) rfl rfl ?_
      refine fr_gfR (q := 80) (j := 14) F dX7_often_77 rfl faRX7_216 (by decide) rfl rfl ?_
      refine fr_iload_n (q := 81) F dX7_often_80 rfl rfl ?_
      obtain ⟨hi5, h⟩ := fr_ck_some h
      refine fr_ial (q := 82) (x := (n4 14 (Int32.toNatClampNeg x1))) F dX7_often_81 rfl hi5 (by decide) rfl rfl ?_
      refine fr_iload (q := 84) F dX7_often_82 rfl rfl ?_
      refine fr_icmp_ne (q := 87) (tgt := 91) F dX7_often_84 (by decide) rfl (fun hc6 => ?_) (fun hc6 => ?_)
      · rw [if_neg hc6] at h
        refine fr_iconst (q := 92) (v := 0) F dX7_often_91 rfl (by decide) ?_
        refine fr_iadd (q := 93) F dX7_often_92 rfl ?_
        refine fr_istore (q := 95) F dX7_often_93 rfl (by decide) rfl ?_
        refine fr_iinc (q := 98) (v := (x7 + (1 : Int32))) F dX7_often_95 rfl rfl rfl (by decide) rfl ?_
        refine fr_goto (tgt := 54) F dX7_often_98 (by decide) ?_
        exact fr_wj (ih _ _ _ _ _ _ h) ⟨rfl, ⟨rfl, ⟨rfl, ⟨rfl, ⟨rfl, ⟨rfl, trivial⟩⟩⟩⟩⟩⟩
      · rw [if_pos hc6] at h
        refine fr_iconst (q := 88) (v := 1) F dX7_often_87 rfl (by decide) ?_
        refine fr_goto (tgt := 92) F dX7_often_88 (by decide) ?_
        refine fr_iadd (q := 93) F dX7_often_92 rfl ?_
        refine fr_istore (q := 95) F dX7_often_93 rfl (by decide) rfl ?_
        refine fr_iinc (q := 98) (v := (x7 + (1 : Int32))) F dX7_often_95 rfl rfl rfl (by decide) rfl ?_
        refine fr_goto (tgt := 54) F dX7_often_98 (by decide) ?_
        exact fr_wj (ih _ _ _ _ _ _ h) ⟨rfl, ⟨rfl, ⟨rfl, ⟨rfl, ⟨rfl, ⟨rfl, trivial⟩⟩⟩⟩⟩⟩
theorem tX7_often {l : Launch} {G : fr_G} {u0 : fr_N} {a1 : Int32} {a2 : Int32} {a3 : Int32} {a4 : Int32} {n0 : fr_N} {rz : Int32} {nz : fr_N} (h : fX7_often a1 a2 a3 a4 n0 = some (rz, nz)) : fr_Met l G YX7_often [.ref 0, .int a1, .int a2, .int a3, .int a4] (n0, u0) (some (.int rz)) (nz, u0) := by
  refine fr_met (pad := List.replicate 3 none) (by decide) (Nat.le_of_ble_eq_true rfl) (fun _ h => List.eq_of_mem_replicate h) ⟨rfl, rfl⟩ (fun K F hG hL E => ?_)
  subst hG; subst hL
  rw [fX7_often] at h
  show fr_V YX7_often K 0 [some (.ref 0), some (.int a1), some (.int a2), some (.int a3), some (.int a4), none, none, none] [] (n0, u0)
  refine fr_aload_n (q := 1) F dX7_often_0 rfl rfl ?_
  refine fr_gfR (q := 4) (j := 3) F dX7_often_1 rfl faRX7_36 (by decide) rfl rfl ?_
  refine fr_iload_n (q := 5) F dX7_often_4 rfl rfl ?_
  obtain ⟨r7, hr8, h⟩ := fr_bd_some h
  refine fr_callV (q := 8) (M' := (n0, u0)) (rest := []) (st' := [.int (fr_b r7)]) F dX7_often_5 rfl (tX1_hasFeast_3 hr8) mlRX7_109 msX1_hasFeast ⟨Nat.le_of_ble_eq_true rfl, Nat.le_of_ble_eq_true rfl⟩ (by decide) rfl rfl rfl (Nat.le_of_ble_eq_true rfl) rfl ?_
  refine fr_if_eqb (q := 11) (tgt := 38) F dX7_often_8 (by decide) rfl (fun hc9 => ?_) (fun hc9 => ?_)
  · rw [if_neg hc9] at h
    refine fr_ldc (q := 40) F dX7_often_38 rfl kcRX7_72 ?_
    obtain ⟨rfl, rfl⟩ := Prod.mk.inj (Option.some.inj h)
    exact fr_iret F E rfl dX7_often_40
  · rw [if_pos hc9] at h
    refine fr_iload_n (q := 12) F dX7_often_11 rfl rfl ?_
    obtain ⟨r10, hr11, h⟩ := fr_bd_some h
    refine fr_callS (q := 15) (M' := (n0, u0)) (rest := []) (st' := [.int (fr_b r10)]) F dX7_often_12 rfl (tX7_isYear hr11) mlRX7_153 msX7_isYear ⟨Nat.le_of_ble_eq_true rfl, Nat.le_of_ble_eq_true rfl⟩ rfl rfl (Nat.le_of_ble_eq_true rfl) rfl ?_
    refine fr_if_eqb (q := 18) (tgt := 38) F dX7_often_15 (by decide) rfl (fun hc12 => ?_) (fun hc12 => ?_)
    · rw [if_neg hc12] at h
      refine fr_ldc (q := 40) F dX7_often_38 rfl kcRX7_72 ?_
      obtain ⟨rfl, rfl⟩ := Prod.mk.inj (Option.some.inj h)
      exact fr_iret F E rfl dX7_often_40
    · rw [if_pos hc12] at h
      refine fr_iload_n (q := 19) F dX7_often_18 rfl rfl ?_
      refine fr_iconst (q := 20) (v := 1) F dX7_often_19 rfl (by decide) ?_
      refine fr_bipush (q := 22) (v := 30) F dX7_often_20 rfl (by decide) ?_
      obtain ⟨r13, hr14, h⟩ := fr_bd_some h
      refine fr_callS (q := 25) (M' := (n0, u0)) (rest := []) (st' := [.int (fr_b r13)]) F dX7_often_22 rfl (tX7_within hr14) mlRX7_68 msX7_within ⟨Nat.le_of_ble_eq_true rfl, Nat.le_of_ble_eq_true rfl⟩ rfl rfl (Nat.le_of_ble_eq_true rfl) rfl ?_
      refine fr_if_eqb (q := 28) (tgt := 38) F dX7_often_25 (by decide) rfl (fun hc15 => ?_) (fun hc15 => ?_)
      · rw [if_neg hc15] at h
        refine fr_ldc (q := 40) F dX7_often_38 rfl kcRX7_72 ?_
        obtain ⟨rfl, rfl⟩ := Prod.mk.inj (Option.some.inj h)
        exact fr_iret F E rfl dX7_often_40
      · rw [if_pos hc15] at h
        refine fr_iload (q := 30) F dX7_often_28 rfl rfl ?_
        refine fr_iconst (q := 31) (v := 0) F dX7_often_30 rfl (by decide) ?_
        refine fr_iconst (q := 32) (v := 5) F dX7_often_31 rfl (by decide) ?_
        obtain ⟨r16, hr17, h⟩ := fr_bd_some h
        refine fr_callS (q := 35) (M' := (n0, u0)) (rest := []) (st' := [.int (fr_b r16)]) F dX7_often_32 rfl (tX7_within hr17) mlRX7_68 msX7_within ⟨Nat.le_of_ble_eq_true rfl, Nat.le_of_ble_eq_true rfl⟩ rfl rfl (Nat.le_of_ble_eq_true rfl) rfl ?_
        refine fr_if_neb (q := 38) (tgt := 41) F dX7_often_35 (by decide) rfl (fun hc18 => ?_) (fun hc18 => ?_)
        · rw [if_pos hc18] at h
          refine fr_iconst (q := 42) (v := 0) F dX7_often_41 rfl (by decide) ?_
          refine fr_istore (q := 44) F dX7_often_42 rfl (by decide) rfl ?_
          refine fr_iload_n (q := 45) F dX7_often_44 rfl rfl ?_
          refine fr_iload_n (q := 46) F dX7_often_45 rfl rfl ?_
          obtain ⟨r19, hr20, h⟩ := fr_bd_some h
          refine fr_callS (q := 49) (M' := (n0, u0)) (rest := []) (st' := [.int r19]) F dX7_often_46 rfl (tX7_lastOf hr20) mlRX7_249 msX7_lastOf ⟨Nat.le_of_ble_eq_true rfl, Nat.le_of_ble_eq_true rfl⟩ rfl rfl (Nat.le_of_ble_eq_true rfl) rfl ?_
          refine fr_istore (q := 51) F dX7_often_49 rfl (by decide) rfl ?_
          refine fr_iload_n (q := 52) F dX7_often_51 rfl rfl ?_
          refine fr_istore (q := 54) F dX7_often_52 rfl (by decide) rfl ?_
          exact fr_wj (tX7_often_54 F E _ _ _ _ _ _ _ h) ⟨rfl, ⟨rfl, ⟨rfl, ⟨rfl, ⟨rfl, ⟨rfl, trivial⟩⟩⟩⟩⟩⟩
        · rw [if_neg hc18] at h
          refine fr_ldc (q := 40) F dX7_often_38 rfl kcRX7_72 ?_
          obtain ⟨rfl, rfl⟩ := Prod.mk.inj (Option.some.inj h)
          exact fr_iret F E rfl dX7_often_40
/-! FeastRotaModel.often (52, None, None, None, None) -/
def fX8_often_49 : Nat → Int32 → Int32 → Int32 → Int32 → Int32 → Int32 → fr_N → Option (Int32 × fr_N)
  | 0, _, _, _, _, _, _, _ => none
  | k + 1, x1, x2, x3, x4, x5, x6, n0 => if (x2 + x3) ≤ x6 then some (x5, n0) else if (1000 : Int32) ≤ x6 then some (x5, n0) else fr_bd (fX8_lays x6 (-1000000 : Int32) n0) fun n5 => (fr_ck x1 12 (if (n5 9 (Int32.toNatClampNeg x1)) = x4 then (fX8_often_49 k) x1 x2 x3 x4 (x5 + (1 : Int32)) (x6 + (1 : Int32)) n5 else (fX8_often_49 k) x1 x2 x3 x4 (x5 + (0 : Int32)) (x6 + (1 : Int32)) n5))
def fX8_often (a1 : Int32) (a2 : Int32) (a3 : Int32) (a4 : Int32) (n0 : fr_N) : Option (Int32 × fr_N) := fr_bd (fX8_isFeast a1 n0) fun r8 => (if r8 = true then fr_bd (fX8_isYear a2) fun r11 => (if r11 = true then fr_bd (fX8_in (Int32.toInt64 a3) (1 : Int64) (30 : Int64)) fun r14 => (if r14 = true then fr_bd (fX8_in (Int32.toInt64 a4) (0 : Int64) (5 : Int64)) fun r17 => (if r17 = true then fX8_often_49 2000 a1 a2 a3 a4 (0 : Int32) a2 n0 else some ((-1000001 : Int32), n0)) else some ((-1000001 : Int32), n0)) else some ((-1000001 : Int32), n0)) else some ((-1000001 : Int32), n0))
theorem tX8_often_49 {K : fr_K} {u0 : fr_N} {rz : Int32} {nz : fr_N} (F : fr_F YX8_often K) (E : fr_R YX8_often K (some (.int rz)) (u0, nz)) : ∀ (k : Nat) (x1 : Int32) (x2 : Int32) (x3 : Int32) (x4 : Int32) (x5 : Int32) (x6 : Int32) (n0 : fr_N), fX8_often_49 k x1 x2 x3 x4 x5 x6 n0 = some (rz, nz) → fr_V YX8_often K 49 [some (.ref 52), some (.int x1), some (.int x2), some (.int x3), some (.int x4), some (.int x5), some (.int x6)] [] (u0, n0) := by
  intro k
  induction k with
  | zero =>
    intro x1 x2 x3 x4 x5 x6 n0 h
    rw [fX8_often_49] at h
    cases h
  | succ k ih =>
    intro x1 x2 x3 x4 x5 x6 n0 h
    rw [fX8_often_49] at h
    refine fr_iload (q := 51) F dX8_often_49 rfl rfl ?_
    refine fr_iload_n (q := 52) F dX8_often_51 rfl rfl ?_
    refine fr_iload_n (q := 53) F dX8_often_52 rfl rfl ?_
    refine fr_iadd (q := 54) F dX8_often_53 rfl ?_
    refine fr_icmp_ge (q := 57) (tgt := 100) F dX8_often_54 (by decide) rfl (fun hc1 => ?_) (fun hc1 => ?_)
    · rw [if_pos hc1] at h
      refine fr_iload (q := 102) F dX8_often_100 rfl rfl ?_
      obtain ⟨rfl, rfl⟩ := Prod.mk.inj (Option.some.inj h)
      exact fr_iret F E rfl dX8_often_102
    · rw [if_neg hc1] at h
      refine fr_iload (q := 59) F dX8_often_57 rfl rfl ?_
      refine fr_sipush (q := 62) (v := 1000) F dX8_often_59 rfl (by decide) ?_
      refine fr_icmp_ge (q := 65) (tgt := 100) F dX8_often_62 (by decide) rfl (fun hc2 => ?_) (fun hc2 => ?_)
      · rw [if_pos hc2] at h
        refine fr_iload (q := 102) F dX8_often_100 rfl rfl ?_
        obtain ⟨rfl, rfl⟩ := Prod.mk.inj (Option.some.inj h)
        exact fr_iret F E rfl dX8_often_102
      · rw [if_neg hc2] at h
        refine fr_aload_n (q := 66) F dX8_often_65 rfl rfl ?_
        refine fr_iload (q := 68) F dX8_often_66 rfl rfl ?_
        refine fr_ldc (q := 70) F dX8_often_68 rfl kcRX8_90 ?_
        obtain ⟨n5, hr4, h⟩ := fr_bd_some h
        refine fr_callV (q := 73) (M' := (u0, n5)) (rest := []) (st' := []) F dX8_often_70 rfl (tX8_lays hr4) mlRX8_288 msX8_lays ⟨Nat.le_of_ble_eq_true rfl, Nat.le_of_ble_eq_true rfl⟩ (by decide) rfl rfl rfl (Nat.le_of_ble_eq_true rfl) rfl ?_
        refine fr_iload (q := 75) F dX8_often_73 rfl rfl ?_
        refine fr_aload_n (q := 76) F dX8_often_75 rfl rfl ?_
        refine fr_gfR (q := 79) (j := 61) F dX8_often_76 rfl faRX8_35 (by decide) rfl rfl ?_
        refine fr_iload_n (q := 80) F dX8_often_79 rfl rfl ?_
        obtain ⟨hi6, h⟩ := fr_ck_some h
        refine fr_ial (q := 81) (x := (n5 9 (Int32.toNatClampNeg x1))) F dX8_often_80 rfl hi6 (by decide) rfl rfl ?_
        refine fr_iload (q := 83) F dX8_often_81 rfl rfl ?_
        refine fr_icmp_ne (q := 86) (tgt := 90) F dX8_often_83 (by decide) rfl (fun hc7 => ?_) (fun hc7 => ?_)
        · rw [if_neg hc7] at h
          refine fr_iconst (q := 91) (v := 0) F dX8_often_90 rfl (by decide) ?_
          refine fr_iadd (q := 92) F dX8_often_91 rfl ?_
          refine fr_istore (q := 94) F dX8_often_92 rfl (by decide) rfl ?_
          refine fr_iinc (q := 97) (v := (x6 + (1 : Int32))) F dX8_often_94 rfl rfl rfl (by decide) rfl ?_
          refine fr_goto (tgt := 49) F dX8_often_97 (by decide) ?_
          exact fr_wj (ih _ _ _ _ _ _ _ h) ⟨rfl, ⟨rfl, ⟨rfl, ⟨rfl, ⟨rfl, ⟨rfl, ⟨rfl, trivial⟩⟩⟩⟩⟩⟩⟩
        · rw [if_pos hc7] at h
          refine fr_iconst (q := 87) (v := 1) F dX8_often_86 rfl (by decide) ?_
          refine fr_goto (tgt := 91) F dX8_often_87 (by decide) ?_
          refine fr_iadd (q := 92) F dX8_often_91 rfl ?_
          refine fr_istore (q := 94) F dX8_often_92 rfl (by decide) rfl ?_
          refine fr_iinc (q := 97) (v := (x6 + (1 : Int32))) F dX8_often_94 rfl rfl rfl (by decide) rfl ?_
          refine fr_goto (tgt := 49) F dX8_often_97 (by decide) ?_
          exact fr_wj (ih _ _ _ _ _ _ _ h) ⟨rfl, ⟨rfl, ⟨rfl, ⟨rfl, ⟨rfl, ⟨rfl, ⟨rfl, trivial⟩⟩⟩⟩⟩⟩⟩
theorem tX8_often {l : Launch} {G : fr_G} {u0 : fr_N} {a1 : Int32} {a2 : Int32} {a3 : Int32} {a4 : Int32} {n0 : fr_N} {rz : Int32} {nz : fr_N} (h : fX8_often a1 a2 a3 a4 n0 = some (rz, nz)) : fr_Met l G YX8_often [.ref 52, .int a1, .int a2, .int a3, .int a4] (u0, n0) (some (.int rz)) (u0, nz) := by
  refine fr_met (pad := List.replicate 2 none) (by decide) (Nat.le_of_ble_eq_true rfl) (fun _ h => List.eq_of_mem_replicate h) ⟨rfl, rfl⟩ (fun K F hG hL E => ?_)
  subst hG; subst hL
  rw [fX8_often] at h
  show fr_V YX8_often K 0 [some (.ref 52), some (.int a1), some (.int a2), some (.int a3), some (.int a4), none, none] [] (u0, n0)
  refine fr_aload_n (q := 1) F dX8_often_0 rfl rfl ?_
  refine fr_iload_n (q := 2) F dX8_often_1 rfl rfl ?_
  obtain ⟨r8, hr9, h⟩ := fr_bd_some h
  refine fr_callV (q := 5) (M' := (u0, n0)) (rest := []) (st' := [.int (fr_b r8)]) F dX8_often_2 rfl (tX8_isFeast hr9) mlRX8_252 msX8_isFeast ⟨Nat.le_of_ble_eq_true rfl, Nat.le_of_ble_eq_true rfl⟩ (by decide) rfl rfl rfl (Nat.le_of_ble_eq_true rfl) rfl ?_
  refine fr_if_eqb (q := 8) (tgt := 40) F dX8_often_5 (by decide) rfl (fun hc10 => ?_) (fun hc10 => ?_)
  · rw [if_neg hc10] at h
    refine fr_ldc (q := 42) F dX8_often_40 rfl kcRX8_209 ?_
    obtain ⟨rfl, rfl⟩ := Prod.mk.inj (Option.some.inj h)
    exact fr_iret F E rfl dX8_often_42
  · rw [if_pos hc10] at h
    refine fr_iload_n (q := 9) F dX8_often_8 rfl rfl ?_
    obtain ⟨r11, hr12, h⟩ := fr_bd_some h
    refine fr_callS (q := 12) (M' := (u0, n0)) (rest := []) (st' := [.int (fr_b r11)]) F dX8_often_9 rfl (tX8_isYear hr12) mlRX8_283 msX8_isYear ⟨Nat.le_of_ble_eq_true rfl, Nat.le_of_ble_eq_true rfl⟩ rfl rfl (Nat.le_of_ble_eq_true rfl) rfl ?_
    refine fr_if_eqb (q := 15) (tgt := 40) F dX8_often_12 (by decide) rfl (fun hc13 => ?_) (fun hc13 => ?_)
    · rw [if_neg hc13] at h
      refine fr_ldc (q := 42) F dX8_often_40 rfl kcRX8_209 ?_
      obtain ⟨rfl, rfl⟩ := Prod.mk.inj (Option.some.inj h)
      exact fr_iret F E rfl dX8_often_42
    · rw [if_pos hc13] at h
      refine fr_iload_n (q := 16) F dX8_often_15 rfl rfl ?_
      refine fr_i2l (q := 17) F dX8_often_16 rfl ?_
      refine fr_lconst (q := 18) (v := 1) F dX8_often_17 rfl (by decide) ?_
      refine fr_ldc2 (q := 21) F dX8_often_18 rfl klRX8_313 ?_
      obtain ⟨r14, hr15, h⟩ := fr_bd_some h
      refine fr_callS (q := 24) (M' := (u0, n0)) (rest := []) (st' := [.int (fr_b r14)]) F dX8_often_21 rfl (tX8_in hr15) mlRX8_55 msX8_in ⟨Nat.le_of_ble_eq_true rfl, Nat.le_of_ble_eq_true rfl⟩ rfl rfl (Nat.le_of_ble_eq_true rfl) rfl ?_
      refine fr_if_eqb (q := 27) (tgt := 40) F dX8_often_24 (by decide) rfl (fun hc16 => ?_) (fun hc16 => ?_)
      · rw [if_neg hc16] at h
        refine fr_ldc (q := 42) F dX8_often_40 rfl kcRX8_209 ?_
        obtain ⟨rfl, rfl⟩ := Prod.mk.inj (Option.some.inj h)
        exact fr_iret F E rfl dX8_often_42
      · rw [if_pos hc16] at h
        refine fr_iload (q := 29) F dX8_often_27 rfl rfl ?_
        refine fr_i2l (q := 30) F dX8_often_29 rfl ?_
        refine fr_lconst (q := 31) (v := 0) F dX8_often_30 rfl (by decide) ?_
        refine fr_ldc2 (q := 34) F dX8_often_31 rfl klRX8_248 ?_
        obtain ⟨r17, hr18, h⟩ := fr_bd_some h
        refine fr_callS (q := 37) (M' := (u0, n0)) (rest := []) (st' := [.int (fr_b r17)]) F dX8_often_34 rfl (tX8_in hr18) mlRX8_55 msX8_in ⟨Nat.le_of_ble_eq_true rfl, Nat.le_of_ble_eq_true rfl⟩ rfl rfl (Nat.le_of_ble_eq_true rfl) rfl ?_
        refine fr_if_neb (q := 40) (tgt := 43) F dX8_often_37 (by decide) rfl (fun hc19 => ?_) (fun hc19 => ?_)
        · rw [if_pos hc19] at h
          refine fr_iconst (q := 44) (v := 0) F dX8_often_43 rfl (by decide) ?_
          refine fr_istore (q := 46) F dX8_often_44 rfl (by decide) rfl ?_
          refine fr_iload_n (q := 47) F dX8_often_46 rfl rfl ?_
          refine fr_istore (q := 49) F dX8_often_47 rfl (by decide) rfl ?_
          exact fr_wj (tX8_often_49 F E _ _ _ _ _ _ _ _ h) ⟨rfl, ⟨rfl, ⟨rfl, ⟨rfl, ⟨rfl, ⟨rfl, ⟨rfl, trivial⟩⟩⟩⟩⟩⟩⟩
        · rw [if_neg hc19] at h
          refine fr_ldc (q := 42) F dX8_often_40 rfl kcRX8_209 ?_
          obtain ⟨rfl, rfl⟩ := Prod.mk.inj (Option.some.inj h)
          exact fr_iret F E rfl dX8_often_42
/-! FeastRota.enough (0, None, None) -/
def fX7_enough_64 : Nat → Int32 → Int32 → Int32 → fr_N → Option (Int32 × fr_N)
  | 0, _, _, _, _ => none
  | k + 1, x2, x3, x4, n0 => if (9 : Int32) < x4 then some ((-1000000 : Int32), n0) else if (x3 * x4) < (x2 * (n0 4 3)) then (fX7_enough_64 k) x2 x3 (x4 + (1 : Int32)) n0 else some (x4, n0)
def fX7_enough (a1 : Int32) (a2 : Int32) (n0 : fr_N) : Option (Int32 × fr_N) := if (n0 3 0) = 0 then some ((-1000002 : Int32), n0) else fr_bd (fX7_isYear a1) fun r4 => (if r4 = true then fr_bd (fX7_within a2 (1 : Int32) (400 : Int32)) fun r7 => (if r7 = true then fr_bd (fX3_lay a1 (-1 : Int32) n0) fun n12 => (fr_bd (fX3_readingDays (n12 12 0) n12) fun r13 => (fX7_enough_64 2000 a2 r13 (1 : Int32) n12)) else some ((-1000001 : Int32), n0)) else some ((-1000001 : Int32), n0))
theorem tX7_enough_64 {K : fr_K} {u0 : fr_N} {rz : Int32} {nz : fr_N} (F : fr_F YX7_enough K) (E : fr_R YX7_enough K (some (.int rz)) (nz, u0)) : ∀ (k : Nat) (x2 : Int32) (x3 : Int32) (x4 : Int32) (n0 : fr_N), fX7_enough_64 k x2 x3 x4 n0 = some (rz, nz) → fr_V YX7_enough K 64 [some (.ref 0), none, some (.int x2), some (.int x3), some (.int x4)] [] (n0, u0) := by
  intro k
  induction k with
  | zero =>
    intro x2 x3 x4 n0 h
    rw [fX7_enough_64] at h
    cases h
  | succ k ih =>
    intro x2 x3 x4 n0 h
    rw [fX7_enough_64] at h
    refine fr_iload (q := 66) F dX7_enough_64 rfl rfl ?_
    refine fr_bipush (q := 68) (v := 9) F dX7_enough_66 rfl (by decide) ?_
    refine fr_icmp_gt (q := 71) (tgt := 98) F dX7_enough_68 (by decide) rfl (fun hc1 => ?_) (fun hc1 => ?_)
    · rw [if_pos hc1] at h
      refine fr_ldc (q := 100) F dX7_enough_98 rfl kcRX7_203 ?_
      obtain ⟨rfl, rfl⟩ := Prod.mk.inj (Option.some.inj h)
      exact fr_iret F E rfl dX7_enough_100
    · rw [if_neg hc1] at h
      refine fr_iload_n (q := 72) F dX7_enough_71 rfl rfl ?_
      refine fr_iload (q := 74) F dX7_enough_72 rfl rfl ?_
      refine fr_imul (q := 75) F dX7_enough_74 rfl ?_
      refine fr_iload_n (q := 76) F dX7_enough_75 rfl rfl ?_
      refine fr_aload_n (q := 77) F dX7_enough_76 rfl rfl ?_
      refine fr_gfR (q := 80) (j := 3) F dX7_enough_77 rfl faRX7_36 (by decide) rfl rfl ?_
      refine fr_gfR (q := 83) (j := 4) F dX7_enough_80 rfl faRX7_141 (by decide) rfl rfl ?_
      refine fr_iconst (q := 84) (v := 3) F dX7_enough_83 rfl (by decide) ?_
      refine fr_ial (q := 85) (x := (n0 4 3)) F dX7_enough_84 rfl (fr_vin rfl) (by decide) rfl rfl ?_
      refine fr_imul (q := 86) F dX7_enough_85 rfl ?_
      refine fr_icmp_lt (q := 89) (tgt := 92) F dX7_enough_86 (by decide) rfl (fun hc2 => ?_) (fun hc2 => ?_)
      · rw [if_pos hc2] at h
        refine fr_iinc (q := 95) (v := (x4 + (1 : Int32))) F dX7_enough_92 rfl rfl rfl (by decide) rfl ?_
        refine fr_goto (tgt := 64) F dX7_enough_95 (by decide) ?_
        exact fr_wj (ih _ _ _ _ h) ⟨rfl, ⟨rfl, ⟨rfl, ⟨rfl, trivial⟩⟩⟩⟩
      · rw [if_neg hc2] at h
        refine fr_iload (q := 91) F dX7_enough_89 rfl rfl ?_
        obtain ⟨rfl, rfl⟩ := Prod.mk.inj (Option.some.inj h)
        exact fr_iret F E rfl dX7_enough_91
theorem tX7_enough {l : Launch} {G : fr_G} {u0 : fr_N} {a1 : Int32} {a2 : Int32} {n0 : fr_N} {rz : Int32} {nz : fr_N} (h : fX7_enough a1 a2 n0 = some (rz, nz)) : fr_Met l G YX7_enough [.ref 0, .int a1, .int a2] (n0, u0) (some (.int rz)) (nz, u0) := by
  refine fr_met (pad := List.replicate 2 none) (by decide) (Nat.le_of_ble_eq_true rfl) (fun _ h => List.eq_of_mem_replicate h) ⟨rfl, rfl⟩ (fun K F hG hL E => ?_)
  subst hG; subst hL
  rw [fX7_enough] at h
  show fr_V YX7_enough K 0 [some (.ref 0), some (.int a1), some (.int a2), none, none] [] (n0, u0)
  refine fr_aload_n (q := 1) F dX7_enough_0 rfl rfl ?_
  refine fr_gfR (q := 4) (j := 3) F dX7_enough_1 rfl faRX7_36 (by decide) rfl rfl ?_
  refine fr_gfI (q := 7) (x := (n0 3 0)) F dX7_enough_4 rfl faRX7_128 (by decide) rfl rfl rfl ?_
  refine fr_if_ne (q := 10) (tgt := 13) F dX7_enough_7 (by decide) rfl (fun hc3 => ?_) (fun hc3 => ?_)
  · rw [if_neg hc3] at h
    refine fr_iload_n (q := 14) F dX7_enough_13 rfl rfl ?_
    obtain ⟨r4, hr5, h⟩ := fr_bd_some h
    refine fr_callS (q := 17) (M' := (n0, u0)) (rest := []) (st' := [.int (fr_b r4)]) F dX7_enough_14 rfl (tX7_isYear hr5) mlRX7_153 msX7_isYear ⟨Nat.le_of_ble_eq_true rfl, Nat.le_of_ble_eq_true rfl⟩ rfl rfl (Nat.le_of_ble_eq_true rfl) rfl ?_
    refine fr_if_eqb (q := 20) (tgt := 31) F dX7_enough_17 (by decide) rfl (fun hc6 => ?_) (fun hc6 => ?_)
    · rw [if_neg hc6] at h
      refine fr_ldc (q := 33) F dX7_enough_31 rfl kcRX7_72 ?_
      obtain ⟨rfl, rfl⟩ := Prod.mk.inj (Option.some.inj h)
      exact fr_iret F E rfl dX7_enough_33
    · rw [if_pos hc6] at h
      refine fr_iload_n (q := 21) F dX7_enough_20 rfl rfl ?_
      refine fr_iconst (q := 22) (v := 1) F dX7_enough_21 rfl (by decide) ?_
      refine fr_sipush (q := 25) (v := 400) F dX7_enough_22 rfl (by decide) ?_
      obtain ⟨r7, hr8, h⟩ := fr_bd_some h
      refine fr_callS (q := 28) (M' := (n0, u0)) (rest := []) (st' := [.int (fr_b r7)]) F dX7_enough_25 rfl (tX7_within hr8) mlRX7_68 msX7_within ⟨Nat.le_of_ble_eq_true rfl, Nat.le_of_ble_eq_true rfl⟩ rfl rfl (Nat.le_of_ble_eq_true rfl) rfl ?_
      refine fr_if_neb (q := 31) (tgt := 34) F dX7_enough_28 (by decide) rfl (fun hc9 => ?_) (fun hc9 => ?_)
      · rw [if_pos hc9] at h
        refine fr_aload_n (q := 35) F dX7_enough_34 rfl rfl ?_
        refine fr_gfR (q := 38) (j := 11) F dX7_enough_35 rfl faRX7_51 (by decide) rfl rfl ?_
        refine fr_iload_n (q := 39) F dX7_enough_38 rfl rfl ?_
        refine fr_iconst (q := 40) (v := (-1)) F dX7_enough_39 rfl (by decide) ?_
        obtain ⟨n12, hr11, h⟩ := fr_bd_some h
        refine fr_callV (q := 43) (M' := (n12, u0)) (rest := []) (st' := []) F dX7_enough_40 rfl (tX3_lay hr11) mlRX7_156 msX3_lay ⟨Nat.le_of_ble_eq_true rfl, Nat.le_of_ble_eq_true rfl⟩ (by decide) rfl rfl rfl (Nat.le_of_ble_eq_true rfl) rfl ?_
        refine fr_aload_n (q := 44) F dX7_enough_43 rfl rfl ?_
        refine fr_gfR (q := 47) (j := 11) F dX7_enough_44 rfl faRX7_51 (by decide) rfl rfl ?_
        refine fr_aload_n (q := 48) F dX7_enough_47 rfl rfl ?_
        refine fr_gfR (q := 51) (j := 11) F dX7_enough_48 rfl faRX7_51 (by decide) rfl rfl ?_
        refine fr_gfR (q := 54) (j := 12) F dX7_enough_51 rfl faRX7_160 (by decide) rfl rfl ?_
        refine fr_gfI (q := 57) (x := (n12 12 0)) F dX7_enough_54 rfl faRX7_164 (by decide) rfl rfl rfl ?_
        obtain ⟨r13, hr14, h⟩ := fr_bd_some h
        refine fr_callV (q := 60) (M' := (n12, u0)) (rest := []) (st' := [.int r13]) F dX7_enough_57 rfl (tX3_readingDays hr14) mlRX7_230 msX3_readingDays ⟨Nat.le_of_ble_eq_true rfl, Nat.le_of_ble_eq_true rfl⟩ (by decide) rfl rfl rfl (Nat.le_of_ble_eq_true rfl) rfl ?_
        refine fr_istore_n (q := 61) F dX7_enough_60 rfl (by decide) rfl ?_
        refine fr_iconst (q := 62) (v := 1) F dX7_enough_61 rfl (by decide) ?_
        refine fr_istore (q := 64) F dX7_enough_62 rfl (by decide) rfl ?_
        exact fr_wj (tX7_enough_64 F E _ _ _ _ _ h) ⟨rfl, ⟨rfl, ⟨rfl, ⟨rfl, trivial⟩⟩⟩⟩
      · rw [if_neg hc9] at h
        refine fr_ldc (q := 33) F dX7_enough_31 rfl kcRX7_72 ?_
        obtain ⟨rfl, rfl⟩ := Prod.mk.inj (Option.some.inj h)
        exact fr_iret F E rfl dX7_enough_33
  · rw [if_pos hc3] at h
    refine fr_ldc (q := 12) F dX7_enough_10 rfl kcRX7_105 ?_
    obtain ⟨rfl, rfl⟩ := Prod.mk.inj (Option.some.inj h)
    exact fr_iret F E rfl dX7_enough_12
/-! FeastRotaModel.enough (52, None, None) -/
def fX8_enough_51 : Nat → Int32 → Int32 → Int32 → fr_N → Option (Int32 × fr_N)
  | 0, _, _, _, _ => none
  | k + 1, x2, x3, x4, n0 => if (10 : Int32) ≤ x4 then some ((-1000000 : Int32), n0) else fr_nz (n0 1 3) (if ((x4 * x3) / (n0 1 3)) < x2 then (fX8_enough_51 k) x2 x3 (x4 + (1 : Int32)) n0 else some (x4, n0))
def fX8_enough (a1 : Int32) (a2 : Int32) (n0 : fr_N) : Option (Int32 × fr_N) := fr_bd (fX8_isBook n0) fun r4 => (if r4 = true then fr_bd (fX8_isYear a1) fun r7 => (if r7 = true then fr_bd (fX8_in (Int32.toInt64 a2) (1 : Int64) (400 : Int64)) fun r10 => (if r10 = true then fr_bd (fX8_lays a1 (-1000000 : Int32) n0) fun n15 => (fr_bd (fX8_readings (n15 0 20) n15) fun r16 => (fX8_enough_51 2000 a2 r16 (1 : Int32) n15)) else some ((-1000001 : Int32), n0)) else some ((-1000001 : Int32), n0)) else some ((-1000002 : Int32), n0))
theorem tX8_enough_51 {K : fr_K} {u0 : fr_N} {rz : Int32} {nz : fr_N} (F : fr_F YX8_enough K) (E : fr_R YX8_enough K (some (.int rz)) (u0, nz)) : ∀ (k : Nat) (x2 : Int32) (x3 : Int32) (x4 : Int32) (n0 : fr_N), fX8_enough_51 k x2 x3 x4 n0 = some (rz, nz) → fr_V YX8_enough K 51 [some (.ref 52), none, some (.int x2), some (.int x3), some (.int x4)] [] (u0, n0) := by
  intro k
  induction k with
  | zero =>
    intro x2 x3 x4 n0 h
    rw [fX8_enough_51] at h
    cases h
  | succ k ih =>
    intro x2 x3 x4 n0 h
    rw [fX8_enough_51] at h
    refine fr_iload (q := 53) F dX8_enough_51 rfl rfl ?_
    refine fr_bipush (q := 55) (v := 10) F dX8_enough_53 rfl (by decide) ?_
    refine fr_icmp_ge (q := 58) (tgt := 82) F dX8_enough_55 (by decide) rfl (fun hc1 => ?_) (fun hc1 => ?_)
    · rw [if_pos hc1] at h
      refine fr_ldc (q := 84) F dX8_enough_82 rfl kcRX8_90 ?_
      obtain ⟨rfl, rfl⟩ := Prod.mk.inj (Option.some.inj h)
      exact fr_iret F E rfl dX8_enough_84
    · rw [if_neg hc1] at h
      refine fr_iload (q := 60) F dX8_enough_58 rfl rfl ?_
      refine fr_iload_n (q := 61) F dX8_enough_60 rfl rfl ?_
      refine fr_imul (q := 62) F dX8_enough_61 rfl ?_
      refine fr_aload_n (q := 63) F dX8_enough_62 rfl rfl ?_
      refine fr_gfR (q := 66) (j := 53) F dX8_enough_63 rfl faRX8_7 (by decide) rfl rfl ?_
      refine fr_iconst (q := 67) (v := 3) F dX8_enough_66 rfl (by decide) ?_
      refine fr_ial (q := 68) (x := (n0 1 3)) F dX8_enough_67 rfl (fr_vin rfl) (by decide) rfl rfl ?_
      obtain ⟨hz2, h⟩ := fr_nz_some h
      refine fr_idiv (q := 69) F dX8_enough_68 rfl hz2 ?_
      refine fr_iload_n (q := 70) F dX8_enough_69 rfl rfl ?_
      refine fr_icmp_lt (q := 73) (tgt := 76) F dX8_enough_70 (by decide) rfl (fun hc3 => ?_) (fun hc3 => ?_)
      · rw [if_pos hc3] at h
        refine fr_iinc (q := 79) (v := (x4 + (1 : Int32))) F dX8_enough_76 rfl rfl rfl (by decide) rfl ?_
        refine fr_goto (tgt := 51) F dX8_enough_79 (by decide) ?_
        exact fr_wj (ih _ _ _ _ h) ⟨rfl, ⟨rfl, ⟨rfl, ⟨rfl, trivial⟩⟩⟩⟩
      · rw [if_neg hc3] at h
        refine fr_iload (q := 75) F dX8_enough_73 rfl rfl ?_
        obtain ⟨rfl, rfl⟩ := Prod.mk.inj (Option.some.inj h)
        exact fr_iret F E rfl dX8_enough_75
theorem tX8_enough {l : Launch} {G : fr_G} {u0 : fr_N} {a1 : Int32} {a2 : Int32} {n0 : fr_N} {rz : Int32} {nz : fr_N} (h : fX8_enough a1 a2 n0 = some (rz, nz)) : fr_Met l G YX8_enough [.ref 52, .int a1, .int a2] (u0, n0) (some (.int rz)) (u0, nz) := by
  refine fr_met (pad := List.replicate 2 none) (by decide) (Nat.le_of_ble_eq_true rfl) (fun _ h => List.eq_of_mem_replicate h) ⟨rfl, rfl⟩ (fun K F hG hL E => ?_)
  subst hG; subst hL
  rw [fX8_enough] at h
  show fr_V YX8_enough K 0 [some (.ref 52), some (.int a1), some (.int a2), none, none] [] (u0, n0)
  refine fr_aload_n (q := 1) F dX8_enough_0 rfl rfl ?_
  obtain ⟨r4, hr5, h⟩ := fr_bd_some h
  refine fr_callV (q := 4) (M' := (u0, n0)) (rest := []) (st' := [.int (fr_b r4)]) F dX8_enough_1 rfl (tX8_isBook hr5) mlRX8_261 msX8_isBook ⟨Nat.le_of_ble_eq_true rfl, Nat.le_of_ble_eq_true rfl⟩ (by decide) rfl rfl rfl (Nat.le_of_ble_eq_true rfl) rfl ?_
  refine fr_if_neb (q := 7) (tgt := 10) F dX8_enough_4 (by decide) rfl (fun hc6 => ?_) (fun hc6 => ?_)
  · rw [if_pos hc6] at h
    refine fr_iload_n (q := 11) F dX8_enough_10 rfl rfl ?_
    obtain ⟨r7, hr8, h⟩ := fr_bd_some h
    refine fr_callS (q := 14) (M' := (u0, n0)) (rest := []) (st' := [.int (fr_b r7)]) F dX8_enough_11 rfl (tX8_isYear hr8) mlRX8_283 msX8_isYear ⟨Nat.le_of_ble_eq_true rfl, Nat.le_of_ble_eq_true rfl⟩ rfl rfl (Nat.le_of_ble_eq_true rfl) rfl ?_
    refine fr_if_eqb (q := 17) (tgt := 29) F dX8_enough_14 (by decide) rfl (fun hc9 => ?_) (fun hc9 => ?_)
    · rw [if_neg hc9] at h
      refine fr_ldc (q := 31) F dX8_enough_29 rfl kcRX8_209 ?_
      obtain ⟨rfl, rfl⟩ := Prod.mk.inj (Option.some.inj h)
      exact fr_iret F E rfl dX8_enough_31
    · rw [if_pos hc9] at h
      refine fr_iload_n (q := 18) F dX8_enough_17 rfl rfl ?_
      refine fr_i2l (q := 19) F dX8_enough_18 rfl ?_
      refine fr_lconst (q := 20) (v := 1) F dX8_enough_19 rfl (by decide) ?_
      refine fr_ldc2 (q := 23) F dX8_enough_20 rfl klRX8_315 ?_
      obtain ⟨r10, hr11, h⟩ := fr_bd_some h
      refine fr_callS (q := 26) (M' := (u0, n0)) (rest := []) (st' := [.int (fr_b r10)]) F dX8_enough_23 rfl (tX8_in hr11) mlRX8_55 msX8_in ⟨Nat.le_of_ble_eq_true rfl, Nat.le_of_ble_eq_true rfl⟩ rfl rfl (Nat.le_of_ble_eq_true rfl) rfl ?_
      refine fr_if_neb (q := 29) (tgt := 32) F dX8_enough_26 (by decide) rfl (fun hc12 => ?_) (fun hc12 => ?_)
      · rw [if_pos hc12] at h
        refine fr_aload_n (q := 33) F dX8_enough_32 rfl rfl ?_
        refine fr_iload_n (q := 34) F dX8_enough_33 rfl rfl ?_
        refine fr_ldc (q := 36) F dX8_enough_34 rfl kcRX8_90 ?_
        obtain ⟨n15, hr14, h⟩ := fr_bd_some h
        refine fr_callV (q := 39) (M' := (u0, n15)) (rest := []) (st' := []) F dX8_enough_36 rfl (tX8_lays hr14) mlRX8_288 msX8_lays ⟨Nat.le_of_ble_eq_true rfl, Nat.le_of_ble_eq_true rfl⟩ (by decide) rfl rfl rfl (Nat.le_of_ble_eq_true rfl) rfl ?_
        refine fr_aload_n (q := 40) F dX8_enough_39 rfl rfl ?_
        refine fr_aload_n (q := 41) F dX8_enough_40 rfl rfl ?_
        refine fr_gfI (q := 44) (x := (n15 0 20)) F dX8_enough_41 rfl faRX8_71 (by decide) rfl rfl rfl ?_
        obtain ⟨r16, hr17, h⟩ := fr_bd_some h
        refine fr_callV (q := 47) (M' := (u0, n15)) (rest := []) (st' := [.int r16]) F dX8_enough_44 rfl (tX8_readings hr17) mlRX8_307 msX8_readings ⟨Nat.le_of_ble_eq_true rfl, Nat.le_of_ble_eq_true rfl⟩ (by decide) rfl rfl rfl (Nat.le_of_ble_eq_true rfl) rfl ?_
        refine fr_istore_n (q := 48) F dX8_enough_47 rfl (by decide) rfl ?_
        refine fr_iconst (q := 49) (v := 1) F dX8_enough_48 rfl (by decide) ?_
        refine fr_istore (q := 51) F dX8_enough_49 rfl (by decide) rfl ?_
        exact fr_wj (tX8_enough_51 F E _ _ _ _ _ h) ⟨rfl, ⟨rfl, ⟨rfl, ⟨rfl, trivial⟩⟩⟩⟩
      · rw [if_neg hc12] at h
        refine fr_ldc (q := 31) F dX8_enough_29 rfl kcRX8_209 ?_
        obtain ⟨rfl, rfl⟩ := Prod.mk.inj (Option.some.inj h)
        exact fr_iret F E rfl dX8_enough_31
  · rw [if_neg hc6] at h
    refine fr_ldc (q := 9) F dX8_enough_7 rfl kcRX8_238 ?_
    obtain ⟨rfl, rfl⟩ := Prod.mk.inj (Option.some.inj h)
    exact fr_iret F E rfl dX8_enough_9
/-! FeastRota.best (0, None) -/
def fX7_best_90 (k44 : Int32 → Int32 → Int32 → fr_N → Option (Int32 × fr_N)) (x4 : Int32) (n0 : fr_N) : Option (Int32 × fr_N) := fr_bd (fX5_gap n0) fun r1 => (k44 x4 r1 (x4 + (1 : Int32)) n0)
def fX7_best_44 : Nat → Int32 → Int32 → Int32 → fr_N → Option (Int32 × fr_N)
  | 0, _, _, _, _ => none
  | k + 1, x2, x3, x4, n0 => if (fr_tb2 5) < x4 then some (x2, n0) else fr_bd (fX5_go x4 (n0 12 0) n0) fun n6 => (if x2 = (-1000000 : Int32) then fX7_best_90 (fX7_best_44 k) x4 n6 else fr_bd (fX5_gap n6) fun r8 => (if x3 ≤ r8 then (fX7_best_44 k) x2 x3 (x4 + (1 : Int32)) n6 else fX7_best_90 (fX7_best_44 k) x4 n6))
def fX7_best (a1 : Int32) (n0 : fr_N) : Option (Int32 × fr_N) := if (n0 3 0) = 0 then some ((-1000002 : Int32), n0) else fr_bd (fX7_isYear a1) fun r12 => (if r12 = true then fr_bd (fX3_lay a1 (-1 : Int32) n0) fun n17 => (fX7_best_44 2000 (-1000000 : Int32) (0 : Int32) (fr_tb1 5) n17) else some ((-1000001 : Int32), n0))
theorem tX7_best_90 {K : fr_K} {k44 : Int32 → Int32 → Int32 → fr_N → Option (Int32 × fr_N)} {u0 : fr_N} {rz : Int32} {nz : fr_N} (F : fr_F YX7_best K) (E : fr_R YX7_best K (some (.int rz)) (nz, u0)) (H44 : ∀ (y2 : Int32) (y3 : Int32) (y4 : Int32) (n : fr_N), k44 y2 y3 y4 n = some (rz, nz) → fr_V YX7_best K 44 [some (.ref 0), none, some (.int y2), some (.int y3), some (.int y4)] [] (n, u0)) {x4 : Int32} {n0 : fr_N} (h : fX7_best_90 k44 x4 n0 = some (rz, nz)) : fr_V YX7_best K 90 [some (.ref 0), none, none, none, some (.int x4)] [] (n0, u0) := by
  rw [fX7_best_90] at h
  refine fr_aload_n (q := 91) F dX7_best_90 rfl rfl ?_
  refine fr_gfR (q := 94) (j := 48) F dX7_best_91 rfl faRX7_60 (by decide) rfl rfl ?_
  obtain ⟨r1, hr2, h⟩ := fr_bd_some h
  refine fr_callV (q := 97) (M' := (n0, u0)) (rest := []) (st' := [.int r1]) F dX7_best_94 rfl (tX5_gap hr2) mlRX7_246 msX5_gap ⟨Nat.le_of_ble_eq_true rfl, Nat.le_of_ble_eq_true rfl⟩ (by decide) rfl rfl rfl (Nat.le_of_ble_eq_true rfl) rfl ?_
  refine fr_istore_n (q := 98) F dX7_best_97 rfl (by decide) rfl ?_
  refine fr_iload (q := 100) F dX7_best_98 rfl rfl ?_
  refine fr_istore_n (q := 101) F dX7_best_100 rfl (by decide) rfl ?_
  refine fr_iinc (q := 104) (v := (x4 + (1 : Int32))) F dX7_best_101 rfl rfl rfl (by decide) rfl ?_
  refine fr_goto (tgt := 44) F dX7_best_104 (by decide) ?_
  exact fr_wj (H44 _ _ _ _ h) ⟨rfl, ⟨rfl, ⟨rfl, ⟨rfl, trivial⟩⟩⟩⟩
theorem tX7_best_44 {K : fr_K} {u0 : fr_N} {rz : Int32} {nz : fr_N} (F : fr_F YX7_best K) (E : fr_R YX7_best K (some (.int rz)) (nz, u0)) : ∀ (k : Nat) (x2 : Int32) (x3 : Int32) (x4 : Int32) (n0 : fr_N), fX7_best_44 k x2 x3 x4 n0 = some (rz, nz) → fr_V YX7_best K 44 [some (.ref 0), none, some (.int x2), some (.int x3), some (.int x4)] [] (n0, u0) := by
  intro k
  induction k with
  | zero =>
    intro x2 x3 x4 n0 h
    rw [fX7_best_44] at h
    cases h
  | succ k ih =>
    intro x2 x3 x4 n0 h
    rw [fX7_best_44] at h
    refine fr_iload (q := 46) F dX7_best_44 rfl rfl ?_
    refine fr_gs (q := 49) (k := 1) (j := 68) F dX7_best_46 rfl (by decide) slRX7_138 rfl ?_
    refine fr_iconst (q := 50) (v := 5) F dX7_best_49 rfl (by decide) ?_
    refine fr_tal (q := 51) (k := 1) (x := (fr_tb2 5)) F dX7_best_50 rfl (fr_vin rfl) (by decide) rfl rfl ?_
    refine fr_icmp_gt (q := 54) (tgt := 107) F dX7_best_51 (by decide) rfl (fun hc3 => ?_) (fun hc3 => ?_)
    · rw [if_pos hc3] at h
      refine fr_iload_n (q := 108) F dX7_best_107 rfl rfl ?_
      obtain ⟨rfl, rfl⟩ := Prod.mk.inj (Option.some.inj h)
      exact fr_iret F E rfl dX7_best_108
    · rw [if_neg hc3] at h
      refine fr_aload_n (q := 55) F dX7_best_54 rfl rfl ?_
      refine fr_gfR (q := 58) (j := 48) F dX7_best_55 rfl faRX7_60 (by decide) rfl rfl ?_
      refine fr_iload (q := 60) F dX7_best_58 rfl rfl ?_
      refine fr_aload_n (q := 61) F dX7_best_60 rfl rfl ?_
      refine fr_gfR (q := 64) (j := 11) F dX7_best_61 rfl faRX7_51 (by decide) rfl rfl ?_
      refine fr_gfR (q := 67) (j := 12) F dX7_best_64 rfl faRX7_160 (by decide) rfl rfl ?_
      refine fr_gfI (q := 70) (x := (n0 12 0)) F dX7_best_67 rfl faRX7_164 (by decide) rfl rfl rfl ?_
      obtain ⟨n6, hr5, h⟩ := fr_bd_some h
      refine fr_callV (q := 73) (M' := (n6, u0)) (rest := []) (st' := []) F dX7_best_70 rfl (tX5_go hr5) mlRX7_187 msX5_go ⟨Nat.le_of_ble_eq_true rfl, Nat.le_of_ble_eq_true rfl⟩ (by decide) rfl rfl rfl (Nat.le_of_ble_eq_true rfl) rfl ?_
      refine fr_iload_n (q := 74) F dX7_best_73 rfl rfl ?_
      refine fr_ldc (q := 76) F dX7_best_74 rfl kcRX7_203 ?_
      refine fr_icmp_eq (q := 79) (tgt := 90) F dX7_best_76 (by decide) rfl (fun hc7 => ?_) (fun hc7 => ?_)
      · rw [if_pos hc7] at h
        exact fr_wj (tX7_best_90 F E ih h) ⟨rfl, ⟨rfl, trivial⟩⟩
      · rw [if_neg hc7] at h
        refine fr_aload_n (q := 80) F dX7_best_79 rfl rfl ?_
        refine fr_gfR (q := 83) (j := 48) F dX7_best_80 rfl faRX7_60 (by decide) rfl rfl ?_
        obtain ⟨r8, hr9, h⟩ := fr_bd_some h
        refine fr_callV (q := 86) (M' := (n6, u0)) (rest := []) (st' := [.int r8]) F dX7_best_83 rfl (tX5_gap hr9) mlRX7_246 msX5_gap ⟨Nat.le_of_ble_eq_true rfl, Nat.le_of_ble_eq_true rfl⟩ (by decide) rfl rfl rfl (Nat.le_of_ble_eq_true rfl) rfl ?_
        refine fr_iload_n (q := 87) F dX7_best_86 rfl rfl ?_
        refine fr_icmp_ge (q := 90) (tgt := 101) F dX7_best_87 (by decide) rfl (fun hc10 => ?_) (fun hc10 => ?_)
        · rw [if_pos hc10] at h
          refine fr_iinc (q := 104) (v := (x4 + (1 : Int32))) F dX7_best_101 rfl rfl rfl (by decide) rfl ?_
          refine fr_goto (tgt := 44) F dX7_best_104 (by decide) ?_
          exact fr_wj (ih _ _ _ _ h) ⟨rfl, ⟨rfl, ⟨rfl, ⟨rfl, trivial⟩⟩⟩⟩
        · rw [if_neg hc10] at h
          exact fr_wj (tX7_best_90 F E ih h) ⟨rfl, ⟨rfl, trivial⟩⟩
theorem tX7_best {l : Launch} {G : fr_G} {u0 : fr_N} {a1 : Int32} {n0 : fr_N} {rz : Int32} {nz : fr_N} (h : fX7_best a1 n0 = some (rz, nz)) : fr_Met l G YX7_best [.ref 0, .int a1] (n0, u0) (some (.int rz)) (nz, u0) := by
  refine fr_met (pad := List.replicate 3 none) (by decide) (Nat.le_of_ble_eq_true rfl) (fun _ h => List.eq_of_mem_replicate h) ⟨rfl, rfl⟩ (fun K F hG hL E => ?_)
  subst hG; subst hL
  rw [fX7_best] at h
  show fr_V YX7_best K 0 [some (.ref 0), some (.int a1), none, none, none] [] (n0, u0)
  refine fr_aload_n (q := 1) F dX7_best_0 rfl rfl ?_
  refine fr_gfR (q := 4) (j := 3) F dX7_best_1 rfl faRX7_36 (by decide) rfl rfl ?_
  refine fr_gfI (q := 7) (x := (n0 3 0)) F dX7_best_4 rfl faRX7_128 (by decide) rfl rfl rfl ?_
  refine fr_if_ne (q := 10) (tgt := 13) F dX7_best_7 (by decide) rfl (fun hc11 => ?_) (fun hc11 => ?_)
  · rw [if_neg hc11] at h
    refine fr_iload_n (q := 14) F dX7_best_13 rfl rfl ?_
    obtain ⟨r12, hr13, h⟩ := fr_bd_some h
    refine fr_callS (q := 17) (M' := (n0, u0)) (rest := []) (st' := [.int (fr_b r12)]) F dX7_best_14 rfl (tX7_isYear hr13) mlRX7_153 msX7_isYear ⟨Nat.le_of_ble_eq_true rfl, Nat.le_of_ble_eq_true rfl⟩ rfl rfl (Nat.le_of_ble_eq_true rfl) rfl ?_
    refine fr_if_neb (q := 20) (tgt := 23) F dX7_best_17 (by decide) rfl (fun hc14 => ?_) (fun hc14 => ?_)
    · rw [if_pos hc14] at h
      refine fr_aload_n (q := 24) F dX7_best_23 rfl rfl ?_
      refine fr_gfR (q := 27) (j := 11) F dX7_best_24 rfl faRX7_51 (by decide) rfl rfl ?_
      refine fr_iload_n (q := 28) F dX7_best_27 rfl rfl ?_
      refine fr_iconst (q := 29) (v := (-1)) F dX7_best_28 rfl (by decide) ?_
      obtain ⟨n17, hr16, h⟩ := fr_bd_some h
      refine fr_callV (q := 32) (M' := (n17, u0)) (rest := []) (st' := []) F dX7_best_29 rfl (tX3_lay hr16) mlRX7_156 msX3_lay ⟨Nat.le_of_ble_eq_true rfl, Nat.le_of_ble_eq_true rfl⟩ (by decide) rfl rfl rfl (Nat.le_of_ble_eq_true rfl) rfl ?_
      refine fr_ldc (q := 34) F dX7_best_32 rfl kcRX7_203 ?_
      refine fr_istore_n (q := 35) F dX7_best_34 rfl (by decide) rfl ?_
      refine fr_iconst (q := 36) (v := 0) F dX7_best_35 rfl (by decide) ?_
      refine fr_istore_n (q := 37) F dX7_best_36 rfl (by decide) rfl ?_
      refine fr_gs (q := 40) (k := 0) (j := 67) F dX7_best_37 rfl (by decide) slRX7_135 rfl ?_
      refine fr_iconst (q := 41) (v := 5) F dX7_best_40 rfl (by decide) ?_
      refine fr_tal (q := 42) (k := 0) (x := (fr_tb1 5)) F dX7_best_41 rfl (fr_vin rfl) (by decide) rfl rfl ?_
      refine fr_istore (q := 44) F dX7_best_42 rfl (by decide) rfl ?_
      exact fr_wj (tX7_best_44 F E _ _ _ _ _ h) ⟨rfl, ⟨rfl, ⟨rfl, ⟨rfl, trivial⟩⟩⟩⟩
    · rw [if_neg hc14] at h
      refine fr_ldc (q := 22) F dX7_best_20 rfl kcRX7_72 ?_
      obtain ⟨rfl, rfl⟩ := Prod.mk.inj (Option.some.inj h)
      exact fr_iret F E rfl dX7_best_22
  · rw [if_pos hc11] at h
    refine fr_ldc (q := 12) F dX7_best_10 rfl kcRX7_105 ?_
    obtain ⟨rfl, rfl⟩ := Prod.mk.inj (Option.some.inj h)
    exact fr_iret F E rfl dX7_best_12
/-! FeastRotaModel.best (52, None) -/
def fX8_best_64 (k38 : Int32 → Int32 → Int32 → fr_N → Option (Int32 × fr_N)) (x3 : Int32) (x4 : Int32) (x5 : Int32) (s0 : Int32) (n0 : fr_N) : Option (Int32 × fr_N) := if x3 ≤ x5 then k38 s0 x3 (x4 + (1 : Int32)) n0 else k38 s0 x5 (x4 + (1 : Int32)) n0
def fX8_best_38 : Nat → Int32 → Int32 → Int32 → fr_N → Option (Int32 × fr_N)
  | 0, _, _, _, _ => none
  | k + 1, x2, x3, x4, n0 => if (3 : Int32) ≤ x4 then some (x2, n0) else fr_bd2 (fX8_unfair x4 n0) fun r3 n5 => (if x3 ≤ r3 then fX8_best_64 (fX8_best_38 k) x3 x4 r3 x2 n5 else fX8_best_64 (fX8_best_38 k) x3 x4 r3 x4 n5)
def fX8_best (a1 : Int32) (n0 : fr_N) : Option (Int32 × fr_N) := fr_bd (fX8_isBook n0) fun r7 => (if r7 = true then fr_bd (fX8_isYear a1) fun r10 => (if r10 = true then fr_bd (fX8_lays a1 (-1000000 : Int32) n0) fun n15 => (fr_bd2 (fX8_unfair (0 : Int32) n15) fun r16 n18 => (fX8_best_38 2000 (0 : Int32) r16 (1 : Int32) n18)) else some ((-1000001 : Int32), n0)) else some ((-1000002 : Int32), n0))
theorem tX8_best_64 {K : fr_K} {k38 : Int32 → Int32 → Int32 → fr_N → Option (Int32 × fr_N)} {u0 : fr_N} {rz : Int32} {nz : fr_N} (F : fr_F YX8_best K) (E : fr_R YX8_best K (some (.int rz)) (u0, nz)) (H38 : ∀ (y2 : Int32) (y3 : Int32) (y4 : Int32) (n : fr_N), k38 y2 y3 y4 n = some (rz, nz) → fr_V YX8_best K 38 [some (.ref 52), none, some (.int y2), some (.int y3), some (.int y4), none] [] (u0, n)) {x3 : Int32} {x4 : Int32} {x5 : Int32} {s0 : Int32} {n0 : fr_N} (h : fX8_best_64 k38 x3 x4 x5 s0 n0 = some (rz, nz)) : fr_V YX8_best K 64 [some (.ref 52), none, none, some (.int x3), some (.int x4), some (.int x5)] [.int s0] (u0, n0) := by
  rw [fX8_best_64] at h
  refine fr_istore_n (q := 65) F dX8_best_64 rfl (by decide) rfl ?_
  refine fr_iload (q := 67) F dX8_best_65 rfl rfl ?_
  refine fr_iload_n (q := 68) F dX8_best_67 rfl rfl ?_
  refine fr_icmp_ge (q := 71) (tgt := 76) F dX8_best_68 (by decide) rfl (fun hc1 => ?_) (fun hc1 => ?_)
  · rw [if_pos hc1] at h
    refine fr_iload_n (q := 77) F dX8_best_76 rfl rfl ?_
    refine fr_istore_n (q := 78) F dX8_best_77 rfl (by decide) rfl ?_
    refine fr_iinc (q := 81) (v := (x4 + (1 : Int32))) F dX8_best_78 rfl rfl rfl (by decide) rfl ?_
    refine fr_goto (tgt := 38) F dX8_best_81 (by decide) ?_
    exact fr_wj (H38 _ _ _ _ h) ⟨rfl, ⟨rfl, ⟨rfl, ⟨rfl, trivial⟩⟩⟩⟩
  · rw [if_neg hc1] at h
    refine fr_iload (q := 73) F dX8_best_71 rfl rfl ?_
    refine fr_goto (tgt := 77) F dX8_best_73 (by decide) ?_
    refine fr_istore_n (q := 78) F dX8_best_77 rfl (by decide) rfl ?_
    refine fr_iinc (q := 81) (v := (x4 + (1 : Int32))) F dX8_best_78 rfl rfl rfl (by decide) rfl ?_
    refine fr_goto (tgt := 38) F dX8_best_81 (by decide) ?_
    exact fr_wj (H38 _ _ _ _ h) ⟨rfl, ⟨rfl, ⟨rfl, ⟨rfl, trivial⟩⟩⟩⟩
theorem tX8_best_38 {K : fr_K} {u0 : fr_N} {rz : Int32} {nz : fr_N} (F : fr_F YX8_best K) (E : fr_R YX8_best K (some (.int rz)) (u0, nz)) : ∀ (k : Nat) (x2 : Int32) (x3 : Int32) (x4 : Int32) (n0 : fr_N), fX8_best_38 k x2 x3 x4 n0 = some (rz, nz) → fr_V YX8_best K 38 [some (.ref 52), none, some (.int x2), some (.int x3), some (.int x4), none] [] (u0, n0) := by
  intro k
  induction k with
  | zero =>
    intro x2 x3 x4 n0 h
    rw [fX8_best_38] at h
    cases h
  | succ k ih =>
    intro x2 x3 x4 n0 h
    rw [fX8_best_38] at h
    refine fr_iload (q := 40) F dX8_best_38 rfl rfl ?_
    refine fr_iconst (q := 41) (v := 3) F dX8_best_40 rfl (by decide) ?_
    refine fr_icmp_ge (q := 44) (tgt := 84) F dX8_best_41 (by decide) rfl (fun hc2 => ?_) (fun hc2 => ?_)
    · rw [if_pos hc2] at h
      refine fr_iload_n (q := 85) F dX8_best_84 rfl rfl ?_
      obtain ⟨rfl, rfl⟩ := Prod.mk.inj (Option.some.inj h)
      exact fr_iret F E rfl dX8_best_85
    · rw [if_neg hc2] at h
      refine fr_aload_n (q := 45) F dX8_best_44 rfl rfl ?_
      refine fr_iload (q := 47) F dX8_best_45 rfl rfl ?_
      obtain ⟨r3, n5, hr4, h⟩ := fr_bd2_some h
      refine fr_callV (q := 50) (M' := (u0, n5)) (rest := []) (st' := [.int r3]) F dX8_best_47 rfl (tX8_unfair hr4) mlRX8_310 msX8_unfair ⟨Nat.le_of_ble_eq_true rfl, Nat.le_of_ble_eq_true rfl⟩ (by decide) rfl rfl rfl (Nat.le_of_ble_eq_true rfl) rfl ?_
      refine fr_istore (q := 52) F dX8_best_50 rfl (by decide) rfl ?_
      refine fr_iload (q := 54) F dX8_best_52 rfl rfl ?_
      refine fr_iload_n (q := 55) F dX8_best_54 rfl rfl ?_
      refine fr_icmp_ge (q := 58) (tgt := 63) F dX8_best_55 (by decide) rfl (fun hc6 => ?_) (fun hc6 => ?_)
      · rw [if_pos hc6] at h
        refine fr_iload_n (q := 64) F dX8_best_63 rfl rfl ?_
        exact fr_wj (tX8_best_64 F E ih h) ⟨rfl, ⟨rfl, ⟨rfl, ⟨rfl, trivial⟩⟩⟩⟩
      · rw [if_neg hc6] at h
        refine fr_iload (q := 60) F dX8_best_58 rfl rfl ?_
        refine fr_goto (tgt := 64) F dX8_best_60 (by decide) ?_
        exact fr_wj (tX8_best_64 F E ih h) ⟨rfl, ⟨rfl, ⟨rfl, ⟨rfl, trivial⟩⟩⟩⟩
theorem tX8_best {l : Launch} {G : fr_G} {u0 : fr_N} {a1 : Int32} {n0 : fr_N} {rz : Int32} {nz : fr_N} (h : fX8_best a1 n0 = some (rz, nz)) : fr_Met l G YX8_best [.ref 52, .int a1] (u0, n0) (some (.int rz)) (u0, nz) := by
  refine fr_met (pad := List.replicate 4 none) (by decide) (Nat.le_of_ble_eq_true rfl) (fun _ h => List.eq_of_mem_replicate h) ⟨rfl, rfl⟩ (fun K F hG hL E => ?_)
  subst hG; subst hL
  rw [fX8_best] at h
  show fr_V YX8_best K 0 [some (.ref 52), some (.int a1), none, none, none, none] [] (u0, n0)
  refine fr_aload_n (q := 1) F dX8_best_0 rfl rfl ?_
  obtain ⟨r7, hr8, h⟩ := fr_bd_some h
  refine fr_callV (q := 4) (M' := (u0, n0)) (rest := []) (st' := [.int (fr_b r7)]) F dX8_best_1 rfl (tX8_isBook hr8) mlRX8_261 msX8_isBook ⟨Nat.le_of_ble_eq_true rfl, Nat.le_of_ble_eq_true rfl⟩ (by decide) rfl rfl rfl (Nat.le_of_ble_eq_true rfl) rfl ?_
  refine fr_if_neb (q := 7) (tgt := 10) F dX8_best_4 (by decide) rfl (fun hc9 => ?_) (fun hc9 => ?_)
  · rw [if_pos hc9] at h
    refine fr_iload_n (q := 11) F dX8_best_10 rfl rfl ?_
    obtain ⟨r10, hr11, h⟩ := fr_bd_some h
    refine fr_callS (q := 14) (M' := (u0, n0)) (rest := []) (st' := [.int (fr_b r10)]) F dX8_best_11 rfl (tX8_isYear hr11) mlRX8_283 msX8_isYear ⟨Nat.le_of_ble_eq_true rfl, Nat.le_of_ble_eq_true rfl⟩ rfl rfl (Nat.le_of_ble_eq_true rfl) rfl ?_
    refine fr_if_neb (q := 17) (tgt := 20) F dX8_best_14 (by decide) rfl (fun hc12 => ?_) (fun hc12 => ?_)
    · rw [if_pos hc12] at h
      refine fr_aload_n (q := 21) F dX8_best_20 rfl rfl ?_
      refine fr_iload_n (q := 22) F dX8_best_21 rfl rfl ?_
      refine fr_ldc (q := 24) F dX8_best_22 rfl kcRX8_90 ?_
      obtain ⟨n15, hr14, h⟩ := fr_bd_some h
      refine fr_callV (q := 27) (M' := (u0, n15)) (rest := []) (st' := []) F dX8_best_24 rfl (tX8_lays hr14) mlRX8_288 msX8_lays ⟨Nat.le_of_ble_eq_true rfl, Nat.le_of_ble_eq_true rfl⟩ (by decide) rfl rfl rfl (Nat.le_of_ble_eq_true rfl) rfl ?_
      refine fr_iconst (q := 28) (v := 0) F dX8_best_27 rfl (by decide) ?_
      refine fr_istore_n (q := 29) F dX8_best_28 rfl (by decide) rfl ?_
      refine fr_aload_n (q := 30) F dX8_best_29 rfl rfl ?_
      refine fr_iconst (q := 31) (v := 0) F dX8_best_30 rfl (by decide) ?_
      obtain ⟨r16, n18, hr17, h⟩ := fr_bd2_some h
      refine fr_callV (q := 34) (M' := (u0, n18)) (rest := []) (st' := [.int r16]) F dX8_best_31 rfl (tX8_unfair hr17) mlRX8_310 msX8_unfair ⟨Nat.le_of_ble_eq_true rfl, Nat.le_of_ble_eq_true rfl⟩ (by decide) rfl rfl rfl (Nat.le_of_ble_eq_true rfl) rfl ?_
      refine fr_istore_n (q := 35) F dX8_best_34 rfl (by decide) rfl ?_
      refine fr_iconst (q := 36) (v := 1) F dX8_best_35 rfl (by decide) ?_
      refine fr_istore (q := 38) F dX8_best_36 rfl (by decide) rfl ?_
      exact fr_wj (tX8_best_38 F E _ _ _ _ _ h) ⟨rfl, ⟨rfl, ⟨rfl, ⟨rfl, trivial⟩⟩⟩⟩
    · rw [if_neg hc12] at h
      refine fr_ldc (q := 19) F dX8_best_17 rfl kcRX8_209 ?_
      obtain ⟨rfl, rfl⟩ := Prod.mk.inj (Option.some.inj h)
      exact fr_iret F E rfl dX8_best_19
  · rw [if_neg hc9] at h
    refine fr_ldc (q := 9) F dX8_best_7 rfl kcRX8_238 ?_
    obtain ⟨rfl, rfl⟩ := Prod.mk.inj (Option.some.inj h)
    exact fr_iret F E rfl dX8_best_9
/-! FeastRota.bars (0, None, None) -/
def fX7_bars_62 : Nat → Int32 → Int32 → Int32 → Int32 → fr_N → Option (Int32 × fr_N)
  | 0, _, _, _, _, _ => none
  | k + 1, x1, x2, x3, x4, n0 => if (n0 3 1) ≤ x4 then some (x3, n0) else fr_bd (fX3_lay x2 x4 n0) fun n4 => (fr_ck x1 12 (if (n4 14 (Int32.toNatClampNeg x1)) = (1 : Int32) then (fX7_bars_62 k) x1 x2 (x3 ||| ((1 : Int32) <<< (x4 &&& 31))) (x4 + (1 : Int32)) n4 else (fX7_bars_62 k) x1 x2 x3 (x4 + (1 : Int32)) n4))
def fX7_bars (a1 : Int32) (a2 : Int32) (n0 : fr_N) : Option (Int32 × fr_N) := fr_bd (fX1_hasFeast_3 a1 n0) fun r7 => (if r7 = true then fr_bd (fX7_isYear a2) fun r10 => (if r10 = true then fr_bd (fX3_lay a2 (-1 : Int32) n0) fun n15 => (fr_ck a1 12 (if (n15 14 (Int32.toNatClampNeg a1)) = (1 : Int32) then some ((0 : Int32), n15) else fr_ck a1 12 (if (n15 14 (Int32.toNatClampNeg a1)) = 0 then some ((0 : Int32), n15) else fX7_bars_62 2000 a1 a2 (0 : Int32) (0 : Int32) n15))) else some ((-1000001 : Int32), n0)) else some ((-1000001 : Int32), n0))
theorem tX7_bars_62 {K : fr_K} {u0 : fr_N} {rz : Int32} {nz : fr_N} (F : fr_F YX7_bars K) (E : fr_R YX7_bars K (some (.int rz)) (nz, u0)) : ∀ (k : Nat) (x1 : Int32) (x2 : Int32) (x3 : Int32) (x4 : Int32) (n0 : fr_N), fX7_bars_62 k x1 x2 x3 x4 n0 = some (rz, nz) → fr_V YX7_bars K 62 [some (.ref 0), some (.int x1), some (.int x2), some (.int x3), some (.int x4)] [] (n0, u0) := by
  intro k
  induction k with
  | zero =>
    intro x1 x2 x3 x4 n0 h
    rw [fX7_bars_62] at h
    cases h
  | succ k ih =>
    intro x1 x2 x3 x4 n0 h
    rw [fX7_bars_62] at h
    refine fr_iload (q := 64) F dX7_bars_62 rfl rfl ?_
    refine fr_aload_n (q := 65) F dX7_bars_64 rfl rfl ?_
    refine fr_gfR (q := 68) (j := 3) F dX7_bars_65 rfl faRX7_36 (by decide) rfl rfl ?_
    refine fr_gfI (q := 71) (x := (n0 3 1)) F dX7_bars_68 rfl faRX7_102 (by decide) rfl rfl rfl ?_
    refine fr_icmp_ge (q := 74) (tgt := 110) F dX7_bars_71 (by decide) rfl (fun hc1 => ?_) (fun hc1 => ?_)
    · rw [if_pos hc1] at h
      refine fr_iload_n (q := 111) F dX7_bars_110 rfl rfl ?_
      obtain ⟨rfl, rfl⟩ := Prod.mk.inj (Option.some.inj h)
      exact fr_iret F E rfl dX7_bars_111
    · rw [if_neg hc1] at h
      refine fr_aload_n (q := 75) F dX7_bars_74 rfl rfl ?_
      refine fr_gfR (q := 78) (j := 11) F dX7_bars_75 rfl faRX7_51 (by decide) rfl rfl ?_
      refine fr_iload_n (q := 79) F dX7_bars_78 rfl rfl ?_
      refine fr_iload (q := 81) F dX7_bars_79 rfl rfl ?_
      obtain ⟨n4, hr3, h⟩ := fr_bd_some h
      refine fr_callV (q := 84) (M' := (n4, u0)) (rest := []) (st' := []) F dX7_bars_81 rfl (tX3_lay hr3) mlRX7_156 msX3_lay ⟨Nat.le_of_ble_eq_true rfl, Nat.le_of_ble_eq_true rfl⟩ (by decide) rfl rfl rfl (Nat.le_of_ble_eq_true rfl) rfl ?_
      refine fr_aload_n (q := 85) F dX7_bars_84 rfl rfl ?_
      refine fr_gfR (q := 88) (j := 11) F dX7_bars_85 rfl faRX7_51 (by decide) rfl rfl ?_
      refine fr_gfR (q := 91) (j := 14) F dX7_bars_88 rfl faRX7_216 (by decide) rfl rfl ?_
      refine fr_iload_n (q := 92) F dX7_bars_91 rfl rfl ?_
      obtain ⟨hi5, h⟩ := fr_ck_some h
      refine fr_ial (q := 93) (x := (n4 14 (Int32.toNatClampNeg x1))) F dX7_bars_92 rfl hi5 (by decide) rfl rfl ?_
      refine fr_iconst (q := 94) (v := 1) F dX7_bars_93 rfl (by decide) ?_
      refine fr_icmp_ne (q := 97) (tgt := 104) F dX7_bars_94 (by decide) rfl (fun hc6 => ?_) (fun hc6 => ?_)
      · rw [if_neg hc6] at h
        refine fr_iinc (q := 107) (v := (x4 + (1 : Int32))) F dX7_bars_104 rfl rfl rfl (by decide) rfl ?_
        refine fr_goto (tgt := 62) F dX7_bars_107 (by decide) ?_
        exact fr_wj (ih _ _ _ _ _ h) ⟨rfl, ⟨rfl, ⟨rfl, ⟨rfl, ⟨rfl, trivial⟩⟩⟩⟩⟩
      · rw [if_pos hc6] at h
        refine fr_iload_n (q := 98) F dX7_bars_97 rfl rfl ?_
        refine fr_iconst (q := 99) (v := 1) F dX7_bars_98 rfl (by decide) ?_
        refine fr_iload (q := 101) F dX7_bars_99 rfl rfl ?_
        refine fr_ishl (q := 102) F dX7_bars_101 rfl ?_
        refine fr_ior (q := 103) F dX7_bars_102 rfl ?_
        refine fr_istore_n (q := 104) F dX7_bars_103 rfl (by decide) rfl ?_
        refine fr_iinc (q := 107) (v := (x4 + (1 : Int32))) F dX7_bars_104 rfl rfl rfl (by decide) rfl ?_
        refine fr_goto (tgt := 62) F dX7_bars_107 (by decide) ?_
        exact fr_wj (ih _ _ _ _ _ h) ⟨rfl, ⟨rfl, ⟨rfl, ⟨rfl, ⟨rfl, trivial⟩⟩⟩⟩⟩
theorem tX7_bars {l : Launch} {G : fr_G} {u0 : fr_N} {a1 : Int32} {a2 : Int32} {n0 : fr_N} {rz : Int32} {nz : fr_N} (h : fX7_bars a1 a2 n0 = some (rz, nz)) : fr_Met l G YX7_bars [.ref 0, .int a1, .int a2] (n0, u0) (some (.int rz)) (nz, u0) := by
  refine fr_met (pad := List.replicate 2 none) (by decide) (Nat.le_of_ble_eq_true rfl) (fun _ h => List.eq_of_mem_replicate h) ⟨rfl, rfl⟩ (fun K F hG hL E => ?_)
  subst hG; subst hL
  rw [fX7_bars] at h
  show fr_V YX7_bars K 0 [some (.ref 0), some (.int a1), some (.int a2), none, none] [] (n0, u0)
  refine fr_aload_n (q := 1) F dX7_bars_0 rfl rfl ?_
  refine fr_gfR (q := 4) (j := 3) F dX7_bars_1 rfl faRX7_36 (by decide) rfl rfl ?_
  refine fr_iload_n (q := 5) F dX7_bars_4 rfl rfl ?_
  obtain ⟨r7, hr8, h⟩ := fr_bd_some h
  refine fr_callV (q := 8) (M' := (n0, u0)) (rest := []) (st' := [.int (fr_b r7)]) F dX7_bars_5 rfl (tX1_hasFeast_3 hr8) mlRX7_109 msX1_hasFeast ⟨Nat.le_of_ble_eq_true rfl, Nat.le_of_ble_eq_true rfl⟩ (by decide) rfl rfl rfl (Nat.le_of_ble_eq_true rfl) rfl ?_
  refine fr_if_eqb (q := 11) (tgt := 18) F dX7_bars_8 (by decide) rfl (fun hc9 => ?_) (fun hc9 => ?_)
  · rw [if_neg hc9] at h
    refine fr_ldc (q := 20) F dX7_bars_18 rfl kcRX7_72 ?_
    obtain ⟨rfl, rfl⟩ := Prod.mk.inj (Option.some.inj h)
    exact fr_iret F E rfl dX7_bars_20
  · rw [if_pos hc9] at h
    refine fr_iload_n (q := 12) F dX7_bars_11 rfl rfl ?_
    obtain ⟨r10, hr11, h⟩ := fr_bd_some h
    refine fr_callS (q := 15) (M' := (n0, u0)) (rest := []) (st' := [.int (fr_b r10)]) F dX7_bars_12 rfl (tX7_isYear hr11) mlRX7_153 msX7_isYear ⟨Nat.le_of_ble_eq_true rfl, Nat.le_of_ble_eq_true rfl⟩ rfl rfl (Nat.le_of_ble_eq_true rfl) rfl ?_
    refine fr_if_neb (q := 18) (tgt := 21) F dX7_bars_15 (by decide) rfl (fun hc12 => ?_) (fun hc12 => ?_)
    · rw [if_pos hc12] at h
      refine fr_aload_n (q := 22) F dX7_bars_21 rfl rfl ?_
      refine fr_gfR (q := 25) (j := 11) F dX7_bars_22 rfl faRX7_51 (by decide) rfl rfl ?_
      refine fr_iload_n (q := 26) F dX7_bars_25 rfl rfl ?_
      refine fr_iconst (q := 27) (v := (-1)) F dX7_bars_26 rfl (by decide) ?_
      obtain ⟨n15, hr14, h⟩ := fr_bd_some h
      refine fr_callV (q := 30) (M' := (n15, u0)) (rest := []) (st' := []) F dX7_bars_27 rfl (tX3_lay hr14) mlRX7_156 msX3_lay ⟨Nat.le_of_ble_eq_true rfl, Nat.le_of_ble_eq_true rfl⟩ (by decide) rfl rfl rfl (Nat.le_of_ble_eq_true rfl) rfl ?_
      refine fr_aload_n (q := 31) F dX7_bars_30 rfl rfl ?_
      refine fr_gfR (q := 34) (j := 11) F dX7_bars_31 rfl faRX7_51 (by decide) rfl rfl ?_
      refine fr_gfR (q := 37) (j := 14) F dX7_bars_34 rfl faRX7_216 (by decide) rfl rfl ?_
      refine fr_iload_n (q := 38) F dX7_bars_37 rfl rfl ?_
      obtain ⟨hi16, h⟩ := fr_ck_some h
      refine fr_ial (q := 39) (x := (n15 14 (Int32.toNatClampNeg a1))) F dX7_bars_38 rfl hi16 (by decide) rfl rfl ?_
      refine fr_iconst (q := 40) (v := 1) F dX7_bars_39 rfl (by decide) ?_
      refine fr_icmp_eq (q := 43) (tgt := 55) F dX7_bars_40 (by decide) rfl (fun hc17 => ?_) (fun hc17 => ?_)
      · rw [if_pos hc17] at h
        refine fr_iconst (q := 56) (v := 0) F dX7_bars_55 rfl (by decide) ?_
        obtain ⟨rfl, rfl⟩ := Prod.mk.inj (Option.some.inj h)
        exact fr_iret F E rfl dX7_bars_56
      · rw [if_neg hc17] at h
        refine fr_aload_n (q := 44) F dX7_bars_43 rfl rfl ?_
        refine fr_gfR (q := 47) (j := 11) F dX7_bars_44 rfl faRX7_51 (by decide) rfl rfl ?_
        refine fr_gfR (q := 50) (j := 14) F dX7_bars_47 rfl faRX7_216 (by decide) rfl rfl ?_
        refine fr_iload_n (q := 51) F dX7_bars_50 rfl rfl ?_
        obtain ⟨hi18, h⟩ := fr_ck_some h
        refine fr_ial (q := 52) (x := (n15 14 (Int32.toNatClampNeg a1))) F dX7_bars_51 rfl hi18 (by decide) rfl rfl ?_
        refine fr_if_ne (q := 55) (tgt := 57) F dX7_bars_52 (by decide) rfl (fun hc19 => ?_) (fun hc19 => ?_)
        · rw [if_neg hc19] at h
          refine fr_iconst (q := 58) (v := 0) F dX7_bars_57 rfl (by decide) ?_
          refine fr_istore_n (q := 59) F dX7_bars_58 rfl (by decide) rfl ?_
          refine fr_iconst (q := 60) (v := 0) F dX7_bars_59 rfl (by decide) ?_
          refine fr_istore (q := 62) F dX7_bars_60 rfl (by decide) rfl ?_
          exact fr_wj (tX7_bars_62 F E _ _ _ _ _ _ h) ⟨rfl, ⟨rfl, ⟨rfl, ⟨rfl, ⟨rfl, trivial⟩⟩⟩⟩⟩
        · rw [if_pos hc19] at h
          refine fr_iconst (q := 56) (v := 0) F dX7_bars_55 rfl (by decide) ?_
          obtain ⟨rfl, rfl⟩ := Prod.mk.inj (Option.some.inj h)
          exact fr_iret F E rfl dX7_bars_56
    · rw [if_neg hc12] at h
      refine fr_ldc (q := 20) F dX7_bars_18 rfl kcRX7_72 ?_
      obtain ⟨rfl, rfl⟩ := Prod.mk.inj (Option.some.inj h)
      exact fr_iret F E rfl dX7_bars_20
