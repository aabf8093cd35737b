/-! FeastRota.within (None, None, None) -/
def fX7_within (a0 : Int32) (a1 : Int32) (a2 : Int32) : Option Bool := if a0 < a1 then some false else if a2 < a0 then some false else some true
theorem tX7_within {l : Launch} {G : fr_G} {M0 : fr_M} {a0 : Int32} {a1 : Int32} {a2 : Int32} {rz : Bool} (h : fX7_within a0 a1 a2 = some rz) : fr_Met l G YX7_within [.int a0, .int a1, .int a2] M0 (some (.int (fr_b rz))) M0 := by
  refine fr_met (pad := List.replicate 0 none) (by decide) (Nat.le_of_ble_eq_true rfl) (fun _ h => List.eq_of_mem_replicate h) ⟨rfl, rfl⟩ (fun K F hG hL E => ?_)
  subst hG; subst hL
  rw [fX7_within] at h
  show fr_V YX7_within K 0 [some (.int a0), some (.int a1), some (.int a2)] [] M0
  refine fr_iload_n (q := 1) F dX7_within_0 rfl rfl ?_
  refine fr_iload_n (q := 2) F dX7_within_1 rfl rfl ?_
  refine fr_icmp_gt (q := 5) (tgt := 14) F dX7_within_2 (by decide) rfl (fun hc1 => ?_) (fun hc1 => ?_)
  · rw [if_pos hc1] at h
    refine fr_iconst (q := 15) (v := 0) F dX7_within_14 rfl (by decide) ?_
    obtain rfl := Option.some.inj h
    exact fr_zret F E rfl dX7_within_15
  · rw [if_neg hc1] at h
    refine fr_iload_n (q := 6) F dX7_within_5 rfl rfl ?_
    refine fr_iload_n (q := 7) F dX7_within_6 rfl rfl ?_
    refine fr_icmp_gt (q := 10) (tgt := 14) F dX7_within_7 (by decide) rfl (fun hc2 => ?_) (fun hc2 => ?_)
    · rw [if_pos hc2] at h
      refine fr_iconst (q := 15) (v := 0) F dX7_within_14 rfl (by decide) ?_
      obtain rfl := Option.some.inj h
      exact fr_zret F E rfl dX7_within_15
    · rw [if_neg hc2] at h
      refine fr_iconst (q := 11) (v := 1) F dX7_within_10 rfl (by decide) ?_
      refine fr_goto (tgt := 15) F dX7_within_11 (by decide) ?_
      obtain rfl := Option.some.inj h
      exact fr_zret F E rfl dX7_within_15
/-! FeastRota$Tape.put (1, None) -/
def fX6_put (a1 : Int32) (n0 : fr_N) : Option (Bool × fr_N) := if (n0 1 1) < (160 : Int32) then fr_ck (n0 1 1) 160 (fr_lt (fr_up n0 2 (Int32.toNatClampNeg (n0 1 1)) a1) fun n3 => (fr_lt (fr_up n3 1 1 ((n3 1 1) + (1 : Int32))) fun n5 => (some (true, n5)))) else some (false, n0)
theorem tX6_put {l : Launch} {G : fr_G} {u0 : fr_N} {a1 : Int32} {n0 : fr_N} {rz : Bool} {nz : fr_N} (h : fX6_put a1 n0 = some (rz, nz)) : fr_Met l G YX6_put [.ref 1, .int a1] (n0, u0) (some (.int (fr_b rz))) (nz, u0) := by
  refine fr_met (pad := List.replicate 0 none) (by decide) (Nat.le_of_ble_eq_true rfl) (fun _ h => List.eq_of_mem_replicate h) ⟨rfl, rfl⟩ (fun K F hG hL E => ?_)
  subst hG; subst hL
  rw [fX6_put] at h
  show fr_V YX6_put K 0 [some (.ref 1), some (.int a1)] [] (n0, u0)
  refine fr_aload_n (q := 1) F dX6_put_0 rfl rfl ?_
  refine fr_gfI (q := 4) (x := (n0 1 1)) F dX6_put_1 rfl faRX6_15 (by decide) rfl rfl rfl ?_
  refine fr_sipush (q := 7) (v := 160) F dX6_put_4 rfl (by decide) ?_
  refine fr_icmp_lt (q := 10) (tgt := 12) F dX6_put_7 (by decide) rfl (fun hc1 => ?_) (fun hc1 => ?_)
  · rw [if_pos hc1] at h
    refine fr_aload_n (q := 13) F dX6_put_12 rfl rfl ?_
    refine fr_gfR (q := 16) (j := 2) F dX6_put_13 rfl faRX6_11 (by decide) rfl rfl ?_
    refine fr_aload_n (q := 17) F dX6_put_16 rfl rfl ?_
    refine fr_gfI (q := 20) (x := (n0 1 1)) F dX6_put_17 rfl faRX6_15 (by decide) rfl rfl rfl ?_
    refine fr_iload_n (q := 21) F dX6_put_20 rfl rfl ?_
    obtain ⟨hi2, h⟩ := fr_ck_some h
    obtain ⟨n3, hn4, h⟩ := fr_lt_some h
    refine fr_ias (q := 22) (M' := (n3, u0)) F dX6_put_21 rfl hi2 (by decide) rfl (congrArg (fun z => (z, u0)) hn4) ?_
    refine fr_aload_n (q := 23) F dX6_put_22 rfl rfl ?_
    refine fr_dup (q := 24) F dX6_put_23 rfl rfl ?_
    refine fr_gfI (q := 27) (x := (n3 1 1)) F dX6_put_24 rfl faRX6_15 (by decide) rfl rfl rfl ?_
    refine fr_iconst (q := 28) (v := 1) F dX6_put_27 rfl (by decide) ?_
    refine fr_iadd (q := 29) F dX6_put_28 rfl ?_
    obtain ⟨n5, hn6, h⟩ := fr_lt_some h
    refine fr_pfI (q := 32) (M' := (n5, u0)) F dX6_put_29 rfl fpRX6_15 (by decide) rfl rfl (congrArg (fun z => (z, u0)) hn6) ?_
    refine fr_iconst (q := 33) (v := 1) F dX6_put_32 rfl (by decide) ?_
    obtain ⟨rfl, rfl⟩ := Prod.mk.inj (Option.some.inj h)
    exact fr_zret F E rfl dX6_put_33
  · rw [if_neg hc1] at h
    refine fr_iconst (q := 11) (v := 0) F dX6_put_10 rfl (by decide) ?_
    obtain ⟨rfl, rfl⟩ := Prod.mk.inj (Option.some.inj h)
    exact fr_zret F E rfl dX6_put_11
/-! FeastRota.feed (0, None) -/
def fX7_feed (a1 : Int32) (n0 : fr_N) : Option (Int32 × fr_N) := fr_bd (fX7_within a1 (0 : Int32) (255 : Int32)) fun r1 => (if r1 = true then fr_bd2 (fX6_put a1 n0) fun r4 n6 => (if r4 = true then some ((n6 1 1), n6) else some ((-1000003 : Int32), n6)) else some ((-1000001 : Int32), n0))
theorem tX7_feed {l : Launch} {G : fr_G} {u0 : fr_N} {a1 : Int32} {n0 : fr_N} {rz : Int32} {nz : fr_N} (h : fX7_feed a1 n0 = some (rz, nz)) : fr_Met l G YX7_feed [.ref 0, .int a1] (n0, u0) (some (.int rz)) (nz, u0) := by
  refine fr_met (pad := List.replicate 0 none) (by decide) (Nat.le_of_ble_eq_true rfl) (fun _ h => List.eq_of_mem_replicate h) ⟨rfl, rfl⟩ (fun K F hG hL E => ?_)
  subst hG; subst hL
  rw [fX7_feed] at h
  show fr_V YX7_feed K 0 [some (.ref 0), some (.int a1)] [] (n0, u0)
  refine fr_iload_n (q := 1) F dX7_feed_0 rfl rfl ?_
  refine fr_iconst (q := 2) (v := 0) F dX7_feed_1 rfl (by decide) ?_
  refine fr_sipush (q := 5) (v := 255) F dX7_feed_2 rfl (by decide) ?_
  obtain ⟨r1, hr2, h⟩ := fr_bd_some h
  refine fr_callS (q := 8) (M' := (n0, u0)) (rest := []) (st' := [.int (fr_b r1)]) F dX7_feed_5 rfl (tX7_within hr2) mlRX7_68 msX7_within ⟨Nat.le_of_ble_eq_true rfl, Nat.le_of_ble_eq_true rfl⟩ rfl rfl (Nat.le_of_ble_eq_true rfl) rfl ?_
  refine fr_if_neb (q := 11) (tgt := 14) F dX7_feed_8 (by decide) rfl (fun hc3 => ?_) (fun hc3 => ?_)
  · rw [if_pos hc3] at h
    refine fr_aload_n (q := 15) F dX7_feed_14 rfl rfl ?_
    refine fr_gfR (q := 18) (j := 1) F dX7_feed_15 rfl faRX7_23 (by decide) rfl rfl ?_
    refine fr_iload_n (q := 19) F dX7_feed_18 rfl rfl ?_
    obtain ⟨r4, n6, hr5, h⟩ := fr_bd2_some h
    refine fr_callV (q := 22) (M' := (n6, u0)) (rest := []) (st' := [.int (fr_b r4)]) F dX7_feed_19 rfl (tX6_put hr5) mlRX7_73 msX6_put ⟨Nat.le_of_ble_eq_true rfl, Nat.le_of_ble_eq_true rfl⟩ (by decide) rfl rfl rfl (Nat.le_of_ble_eq_true rfl) rfl ?_
    refine fr_if_eqb (q := 25) (tgt := 35) F dX7_feed_22 (by decide) rfl (fun hc7 => ?_) (fun hc7 => ?_)
    · rw [if_neg hc7] at h
      refine fr_ldc (q := 37) F dX7_feed_35 rfl kcRX7_80 ?_
      obtain ⟨rfl, rfl⟩ := Prod.mk.inj (Option.some.inj h)
      exact fr_iret F E rfl dX7_feed_37
    · rw [if_pos hc7] at h
      refine fr_aload_n (q := 26) F dX7_feed_25 rfl rfl ?_
      refine fr_gfR (q := 29) (j := 1) F dX7_feed_26 rfl faRX7_23 (by decide) rfl rfl ?_
      refine fr_gfI (q := 32) (x := (n6 1 1)) F dX7_feed_29 rfl faRX7_77 (by decide) rfl rfl rfl ?_
      refine fr_goto (tgt := 37) F dX7_feed_32 (by decide) ?_
      obtain ⟨rfl, rfl⟩ := Prod.mk.inj (Option.some.inj h)
      exact fr_iret F E rfl dX7_feed_37
  · rw [if_neg hc3] at h
    refine fr_ldc (q := 13) F dX7_feed_11 rfl kcRX7_72 ?_
    obtain ⟨rfl, rfl⟩ := Prod.mk.inj (Option.some.inj h)
    exact fr_iret F E rfl dX7_feed_13
/-! FeastRotaModel.in (None, None, None) -/
def fX8_in (a0 : Int64) (a1 : Int64) (a2 : Int64) : Option Bool := if (lg_cmp a0 a1) < 0 then some false else if 0 < (lg_cmp a0 a2) then some false else some true
theorem tX8_in {l : Launch} {G : fr_G} {M0 : fr_M} {a0 : Int64} {a1 : Int64} {a2 : Int64} {rz : Bool} (h : fX8_in a0 a1 a2 = some rz) : fr_Met l G YX8_in [.long a0, .long a1, .long a2] M0 (some (.int (fr_b rz))) M0 := by
  refine fr_met (pad := List.replicate 0 none) (by decide) (Nat.le_of_ble_eq_true rfl) (fun _ h => List.eq_of_mem_replicate h) ⟨rfl, rfl⟩ (fun K F hG hL E => ?_)
  subst hG; subst hL
  rw [fX8_in] at h
  show fr_V YX8_in K 0 [some (.long a0), none, some (.long a1), none, some (.long a2), none] [] M0
  refine fr_lload_n (q := 1) F dX8_in_0 rfl rfl ?_
  refine fr_lload_n (q := 2) F dX8_in_1 rfl rfl ?_
  refine fr_lcmp (q := 3) F dX8_in_2 rfl ?_
  refine fr_if_lt (q := 6) (tgt := 17) F dX8_in_3 (by decide) rfl (fun hc1 => ?_) (fun hc1 => ?_)
  · rw [if_pos hc1] at h
    refine fr_iconst (q := 18) (v := 0) F dX8_in_17 rfl (by decide) ?_
    obtain rfl := Option.some.inj h
    exact fr_zret F E rfl dX8_in_18
  · rw [if_neg hc1] at h
    refine fr_lload_n (q := 7) F dX8_in_6 rfl rfl ?_
    refine fr_lload (q := 9) F dX8_in_7 rfl rfl ?_
    refine fr_lcmp (q := 10) F dX8_in_9 rfl ?_
    refine fr_if_gt (q := 13) (tgt := 17) F dX8_in_10 (by decide) rfl (fun hc2 => ?_) (fun hc2 => ?_)
    · rw [if_pos hc2] at h
      refine fr_iconst (q := 18) (v := 0) F dX8_in_17 rfl (by decide) ?_
      obtain rfl := Option.some.inj h
      exact fr_zret F E rfl dX8_in_18
    · rw [if_neg hc2] at h
      refine fr_iconst (q := 14) (v := 1) F dX8_in_13 rfl (by decide) ?_
      refine fr_goto (tgt := 18) F dX8_in_14 (by decide) ?_
      obtain rfl := Option.some.inj h
      exact fr_zret F E rfl dX8_in_18
/-! FeastRotaModel.feed (52, None) -/
def fX8_feed (a1 : Int32) (n0 : fr_N) : Option (Int32 × fr_N) := fr_bd (fX8_in (Int32.toInt64 a1) (0 : Int64) (255 : Int64)) fun r1 => (if r1 = true then if (n0 0 7) = (160 : Int32) then some ((-1000003 : Int32), n0) else fr_ck (n0 0 7) 160 (fr_lt (fr_up n0 6 (Int32.toNatClampNeg (n0 0 7)) a1) fun n6 => (fr_lt (fr_up n6 0 7 ((n6 0 7) + (1 : Int32))) fun n8 => (some ((n8 0 7), n8)))) else some ((-1000001 : Int32), n0))
theorem tX8_feed {l : Launch} {G : fr_G} {u0 : fr_N} {a1 : Int32} {n0 : fr_N} {rz : Int32} {nz : fr_N} (h : fX8_feed a1 n0 = some (rz, nz)) : fr_Met l G YX8_feed [.ref 52, .int a1] (u0, n0) (some (.int rz)) (u0, nz) := by
  refine fr_met (pad := List.replicate 0 none) (by decide) (Nat.le_of_ble_eq_true rfl) (fun _ h => List.eq_of_mem_replicate h) ⟨rfl, rfl⟩ (fun K F hG hL E => ?_)
  subst hG; subst hL
  rw [fX8_feed] at h
  show fr_V YX8_feed K 0 [some (.ref 52), some (.int a1)] [] (u0, n0)
  refine fr_iload_n (q := 1) F dX8_feed_0 rfl rfl ?_
  refine fr_i2l (q := 2) F dX8_feed_1 rfl ?_
  refine fr_lconst (q := 3) (v := 0) F dX8_feed_2 rfl (by decide) ?_
  refine fr_ldc2 (q := 6) F dX8_feed_3 rfl klRX8_207 ?_
  obtain ⟨r1, hr2, h⟩ := fr_bd_some h
  refine fr_callS (q := 9) (M' := (u0, n0)) (rest := []) (st' := [.int (fr_b r1)]) F dX8_feed_6 rfl (tX8_in hr2) mlRX8_55 msX8_in ⟨Nat.le_of_ble_eq_true rfl, Nat.le_of_ble_eq_true rfl⟩ rfl rfl (Nat.le_of_ble_eq_true rfl) rfl ?_
  refine fr_if_neb (q := 12) (tgt := 15) F dX8_feed_9 (by decide) rfl (fun hc3 => ?_) (fun hc3 => ?_)
  · rw [if_pos hc3] at h
    refine fr_aload_n (q := 16) F dX8_feed_15 rfl rfl ?_
    refine fr_gfI (q := 19) (x := (n0 0 7)) F dX8_feed_16 rfl faRX8_152 (by decide) rfl rfl rfl ?_
    refine fr_sipush (q := 22) (v := 160) F dX8_feed_19 rfl (by decide) ?_
    refine fr_icmp_ne (q := 25) (tgt := 28) F dX8_feed_22 (by decide) rfl (fun hc4 => ?_) (fun hc4 => ?_)
    · rw [if_neg hc4] at h
      refine fr_aload_n (q := 29) F dX8_feed_28 rfl rfl ?_
      refine fr_gfR (q := 32) (j := 58) F dX8_feed_29 rfl faRX8_26 (by decide) rfl rfl ?_
      refine fr_aload_n (q := 33) F dX8_feed_32 rfl rfl ?_
      refine fr_gfI (q := 36) (x := (n0 0 7)) F dX8_feed_33 rfl faRX8_152 (by decide) rfl rfl rfl ?_
      refine fr_iload_n (q := 37) F dX8_feed_36 rfl rfl ?_
      obtain ⟨hi5, h⟩ := fr_ck_some h
      obtain ⟨n6, hn7, h⟩ := fr_lt_some h
      refine fr_ias (q := 38) (M' := (u0, n6)) F dX8_feed_37 rfl hi5 (by decide) rfl (congrArg (fun z => (u0, z)) hn7) ?_
      refine fr_aload_n (q := 39) F dX8_feed_38 rfl rfl ?_
      refine fr_dup (q := 40) F dX8_feed_39 rfl rfl ?_
      refine fr_gfI (q := 43) (x := (n6 0 7)) F dX8_feed_40 rfl faRX8_152 (by decide) rfl rfl rfl ?_
      refine fr_iconst (q := 44) (v := 1) F dX8_feed_43 rfl (by decide) ?_
      refine fr_iadd (q := 45) F dX8_feed_44 rfl ?_
      obtain ⟨n8, hn9, h⟩ := fr_lt_some h
      refine fr_pfI (q := 48) (M' := (u0, n8)) F dX8_feed_45 rfl fpRX8_152 (by decide) rfl rfl (congrArg (fun z => (u0, z)) hn9) ?_
      refine fr_aload_n (q := 49) F dX8_feed_48 rfl rfl ?_
      refine fr_gfI (q := 52) (x := (n8 0 7)) F dX8_feed_49 rfl faRX8_152 (by decide) rfl rfl rfl ?_
      obtain ⟨rfl, rfl⟩ := Prod.mk.inj (Option.some.inj h)
      exact fr_iret F E rfl dX8_feed_52
    · rw [if_pos hc4] at h
      refine fr_ldc (q := 27) F dX8_feed_25 rfl kcRX8_210 ?_
      obtain ⟨rfl, rfl⟩ := Prod.mk.inj (Option.some.inj h)
      exact fr_iret F E rfl dX8_feed_27
  · rw [if_neg hc3] at h
    refine fr_ldc (q := 14) F dX8_feed_12 rfl kcRX8_209 ?_
    obtain ⟨rfl, rfl⟩ := Prod.mk.inj (Option.some.inj h)
    exact fr_iret F E rfl dX8_feed_14
/-! java/util/Arrays.fill (41, None) -/
def fJ7_fill_53178_41_5 : Nat → Int32 → Int32 → Int32 → fr_N → Option fr_N
  | 0, _, _, _, _ => none
  | k + 1, x1, x2, x3, n0 => if x3 ≤ x2 then some n0 else fr_ck x2 5 (fr_lt (fr_up n0 41 (Int32.toNatClampNeg x2) x1) fun n3 => ((fJ7_fill_53178_41_5 k) x1 (x2 + (1 : Int32)) x3 n3))
def fJ7_fill_53178_41 (a1 : Int32) (n0 : fr_N) : Option fr_N := fJ7_fill_53178_41_5 2000 a1 (0 : Int32) (5 : Int32) n0
theorem tJ7_fill_53178_41_5 {K : fr_K} {u0 : fr_N} {nz : fr_N} (F : fr_F YJ7_fill_53178 K) (E : fr_R YJ7_fill_53178 K none (nz, u0)) : ∀ (k : Nat) (x1 : Int32) (x2 : Int32) (x3 : Int32) (n0 : fr_N), fJ7_fill_53178_41_5 k x1 x2 x3 n0 = some nz → fr_V YJ7_fill_53178 K 5 [some (.ref 41), some (.int x1), some (.int x2), some (.int x3)] [] (n0, u0) := by
  intro k
  induction k with
  | zero =>
    intro x1 x2 x3 n0 h
    rw [fJ7_fill_53178_41_5] at h
    cases h
  | succ k ih =>
    intro x1 x2 x3 n0 h
    rw [fJ7_fill_53178_41_5] at h
    refine fr_iload_n (q := 6) F dJ7_fill_53178_5 rfl rfl ?_
    refine fr_iload_n (q := 7) F dJ7_fill_53178_6 rfl rfl ?_
    refine fr_icmp_ge (q := 10) (tgt := 20) F dJ7_fill_53178_7 (by decide) rfl (fun hc1 => ?_) (fun hc1 => ?_)
    · rw [if_pos hc1] at h
      obtain rfl := Option.some.inj h
      exact fr_vret F E rfl dJ7_fill_53178_20
    · rw [if_neg hc1] at h
      refine fr_aload_n (q := 11) F dJ7_fill_53178_10 rfl rfl ?_
      refine fr_iload_n (q := 12) F dJ7_fill_53178_11 rfl rfl ?_
      refine fr_iload_n (q := 13) F dJ7_fill_53178_12 rfl rfl ?_
      obtain ⟨hi2, h⟩ := fr_ck_some h
      obtain ⟨n3, hn4, h⟩ := fr_lt_some h
      refine fr_ias (q := 14) (M' := (n3, u0)) F dJ7_fill_53178_13 rfl hi2 (by decide) rfl (congrArg (fun z => (z, u0)) hn4) ?_
      refine fr_iinc (q := 17) (v := (x2 + (1 : Int32))) F dJ7_fill_53178_14 rfl rfl rfl (by decide) rfl ?_
      refine fr_goto (tgt := 5) F dJ7_fill_53178_17 (by decide) ?_
      exact fr_wj (ih _ _ _ _ h) ⟨rfl, ⟨rfl, ⟨rfl, ⟨rfl, trivial⟩⟩⟩⟩
theorem tJ7_fill_53178_41 {l : Launch} {G : fr_G} {u0 : fr_N} {a1 : Int32} {n0 : fr_N} {nz : fr_N} (h : fJ7_fill_53178_41 a1 n0 = some nz) : fr_Met l G YJ7_fill_53178 [.ref 41, .int a1] (n0, u0) none (nz, u0) := by
  refine fr_met (pad := List.replicate 2 none) (by decide) (Nat.le_of_ble_eq_true rfl) (fun _ h => List.eq_of_mem_replicate h) ⟨rfl, rfl⟩ (fun K F hG hL E => ?_)
  subst hG; subst hL
  rw [fJ7_fill_53178_41] at h
  show fr_V YJ7_fill_53178 K 0 [some (.ref 41), some (.int a1), none, none] [] (n0, u0)
  refine fr_iconst (q := 1) (v := 0) F dJ7_fill_53178_0 rfl (by decide) ?_
  refine fr_istore_n (q := 2) F dJ7_fill_53178_1 rfl (by decide) rfl ?_
  refine fr_aload_n (q := 3) F dJ7_fill_53178_2 rfl rfl ?_
  refine fr_len (q := 4) (kd := 0) (x := 5) F dJ7_fill_53178_3 rfl (by decide) rfl (by decide) ?_
  refine fr_istore_n (q := 5) F dJ7_fill_53178_4 rfl (by decide) rfl ?_
  exact fr_wj (tJ7_fill_53178_41_5 F E _ _ _ _ _ h) ⟨rfl, ⟨rfl, ⟨rfl, ⟨rfl, trivial⟩⟩⟩⟩
/-! java/util/Arrays.fill (42, None) -/
def fJ7_fill_53178_42_5 : Nat → Int32 → Int32 → Int32 → fr_N → Option fr_N
  | 0, _, _, _, _ => none
  | k + 1, x1, x2, x3, n0 => if x3 ≤ x2 then some n0 else fr_ck x2 5 (fr_lt (fr_up n0 42 (Int32.toNatClampNeg x2) x1) fun n3 => ((fJ7_fill_53178_42_5 k) x1 (x2 + (1 : Int32)) x3 n3))
def fJ7_fill_53178_42 (a1 : Int32) (n0 : fr_N) : Option fr_N := fJ7_fill_53178_42_5 2000 a1 (0 : Int32) (5 : Int32) n0
theorem tJ7_fill_53178_42_5 {K : fr_K} {u0 : fr_N} {nz : fr_N} (F : fr_F YJ7_fill_53178 K) (E : fr_R YJ7_fill_53178 K none (nz, u0)) : ∀ (k : Nat) (x1 : Int32) (x2 : Int32) (x3 : Int32) (n0 : fr_N), fJ7_fill_53178_42_5 k x1 x2 x3 n0 = some nz → fr_V YJ7_fill_53178 K 5 [some (.ref 42), some (.int x1), some (.int x2), some (.int x3)] [] (n0, u0) := by
  intro k
  induction k with
  | zero =>
    intro x1 x2 x3 n0 h
    rw [fJ7_fill_53178_42_5] at h
    cases h
  | succ k ih =>
    intro x1 x2 x3 n0 h
    rw [fJ7_fill_53178_42_5] at h
    refine fr_iload_n (q := 6) F dJ7_fill_53178_5 rfl rfl ?_
    refine fr_iload_n (q := 7) F dJ7_fill_53178_6 rfl rfl ?_
    refine fr_icmp_ge (q := 10) (tgt := 20) F dJ7_fill_53178_7 (by decide) rfl (fun hc1 => ?_) (fun hc1 => ?_)
    · rw [if_pos hc1] at h
      obtain rfl := Option.some.inj h
      exact fr_vret F E rfl dJ7_fill_53178_20
    · rw [if_neg hc1] at h
      refine fr_aload_n (q := 11) F dJ7_fill_53178_10 rfl rfl ?_
      refine fr_iload_n (q := 12) F dJ7_fill_53178_11 rfl rfl ?_
      refine fr_iload_n (q := 13) F dJ7_fill_53178_12 rfl rfl ?_
      obtain ⟨hi2, h⟩ := fr_ck_some h
      obtain ⟨n3, hn4, h⟩ := fr_lt_some h
      refine fr_ias (q := 14) (M' := (n3, u0)) F dJ7_fill_53178_13 rfl hi2 (by decide) rfl (congrArg (fun z => (z, u0)) hn4) ?_
      refine fr_iinc (q := 17) (v := (x2 + (1 : Int32))) F dJ7_fill_53178_14 rfl rfl rfl (by decide) rfl ?_
      refine fr_goto (tgt := 5) F dJ7_fill_53178_17 (by decide) ?_
      exact fr_wj (ih _ _ _ _ h) ⟨rfl, ⟨rfl, ⟨rfl, ⟨rfl, trivial⟩⟩⟩⟩
theorem tJ7_fill_53178_42 {l : Launch} {G : fr_G} {u0 : fr_N} {a1 : Int32} {n0 : fr_N} {nz : fr_N} (h : fJ7_fill_53178_42 a1 n0 = some nz) : fr_Met l G YJ7_fill_53178 [.ref 42, .int a1] (n0, u0) none (nz, u0) := by
  refine fr_met (pad := List.replicate 2 none) (by decide) (Nat.le_of_ble_eq_true rfl) (fun _ h => List.eq_of_mem_replicate h) ⟨rfl, rfl⟩ (fun K F hG hL E => ?_)
  subst hG; subst hL
  rw [fJ7_fill_53178_42] at h
  show fr_V YJ7_fill_53178 K 0 [some (.ref 42), some (.int a1), none, none] [] (n0, u0)
  refine fr_iconst (q := 1) (v := 0) F dJ7_fill_53178_0 rfl (by decide) ?_
  refine fr_istore_n (q := 2) F dJ7_fill_53178_1 rfl (by decide) rfl ?_
  refine fr_aload_n (q := 3) F dJ7_fill_53178_2 rfl rfl ?_
  refine fr_len (q := 4) (kd := 0) (x := 5) F dJ7_fill_53178_3 rfl (by decide) rfl (by decide) ?_
  refine fr_istore_n (q := 5) F dJ7_fill_53178_4 rfl (by decide) rfl ?_
  exact fr_wj (tJ7_fill_53178_42_5 F E _ _ _ _ _ h) ⟨rfl, ⟨rfl, ⟨rfl, ⟨rfl, trivial⟩⟩⟩⟩
/-! FeastRota$Book.empty (35,) -/
def fX1_empty_35 (n0 : fr_N) : Option fr_N := fr_lt (fr_up n0 35 0 (fr_b false)) fun n1 => (fr_lt (fr_up n1 35 1 (0 : Int32)) fun n3 => (fr_lt (fr_up n3 35 2 (0 : Int32)) fun n5 => (fr_lt (fr_up n5 35 3 (0 : Int32)) fun n7 => (fr_bd (fJ7_fill_53178_41 (1 : Int32) n7) fun n11 => (fr_bd (fJ7_fill_53178_42 (0 : Int32) n11) fun n14 => (some n14))))))
theorem tX1_empty_35 {l : Launch} {G : fr_G} {u0 : fr_N} {n0 : fr_N} {nz : fr_N} (h : fX1_empty_35 n0 = some nz) : fr_Met l G YX1_empty [.ref 35] (n0, u0) none (nz, u0) := by
  refine fr_met (pad := List.replicate 0 none) (by decide) (Nat.le_of_ble_eq_true rfl) (fun _ h => List.eq_of_mem_replicate h) ⟨rfl, rfl⟩ (fun K F hG hL E => ?_)
  subst hG; subst hL
  rw [fX1_empty_35] at h
  show fr_V YX1_empty K 0 [some (.ref 35)] [] (n0, u0)
  refine fr_aload_n (q := 1) F dX1_empty_0 rfl rfl ?_
  refine fr_iconst (q := 2) (v := 0) F dX1_empty_1 rfl (by decide) ?_
  obtain ⟨n1, hn2, h⟩ := fr_lt_some h
  refine fr_pfZ (q := 5) (M' := (n1, u0)) (x := false) F dX1_empty_2 rfl fpRX1_44 (by decide) rfl rfl (congrArg (fun z => (z, u0)) hn2) ?_
  refine fr_aload_n (q := 6) F dX1_empty_5 rfl rfl ?_
  refine fr_iconst (q := 7) (v := 0) F dX1_empty_6 rfl (by decide) ?_
  obtain ⟨n3, hn4, h⟩ := fr_lt_some h
  refine fr_pfI (q := 10) (M' := (n3, u0)) F dX1_empty_7 rfl fpRX1_48 (by decide) rfl rfl (congrArg (fun z => (z, u0)) hn4) ?_
  refine fr_aload_n (q := 11) F dX1_empty_10 rfl rfl ?_
  refine fr_iconst (q := 12) (v := 0) F dX1_empty_11 rfl (by decide) ?_
  obtain ⟨n5, hn6, h⟩ := fr_lt_some h
  refine fr_pfI (q := 15) (M' := (n5, u0)) F dX1_empty_12 rfl fpRX1_52 (by decide) rfl rfl (congrArg (fun z => (z, u0)) hn6) ?_
  refine fr_aload_n (q := 16) F dX1_empty_15 rfl rfl ?_
  refine fr_iconst (q := 17) (v := 0) F dX1_empty_16 rfl (by decide) ?_
  obtain ⟨n7, hn8, h⟩ := fr_lt_some h
  refine fr_pfI (q := 20) (M' := (n7, u0)) F dX1_empty_17 rfl fpRX1_55 (by decide) rfl rfl (congrArg (fun z => (z, u0)) hn8) ?_
  refine fr_aload_n (q := 21) F dX1_empty_20 rfl rfl ?_
  refine fr_gfR (q := 24) (j := 41) F dX1_empty_21 rfl faRX1_27 (by decide) rfl rfl ?_
  refine fr_iconst (q := 25) (v := 1) F dX1_empty_24 rfl (by decide) ?_
  obtain ⟨n11, hr10, h⟩ := fr_bd_some h
  refine fr_callS (q := 28) (M' := (n11, u0)) (rest := []) (st' := []) F dX1_empty_25 rfl (tJ7_fill_53178_41 hr10) mlRX1_58 msJ7_fill_53178 ⟨Nat.le_of_ble_eq_true rfl, Nat.le_of_ble_eq_true rfl⟩ rfl rfl (Nat.le_of_ble_eq_true rfl) rfl ?_
  refine fr_aload_n (q := 29) F dX1_empty_28 rfl rfl ?_
  refine fr_gfR (q := 32) (j := 42) F dX1_empty_29 rfl faRX1_30 (by decide) rfl rfl ?_
  refine fr_iconst (q := 33) (v := 0) F dX1_empty_32 rfl (by decide) ?_
  obtain ⟨n14, hr13, h⟩ := fr_bd_some h
  refine fr_callS (q := 36) (M' := (n14, u0)) (rest := []) (st' := []) F dX1_empty_33 rfl (tJ7_fill_53178_42 hr13) mlRX1_58 msJ7_fill_53178 ⟨Nat.le_of_ble_eq_true rfl, Nat.le_of_ble_eq_true rfl⟩ rfl rfl (Nat.le_of_ble_eq_true rfl) rfl ?_
  obtain rfl := Option.some.inj h
  exact fr_vret F E rfl dX1_empty_36
/-! FeastRota$Tape.at (1, None) -/
def fX6_at (a1 : Int32) (n0 : fr_N) : Option Int32 := if a1 < (0 : Int32) then some (-1000000 : Int32) else if (n0 1 1) ≤ a1 then some (-1000000 : Int32) else fr_ck a1 160 (some (n0 2 (Int32.toNatClampNeg a1)))
theorem tX6_at {l : Launch} {G : fr_G} {u0 : fr_N} {a1 : Int32} {n0 : fr_N} {rz : Int32} (h : fX6_at a1 n0 = some rz) : fr_Met l G YX6_at [.ref 1, .int a1] (n0, u0) (some (.int rz)) (n0, u0) := by
  refine fr_met (pad := List.replicate 0 none) (by decide) (Nat.le_of_ble_eq_true rfl) (fun _ h => List.eq_of_mem_replicate h) ⟨rfl, rfl⟩ (fun K F hG hL E => ?_)
  subst hG; subst hL
  rw [fX6_at] at h
  show fr_V YX6_at K 0 [some (.ref 1), some (.int a1)] [] (n0, u0)
  refine fr_iconst (q := 1) (v := 0) F dX6_at_0 rfl (by decide) ?_
  refine fr_iload_n (q := 2) F dX6_at_1 rfl rfl ?_
  refine fr_icmp_gt (q := 5) (tgt := 22) F dX6_at_2 (by decide) rfl (fun hc1 => ?_) (fun hc1 => ?_)
  · rw [if_pos hc1] at h
    refine fr_ldc (q := 24) F dX6_at_22 rfl kcRX6_19 ?_
    obtain rfl := Option.some.inj h
    exact fr_iret F E rfl dX6_at_24
  · rw [if_neg hc1] at h
    refine fr_iload_n (q := 6) F dX6_at_5 rfl rfl ?_
    refine fr_aload_n (q := 7) F dX6_at_6 rfl rfl ?_
    refine fr_gfI (q := 10) (x := (n0 1 1)) F dX6_at_7 rfl faRX6_15 (by decide) rfl rfl rfl ?_
    refine fr_icmp_ge (q := 13) (tgt := 22) F dX6_at_10 (by decide) rfl (fun hc2 => ?_) (fun hc2 => ?_)
    · rw [if_pos hc2] at h
      refine fr_ldc (q := 24) F dX6_at_22 rfl kcRX6_19 ?_
      obtain rfl := Option.some.inj h
      exact fr_iret F E rfl dX6_at_24
    · rw [if_neg hc2] at h
      refine fr_aload_n (q := 14) F dX6_at_13 rfl rfl ?_
      refine fr_gfR (q := 17) (j := 2) F dX6_at_14 rfl faRX6_11 (by decide) rfl rfl ?_
      refine fr_iload_n (q := 18) F dX6_at_17 rfl rfl ?_
      obtain ⟨hi3, h⟩ := fr_ck_some h
      refine fr_ial (q := 19) (x := (n0 2 (Int32.toNatClampNeg a1))) F dX6_at_18 rfl hi3 (by decide) rfl rfl ?_
      refine fr_goto (tgt := 24) F dX6_at_19 (by decide) ?_
      obtain rfl := Option.some.inj h
      exact fr_iret F E rfl dX6_at_24
/-! FeastRota$Reader.fails (34, None) -/
def fX4_fails (a1 : Int32) (n0 : fr_N) : Option (Bool × fr_N) := fr_lt (fr_up n0 34 4 a1) fun n1 => (fr_lt (fr_up n1 34 5 (n1 34 2)) fun n3 => (some (false, n3)))
theorem tX4_fails {l : Launch} {G : fr_G} {u0 : fr_N} {a1 : Int32} {n0 : fr_N} {rz : Bool} {nz : fr_N} (h : fX4_fails a1 n0 = some (rz, nz)) : fr_Met l G YX4_fails [.ref 34, .int a1] (n0, u0) (some (.int (fr_b rz))) (nz, u0) := by
  refine fr_met (pad := List.replicate 0 none) (by decide) (Nat.le_of_ble_eq_true rfl) (fun _ h => List.eq_of_mem_replicate h) ⟨rfl, rfl⟩ (fun K F hG hL E => ?_)
  subst hG; subst hL
  rw [fX4_fails] at h
  show fr_V YX4_fails K 0 [some (.ref 34), some (.int a1)] [] (n0, u0)
  refine fr_aload_n (q := 1) F dX4_fails_0 rfl rfl ?_
  refine fr_iload_n (q := 2) F dX4_fails_1 rfl rfl ?_
  obtain ⟨n1, hn2, h⟩ := fr_lt_some h
  refine fr_pfI (q := 5) (M' := (n1, u0)) F dX4_fails_2 rfl fpRX4_23 (by decide) rfl rfl (congrArg (fun z => (z, u0)) hn2) ?_
  refine fr_aload_n (q := 6) F dX4_fails_5 rfl rfl ?_
  refine fr_aload_n (q := 7) F dX4_fails_6 rfl rfl ?_
  refine fr_gfI (q := 10) (x := (n1 34 2)) F dX4_fails_7 rfl faRX4_19 (by decide) rfl rfl rfl ?_
  obtain ⟨n3, hn4, h⟩ := fr_lt_some h
  refine fr_pfI (q := 13) (M' := (n3, u0)) F dX4_fails_10 rfl fpRX4_26 (by decide) rfl rfl (congrArg (fun z => (z, u0)) hn4) ?_
  refine fr_iconst (q := 14) (v := 0) F dX4_fails_13 rfl (by decide) ?_
  obtain ⟨rfl, rfl⟩ := Prod.mk.inj (Option.some.inj h)
  exact fr_zret F E rfl dX4_fails_14
/-! FeastRota$Reader.sign (34, None) -/
def fX4_sign (a1 : Int32) (n0 : fr_N) : Option (Bool × fr_N) := fr_bd (fX6_at (n0 34 2) n0) fun r1 => (if r1 = a1 then fr_lt (fr_up n0 34 2 ((n0 34 2) + (1 : Int32))) fun n4 => (some (true, n4)) else fr_bd2 (fX4_fails (1 : Int32) n0) fun r6 n8 => (some (r6, n8)))
theorem tX4_sign {l : Launch} {G : fr_G} {u0 : fr_N} {a1 : Int32} {n0 : fr_N} {rz : Bool} {nz : fr_N} (h : fX4_sign a1 n0 = some (rz, nz)) : fr_Met l G YX4_sign [.ref 34, .int a1] (n0, u0) (some (.int (fr_b rz))) (nz, u0) := by
  refine fr_met (pad := List.replicate 0 none) (by decide) (Nat.le_of_ble_eq_true rfl) (fun _ h => List.eq_of_mem_replicate h) ⟨rfl, rfl⟩ (fun K F hG hL E => ?_)
  subst hG; subst hL
  rw [fX4_sign] at h
  show fr_V YX4_sign K 0 [some (.ref 34), some (.int a1)] [] (n0, u0)
  refine fr_aload_n (q := 1) F dX4_sign_0 rfl rfl ?_
  refine fr_gfR (q := 4) (j := 1) F dX4_sign_1 rfl faRX4_9 (by decide) rfl rfl ?_
  refine fr_aload_n (q := 5) F dX4_sign_4 rfl rfl ?_
  refine fr_gfI (q := 8) (x := (n0 34 2)) F dX4_sign_5 rfl faRX4_19 (by decide) rfl rfl rfl ?_
  obtain ⟨r1, hr2, h⟩ := fr_bd_some h
  refine fr_callV (q := 11) (M' := (n0, u0)) (rest := []) (st' := [.int r1]) F dX4_sign_8 rfl (tX6_at hr2) mlRX4_61 msX6_at ⟨Nat.le_of_ble_eq_true rfl, Nat.le_of_ble_eq_true rfl⟩ (by decide) rfl rfl rfl (Nat.le_of_ble_eq_true rfl) rfl ?_
  refine fr_iload_n (q := 12) F dX4_sign_11 rfl rfl ?_
  refine fr_icmp_eq (q := 15) (tgt := 21) F dX4_sign_12 (by decide) rfl (fun hc3 => ?_) (fun hc3 => ?_)
  · rw [if_pos hc3] at h
    refine fr_aload_n (q := 22) F dX4_sign_21 rfl rfl ?_
    refine fr_dup (q := 23) F dX4_sign_22 rfl rfl ?_
    refine fr_gfI (q := 26) (x := (n0 34 2)) F dX4_sign_23 rfl faRX4_19 (by decide) rfl rfl rfl ?_
    refine fr_iconst (q := 27) (v := 1) F dX4_sign_26 rfl (by decide) ?_
    refine fr_iadd (q := 28) F dX4_sign_27 rfl ?_
    obtain ⟨n4, hn5, h⟩ := fr_lt_some h
    refine fr_pfI (q := 31) (M' := (n4, u0)) F dX4_sign_28 rfl fpRX4_19 (by decide) rfl rfl (congrArg (fun z => (z, u0)) hn5) ?_
    refine fr_iconst (q := 32) (v := 1) F dX4_sign_31 rfl (by decide) ?_
    obtain ⟨rfl, rfl⟩ := Prod.mk.inj (Option.some.inj h)
    exact fr_zret F E rfl dX4_sign_32
  · rw [if_neg hc3] at h
    refine fr_aload_n (q := 16) F dX4_sign_15 rfl rfl ?_
    refine fr_iconst (q := 17) (v := 1) F dX4_sign_16 rfl (by decide) ?_
    obtain ⟨r6, n8, hr7, h⟩ := fr_bd2_some h
    refine fr_callV (q := 20) (M' := (n8, u0)) (rest := []) (st' := [.int (fr_b r6)]) F dX4_sign_17 rfl (tX4_fails hr7) mlRX4_72 msX4_fails ⟨Nat.le_of_ble_eq_true rfl, Nat.le_of_ble_eq_true rfl⟩ (by decide) rfl rfl rfl (Nat.le_of_ble_eq_true rfl) rfl ?_
    obtain ⟨rfl, rfl⟩ := Prod.mk.inj (Option.some.inj h)
    exact fr_zret F E rfl dX4_sign_20
/-! FeastRota$Reader.bareNumber (34, None, None) -/
def fX4_bareNumber_72 (n0 : fr_N) : Option (Bool × fr_N) := fr_bd2 (fX4_fails (1 : Int32) n0) fun r1 n3 => (some (r1, n3))
def fX4_bareNumber_63 (x1 : Int32) (x2 : Int32) (x3 : Int32) (x4 : Int32) (n0 : fr_N) : Option (Bool × fr_N) := if x3 = 0 then fX4_bareNumber_72 n0 else if x3 ≤ (3 : Int32) then fr_bd (fX7_within x4 x1 x2) fun r6 => (if r6 = true then fr_lt (fr_up n0 34 3 x4) fun n9 => (fr_lt (fr_up n9 34 2 ((n9 34 2) + x3)) fun n11 => (some (true, n11))) else fr_bd2 (fX4_fails (2 : Int32) n0) fun r13 n15 => (some (r13, n15))) else fX4_bareNumber_72 n0
def fX4_bareNumber_5 : Nat → Int32 → Int32 → Int32 → Int32 → fr_N → Option (Bool × fr_N)
  | 0, _, _, _, _, _ => none
  | k + 1, x1, x2, x3, x4, n0 => if (4 : Int32) ≤ x3 then fX4_bareNumber_63 x1 x2 x3 x4 n0 else fr_bd (fX6_at ((n0 34 2) + x3) n0) fun r17 => (fr_bd (fX7_within r17 (48 : Int32) (57 : Int32)) fun r19 => (if r19 = true then fr_bd (fX6_at ((n0 34 2) + x3) n0) fun r22 => ((fX4_bareNumber_5 k) x1 x2 (x3 + (1 : Int32)) (((x4 * (10 : Int32)) + r22) - (48 : Int32)) n0) else fX4_bareNumber_63 x1 x2 x3 x4 n0))
def fX4_bareNumber (a1 : Int32) (a2 : Int32) (n0 : fr_N) : Option (Bool × fr_N) := fX4_bareNumber_5 2000 a1 a2 (0 : Int32) (0 : Int32) n0
theorem tX4_bareNumber_72 {K : fr_K} {u0 : fr_N} {rz : Bool} {nz : fr_N} (F : fr_F YX4_bareNumber K) (E : fr_R YX4_bareNumber K (some (.int (fr_b rz))) (nz, u0)) {n0 : fr_N} (h : fX4_bareNumber_72 n0 = some (rz, nz)) : fr_V YX4_bareNumber K 72 [some (.ref 34), none, none, none, none] [] (n0, u0) := by
  rw [fX4_bareNumber_72] at h
  refine fr_aload_n (q := 73) F dX4_bareNumber_72 rfl rfl ?_
  refine fr_iconst (q := 74) (v := 1) F dX4_bareNumber_73 rfl (by decide) ?_
  obtain ⟨r1, n3, hr2, h⟩ := fr_bd2_some h
  refine fr_callV (q := 77) (M' := (n3, u0)) (rest := []) (st' := [.int (fr_b r1)]) F dX4_bareNumber_74 rfl (tX4_fails hr2) mlRX4_72 msX4_fails ⟨Nat.le_of_ble_eq_true rfl, Nat.le_of_ble_eq_true rfl⟩ (by decide) rfl rfl rfl (Nat.le_of_ble_eq_true rfl) rfl ?_
  obtain ⟨rfl, rfl⟩ := Prod.mk.inj (Option.some.inj h)
  exact fr_zret F E rfl dX4_bareNumber_77
theorem tX4_bareNumber_63 {K : fr_K} {u0 : fr_N} {rz : Bool} {nz : fr_N} (F : fr_F YX4_bareNumber K) (E : fr_R YX4_bareNumber K (some (.int (fr_b rz))) (nz, u0)) {x1 : Int32} {x2 : Int32} {x3 : Int32} {x4 : Int32} {n0 : fr_N} (h : fX4_bareNumber_63 x1 x2 x3 x4 n0 = some (rz, nz)) : fr_V YX4_bareNumber K 63 [some (.ref 34), some (.int x1), some (.int x2), some (.int x3), some (.int x4)] [] (n0, u0) := by
  rw [fX4_bareNumber_63] at h
  refine fr_iload_n (q := 64) F dX4_bareNumber_63 rfl rfl ?_
  refine fr_if_eq (q := 67) (tgt := 72) F dX4_bareNumber_64 (by decide) rfl (fun hc4 => ?_) (fun hc4 => ?_)
  · rw [if_pos hc4] at h
    exact fr_wj (tX4_bareNumber_72 F E h) ⟨rfl, trivial⟩
  · rw [if_neg hc4] at h
    refine fr_iload_n (q := 68) F dX4_bareNumber_67 rfl rfl ?_
    refine fr_iconst (q := 69) (v := 3) F dX4_bareNumber_68 rfl (by decide) ?_
    refine fr_icmp_le (q := 72) (tgt := 78) F dX4_bareNumber_69 (by decide) rfl (fun hc5 => ?_) (fun hc5 => ?_)
    · rw [if_pos hc5] at h
      refine fr_iload (q := 80) F dX4_bareNumber_78 rfl rfl ?_
      refine fr_iload_n (q := 81) F dX4_bareNumber_80 rfl rfl ?_
      refine fr_iload_n (q := 82) F dX4_bareNumber_81 rfl rfl ?_
      obtain ⟨r6, hr7, h⟩ := fr_bd_some h
      refine fr_callN (q := 85) (M' := (n0, u0)) (rest := []) (st' := [.int (fr_b r6)]) F dX4_bareNumber_82 rfl (tX7_within hr7) rfl (by decide) msX7_within ⟨Nat.le_of_ble_eq_true rfl, Nat.le_of_ble_eq_true rfl⟩ rfl rfl (Nat.le_of_ble_eq_true rfl) rfl ?_
      refine fr_if_neb (q := 88) (tgt := 94) F dX4_bareNumber_85 (by decide) rfl (fun hc8 => ?_) (fun hc8 => ?_)
      · rw [if_pos hc8] at h
        refine fr_aload_n (q := 95) F dX4_bareNumber_94 rfl rfl ?_
        refine fr_iload (q := 97) F dX4_bareNumber_95 rfl rfl ?_
        obtain ⟨n9, hn10, h⟩ := fr_lt_some h
        refine fr_pfI (q := 100) (M' := (n9, u0)) F dX4_bareNumber_97 rfl fpRX4_88 (by decide) rfl rfl (congrArg (fun z => (z, u0)) hn10) ?_
        refine fr_aload_n (q := 101) F dX4_bareNumber_100 rfl rfl ?_
        refine fr_dup (q := 102) F dX4_bareNumber_101 rfl rfl ?_
        refine fr_gfI (q := 105) (x := (n9 34 2)) F dX4_bareNumber_102 rfl faRX4_19 (by decide) rfl rfl rfl ?_
        refine fr_iload_n (q := 106) F dX4_bareNumber_105 rfl rfl ?_
        refine fr_iadd (q := 107) F dX4_bareNumber_106 rfl ?_
        obtain ⟨n11, hn12, h⟩ := fr_lt_some h
        refine fr_pfI (q := 110) (M' := (n11, u0)) F dX4_bareNumber_107 rfl fpRX4_19 (by decide) rfl rfl (congrArg (fun z => (z, u0)) hn12) ?_
        refine fr_iconst (q := 111) (v := 1) F dX4_bareNumber_110 rfl (by decide) ?_
        obtain ⟨rfl, rfl⟩ := Prod.mk.inj (Option.some.inj h)
        exact fr_zret F E rfl dX4_bareNumber_111
      · rw [if_neg hc8] at h
        refine fr_aload_n (q := 89) F dX4_bareNumber_88 rfl rfl ?_
        refine fr_iconst (q := 90) (v := 2) F dX4_bareNumber_89 rfl (by decide) ?_
        obtain ⟨r13, n15, hr14, h⟩ := fr_bd2_some h
        refine fr_callV (q := 93) (M' := (n15, u0)) (rest := []) (st' := [.int (fr_b r13)]) F dX4_bareNumber_90 rfl (tX4_fails hr14) mlRX4_72 msX4_fails ⟨Nat.le_of_ble_eq_true rfl, Nat.le_of_ble_eq_true rfl⟩ (by decide) rfl rfl rfl (Nat.le_of_ble_eq_true rfl) rfl ?_
        obtain ⟨rfl, rfl⟩ := Prod.mk.inj (Option.some.inj h)
        exact fr_zret F E rfl dX4_bareNumber_93
    · rw [if_neg hc5] at h
      exact fr_wj (tX4_bareNumber_72 F E h) ⟨rfl, trivial⟩
theorem tX4_bareNumber_5 {K : fr_K} {u0 : fr_N} {rz : Bool} {nz : fr_N} (F : fr_F YX4_bareNumber K) (E : fr_R YX4_bareNumber K (some (.int (fr_b rz))) (nz, u0)) : ∀ (k : Nat) (x1 : Int32) (x2 : Int32) (x3 : Int32) (x4 : Int32) (n0 : fr_N), fX4_bareNumber_5 k x1 x2 x3 x4 n0 = some (rz, nz) → fr_V YX4_bareNumber K 5 [some (.ref 34), some (.int x1), some (.int x2), some (.int x3), some (.int x4)] [] (n0, u0) := by
  intro k
  induction k with
  | zero =>
    intro x1 x2 x3 x4 n0 h
    rw [fX4_bareNumber_5] at h
    cases h
  | succ k ih =>
    intro x1 x2 x3 x4 n0 h
    rw [fX4_bareNumber_5] at h
    refine fr_iload_n (q := 6) F dX4_bareNumber_5 rfl rfl ?_
    refine fr_iconst (q := 7) (v := 4) F dX4_bareNumber_6 rfl (by decide) ?_
    refine fr_icmp_ge (q := 10) (tgt := 63) F dX4_bareNumber_7 (by decide) rfl (fun hc16 => ?_) (fun hc16 => ?_)
    · rw [if_pos hc16] at h
      exact fr_wj (tX4_bareNumber_63 F E h) ⟨rfl, ⟨rfl, ⟨rfl, ⟨rfl, ⟨rfl, trivial⟩⟩⟩⟩⟩
    · rw [if_neg hc16] at h
      refine fr_aload_n (q := 11) F dX4_bareNumber_10 rfl rfl ?_
      refine fr_gfR (q := 14) (j := 1) F dX4_bareNumber_11 rfl faRX4_9 (by decide) rfl rfl ?_
      refine fr_aload_n (q := 15) F dX4_bareNumber_14 rfl rfl ?_
      refine fr_gfI (q := 18) (x := (n0 34 2)) F dX4_bareNumber_15 rfl faRX4_19 (by decide) rfl rfl rfl ?_
      refine fr_iload_n (q := 19) F dX4_bareNumber_18 rfl rfl ?_
      refine fr_iadd (q := 20) F dX4_bareNumber_19 rfl ?_
      obtain ⟨r17, hr18, h⟩ := fr_bd_some h
      refine fr_callV (q := 23) (M' := (n0, u0)) (rest := []) (st' := [.int r17]) F dX4_bareNumber_20 rfl (tX6_at hr18) mlRX4_61 msX6_at ⟨Nat.le_of_ble_eq_true rfl, Nat.le_of_ble_eq_true rfl⟩ (by decide) rfl rfl rfl (Nat.le_of_ble_eq_true rfl) rfl ?_
      refine fr_bipush (q := 25) (v := 48) F dX4_bareNumber_23 rfl (by decide) ?_
      refine fr_bipush (q := 27) (v := 57) F dX4_bareNumber_25 rfl (by decide) ?_
      obtain ⟨r19, hr20, h⟩ := fr_bd_some h
      refine fr_callN (q := 30) (M' := (n0, u0)) (rest := []) (st' := [.int (fr_b r19)]) F dX4_bareNumber_27 rfl (tX7_within hr20) rfl (by decide) msX7_within ⟨Nat.le_of_ble_eq_true rfl, Nat.le_of_ble_eq_true rfl⟩ rfl rfl (Nat.le_of_ble_eq_true rfl) rfl ?_
      refine fr_if_eqb (q := 33) (tgt := 63) F dX4_bareNumber_30 (by decide) rfl (fun hc21 => ?_) (fun hc21 => ?_)
      · rw [if_neg hc21] at h
        exact fr_wj (tX4_bareNumber_63 F E h) ⟨rfl, ⟨rfl, ⟨rfl, ⟨rfl, ⟨rfl, trivial⟩⟩⟩⟩⟩
      · rw [if_pos hc21] at h
        refine fr_iload (q := 35) F dX4_bareNumber_33 rfl rfl ?_
        refine fr_bipush (q := 37) (v := 10) F dX4_bareNumber_35 rfl (by decide) ?_
        refine fr_imul (q := 38) F dX4_bareNumber_37 rfl ?_
        refine fr_aload_n (q := 39) F dX4_bareNumber_38 rfl rfl ?_
        refine fr_gfR (q := 42) (j := 1) F dX4_bareNumber_39 rfl faRX4_9 (by decide) rfl rfl ?_
        refine fr_aload_n (q := 43) F dX4_bareNumber_42 rfl rfl ?_
        refine fr_gfI (q := 46) (x := (n0 34 2)) F dX4_bareNumber_43 rfl faRX4_19 (by decide) rfl rfl rfl ?_
        refine fr_iload_n (q := 47) F dX4_bareNumber_46 rfl rfl ?_
        refine fr_iadd (q := 48) F dX4_bareNumber_47 rfl ?_
        obtain ⟨r22, hr23, h⟩ := fr_bd_some h
        refine fr_callV (q := 51) (M' := (n0, u0)) (rest := [.int (x4 * (10 : Int32))]) (st' := [.int r22, .int (x4 * (10 : Int32))]) F dX4_bareNumber_48 rfl (tX6_at hr23) mlRX4_61 msX6_at ⟨Nat.le_of_ble_eq_true rfl, Nat.le_of_ble_eq_true rfl⟩ (by decide) rfl rfl rfl (Nat.le_of_ble_eq_true rfl) rfl ?_
        refine fr_iadd (q := 52) F dX4_bareNumber_51 rfl ?_
        refine fr_bipush (q := 54) (v := 48) F dX4_bareNumber_52 rfl (by decide) ?_
        refine fr_isub (q := 55) F dX4_bareNumber_54 rfl ?_
        refine fr_istore (q := 57) F dX4_bareNumber_55 rfl (by decide) rfl ?_
        refine fr_iinc (q := 60) (v := (x3 + (1 : Int32))) F dX4_bareNumber_57 rfl rfl rfl (by decide) rfl ?_
        refine fr_goto (tgt := 5) F dX4_bareNumber_60 (by decide) ?_
        exact fr_wj (ih _ _ _ _ _ h) ⟨rfl, ⟨rfl, ⟨rfl, ⟨rfl, ⟨rfl, trivial⟩⟩⟩⟩⟩
theorem tX4_bareNumber {l : Launch} {G : fr_G} {u0 : fr_N} {a1 : Int32} {a2 : Int32} {n0 : fr_N} {rz : Bool} {nz : fr_N} (h : fX4_bareNumber a1 a2 n0 = some (rz, nz)) : fr_Met l G YX4_bareNumber [.ref 34, .int a1, .int a2] (n0, u0) (some (.int (fr_b rz))) (nz, u0) := by
  refine fr_met (pad := List.replicate 2 none) (by decide) (Nat.le_of_ble_eq_true rfl) (fun _ h => List.eq_of_mem_replicate h) ⟨rfl, rfl⟩ (fun K F hG hL E => ?_)
  subst hG; subst hL
  rw [fX4_bareNumber] at h
  show fr_V YX4_bareNumber K 0 [some (.ref 34), some (.int a1), some (.int a2), none, none] [] (n0, u0)
  refine fr_iconst (q := 1) (v := 0) F dX4_bareNumber_0 rfl (by decide) ?_
  refine fr_istore_n (q := 2) F dX4_bareNumber_1 rfl (by decide) rfl ?_
  refine fr_iconst (q := 3) (v := 0) F dX4_bareNumber_2 rfl (by decide) ?_
  refine fr_istore (q := 5) F dX4_bareNumber_3 rfl (by decide) rfl ?_
  exact fr_wj (tX4_bareNumber_5 F E _ _ _ _ _ _ h) ⟨rfl, ⟨rfl, ⟨rfl, ⟨rfl, ⟨rfl, trivial⟩⟩⟩⟩⟩
/-! FeastRota$Reader.number (34, None, None, None) -/
def fX4_number (a1 : Int32) (a2 : Int32) (a3 : Int32) (n0 : fr_N) : Option (Bool × fr_N) := fr_bd2 (fX4_bareNumber a1 a2 n0) fun r1 n3 => (if r1 = true then fr_bd2 (fX4_sign a3 n3) fun r5 n7 => (if r5 = true then some (true, n7) else some (false, n7)) else some (false, n3))
theorem tX4_number {l : Launch} {G : fr_G} {u0 : fr_N} {a1 : Int32} {a2 : Int32} {a3 : Int32} {n0 : fr_N} {rz : Bool} {nz : fr_N} (h : fX4_number a1 a2 a3 n0 = some (rz, nz)) : fr_Met l G YX4_number [.ref 34, .int a1, .int a2, .int a3] (n0, u0) (some (.int (fr_b rz))) (nz, u0) := by
  refine fr_met (pad := List.replicate 0 none) (by decide) (Nat.le_of_ble_eq_true rfl) (fun _ h => List.eq_of_mem_replicate h) ⟨rfl, rfl⟩ (fun K F hG hL E => ?_)
  subst hG; subst hL
  rw [fX4_number] at h
  show fr_V YX4_number K 0 [some (.ref 34), some (.int a1), some (.int a2), some (.int a3)] [] (n0, u0)
  refine fr_aload_n (q := 1) F dX4_number_0 rfl rfl ?_
  refine fr_iload_n (q := 2) F dX4_number_1 rfl rfl ?_
  refine fr_iload_n (q := 3) F dX4_number_2 rfl rfl ?_
  obtain ⟨r1, n3, hr2, h⟩ := fr_bd2_some h
  refine fr_callV (q := 6) (M' := (n3, u0)) (rest := []) (st' := [.int (fr_b r1)]) F dX4_number_3 rfl (tX4_bareNumber hr2) mlRX4_100 msX4_bareNumber ⟨Nat.le_of_ble_eq_true rfl, Nat.le_of_ble_eq_true rfl⟩ (by decide) rfl rfl rfl (Nat.le_of_ble_eq_true rfl) rfl ?_
  refine fr_if_eqb (q := 9) (tgt := 21) F dX4_number_6 (by decide) rfl (fun hc4 => ?_) (fun hc4 => ?_)
  · rw [if_neg hc4] at h
    refine fr_iconst (q := 22) (v := 0) F dX4_number_21 rfl (by decide) ?_
    obtain ⟨rfl, rfl⟩ := Prod.mk.inj (Option.some.inj h)
    exact fr_zret F E rfl dX4_number_22
  · rw [if_pos hc4] at h
    refine fr_aload_n (q := 10) F dX4_number_9 rfl rfl ?_
    refine fr_iload_n (q := 11) F dX4_number_10 rfl rfl ?_
    obtain ⟨r5, n7, hr6, h⟩ := fr_bd2_some h
    refine fr_callV (q := 14) (M' := (n7, u0)) (rest := []) (st' := [.int (fr_b r5)]) F dX4_number_11 rfl (tX4_sign hr6) mlRX4_53 msX4_sign ⟨Nat.le_of_ble_eq_true rfl, Nat.le_of_ble_eq_true rfl⟩ (by decide) rfl rfl rfl (Nat.le_of_ble_eq_true rfl) rfl ?_
    refine fr_if_eqb (q := 17) (tgt := 21) F dX4_number_14 (by decide) rfl (fun hc8 => ?_) (fun hc8 => ?_)
    · rw [if_neg hc8] at h
      refine fr_iconst (q := 22) (v := 0) F dX4_number_21 rfl (by decide) ?_
      obtain ⟨rfl, rfl⟩ := Prod.mk.inj (Option.some.inj h)
      exact fr_zret F E rfl dX4_number_22
    · rw [if_pos hc8] at h
      refine fr_iconst (q := 18) (v := 1) F dX4_number_17 rfl (by decide) ?_
      refine fr_goto (tgt := 22) F dX4_number_18 (by decide) ?_
      obtain ⟨rfl, rfl⟩ := Prod.mk.inj (Option.some.inj h)
      exact fr_zret F E rfl dX4_number_22
/-! FeastRota$Reader.lawNumber (34, None, None) -/
def fX4_lawNumber (a1 : Int32) (a2 : Int32) (n0 : fr_N) : Option (Bool × fr_N) := fr_bd (fX7_within a1 (0 : Int32) (5 : Int32)) fun r1 => (if r1 = true then fr_ck a1 6 (fr_ck a1 6 (fr_bd2 (fX4_number (fr_tb1 (Int32.toNatClampNeg a1)) (fr_tb2 (Int32.toNatClampNeg a1)) a2 n0) fun r6 n8 => (if r6 = true then fr_ck a1 6 (fr_lt (fr_up n8 36 (Int32.toNatClampNeg a1) (n8 34 3)) fun n11 => (some (true, n11))) else some (false, n8)))) else some (false, n0))
theorem tX4_lawNumber {l : Launch} {G : fr_G} {u0 : fr_N} {a1 : Int32} {a2 : Int32} {n0 : fr_N} {rz : Bool} {nz : fr_N} (h : fX4_lawNumber a1 a2 n0 = some (rz, nz)) : fr_Met l G YX4_lawNumber [.ref 34, .int a1, .int a2] (n0, u0) (some (.int (fr_b rz))) (nz, u0) := by
  refine fr_met (pad := List.replicate 0 none) (by decide) (Nat.le_of_ble_eq_true rfl) (fun _ h => List.eq_of_mem_replicate h) ⟨rfl, rfl⟩ (fun K F hG hL E => ?_)
  subst hG; subst hL
  rw [fX4_lawNumber] at h
  show fr_V YX4_lawNumber K 0 [some (.ref 34), some (.int a1), some (.int a2)] [] (n0, u0)
  refine fr_iload_n (q := 1) F dX4_lawNumber_0 rfl rfl ?_
  refine fr_iconst (q := 2) (v := 0) F dX4_lawNumber_1 rfl (by decide) ?_
  refine fr_iconst (q := 3) (v := 5) F dX4_lawNumber_2 rfl (by decide) ?_
  obtain ⟨r1, hr2, h⟩ := fr_bd_some h
  refine fr_callN (q := 6) (M' := (n0, u0)) (rest := []) (st' := [.int (fr_b r1)]) F dX4_lawNumber_3 rfl (tX7_within hr2) rfl (by decide) msX7_within ⟨Nat.le_of_ble_eq_true rfl, Nat.le_of_ble_eq_true rfl⟩ rfl rfl (Nat.le_of_ble_eq_true rfl) rfl ?_
  refine fr_if_eqb (q := 9) (tgt := 27) F dX4_lawNumber_6 (by decide) rfl (fun hc3 => ?_) (fun hc3 => ?_)
  · rw [if_neg hc3] at h
    refine fr_iconst (q := 28) (v := 0) F dX4_lawNumber_27 rfl (by decide) ?_
    obtain ⟨rfl, rfl⟩ := Prod.mk.inj (Option.some.inj h)
    exact fr_zret F E rfl dX4_lawNumber_28
  · rw [if_pos hc3] at h
    refine fr_aload_n (q := 10) F dX4_lawNumber_9 rfl rfl ?_
    refine fr_gsN (q := 13) (k := 0) (j := 67) F dX4_lawNumber_10 rfl (by decide) (by decide) rfl ?_
    refine fr_iload_n (q := 14) F dX4_lawNumber_13 rfl rfl ?_
    obtain ⟨hi4, h⟩ := fr_ck_some h
    refine fr_tal (q := 15) (k := 0) (x := (fr_tb1 (Int32.toNatClampNeg a1))) F dX4_lawNumber_14 rfl hi4 (by decide) rfl rfl ?_
    refine fr_gsN (q := 18) (k := 1) (j := 68) F dX4_lawNumber_15 rfl (by decide) (by decide) rfl ?_
    refine fr_iload_n (q := 19) F dX4_lawNumber_18 rfl rfl ?_
    obtain ⟨hi5, h⟩ := fr_ck_some h
    refine fr_tal (q := 20) (k := 1) (x := (fr_tb2 (Int32.toNatClampNeg a1))) F dX4_lawNumber_19 rfl hi5 (by decide) rfl rfl ?_
    refine fr_iload_n (q := 21) F dX4_lawNumber_20 rfl rfl ?_
    obtain ⟨r6, n8, hr7, h⟩ := fr_bd2_some h
    refine fr_callV (q := 24) (M' := (n8, u0)) (rest := []) (st' := [.int (fr_b r6)]) F dX4_lawNumber_21 rfl (tX4_number hr7) mlRX4_84 msX4_number ⟨Nat.le_of_ble_eq_true rfl, Nat.le_of_ble_eq_true rfl⟩ (by decide) rfl rfl rfl (Nat.le_of_ble_eq_true rfl) rfl ?_
    refine fr_if_neb (q := 27) (tgt := 29) F dX4_lawNumber_24 (by decide) rfl (fun hc9 => ?_) (fun hc9 => ?_)
    · rw [if_pos hc9] at h
      refine fr_aload_n (q := 30) F dX4_lawNumber_29 rfl rfl ?_
      refine fr_gfR (q := 33) (j := 35) F dX4_lawNumber_30 rfl faRX4_15 (by decide) rfl rfl ?_
      refine fr_gfR (q := 36) (j := 36) F dX4_lawNumber_33 rfl faRX4_122 (by decide) rfl rfl ?_
      refine fr_iload_n (q := 37) F dX4_lawNumber_36 rfl rfl ?_
      refine fr_aload_n (q := 38) F dX4_lawNumber_37 rfl rfl ?_
      refine fr_gfI (q := 41) (x := (n8 34 3)) F dX4_lawNumber_38 rfl faRX4_88 (by decide) rfl rfl rfl ?_
      obtain ⟨hi10, h⟩ := fr_ck_some h
      obtain ⟨n11, hn12, h⟩ := fr_lt_some h
      refine fr_ias (q := 42) (M' := (n11, u0)) F dX4_lawNumber_41 rfl hi10 (by decide) rfl (congrArg (fun z => (z, u0)) hn12) ?_
      refine fr_iconst (q := 43) (v := 1) F dX4_lawNumber_42 rfl (by decide) ?_
      obtain ⟨rfl, rfl⟩ := Prod.mk.inj (Option.some.inj h)
      exact fr_zret F E rfl dX4_lawNumber_43
    · rw [if_neg hc9] at h
      refine fr_iconst (q := 28) (v := 0) F dX4_lawNumber_27 rfl (by decide) ?_
      obtain ⟨rfl, rfl⟩ := Prod.mk.inj (Option.some.inj h)
      exact fr_zret F E rfl dX4_lawNumber_28
/-! FeastRota$Reader.head (34,) -/
def fX4_head (n0 : fr_N) : Option (Bool × fr_N) := fr_bd2 (fX4_sign (107 : Int32) n0) fun r1 n3 => (if r1 = true then fr_bd2 (fX4_lawNumber (0 : Int32) (44 : Int32) n3) fun r5 n7 => (if r5 = true then fr_bd2 (fX4_lawNumber (1 : Int32) (44 : Int32) n7) fun r9 n11 => (if r9 = true then fr_bd2 (fX4_lawNumber (2 : Int32) (59 : Int32) n11) fun r13 n15 => (if r13 = true then some (true, n15) else some (false, n15)) else some (false, n11)) else some (false, n7)) else some (false, n3))
theorem tX4_head {l : Launch} {G : fr_G} {u0 : fr_N} {n0 : fr_N} {rz : Bool} {nz : fr_N} (h : fX4_head n0 = some (rz, nz)) : fr_Met l G YX4_head [.ref 34] (n0, u0) (some (.int (fr_b rz))) (nz, u0) := by
  refine fr_met (pad := List.replicate 0 none) (by decide) (Nat.le_of_ble_eq_true rfl) (fun _ h => List.eq_of_mem_replicate h) ⟨rfl, rfl⟩ (fun K F hG hL E => ?_)
  subst hG; subst hL
  rw [fX4_head] at h
  show fr_V YX4_head K 0 [some (.ref 34)] [] (n0, u0)
  refine fr_aload_n (q := 1) F dX4_head_0 rfl rfl ?_
  refine fr_bipush (q := 3) (v := 107) F dX4_head_1 rfl (by decide) ?_
  obtain ⟨r1, n3, hr2, h⟩ := fr_bd2_some h
  refine fr_callV (q := 6) (M' := (n3, u0)) (rest := []) (st' := [.int (fr_b r1)]) F dX4_head_3 rfl (tX4_sign hr2) mlRX4_53 msX4_sign ⟨Nat.le_of_ble_eq_true rfl, Nat.le_of_ble_eq_true rfl⟩ (by decide) rfl rfl rfl (Nat.le_of_ble_eq_true rfl) rfl ?_
  refine fr_if_eqb (q := 9) (tgt := 43) F dX4_head_6 (by decide) rfl (fun hc4 => ?_) (fun hc4 => ?_)
  · rw [if_neg hc4] at h
    refine fr_iconst (q := 44) (v := 0) F dX4_head_43 rfl (by decide) ?_
    obtain ⟨rfl, rfl⟩ := Prod.mk.inj (Option.some.inj h)
    exact fr_zret F E rfl dX4_head_44
  · rw [if_pos hc4] at h
    refine fr_aload_n (q := 10) F dX4_head_9 rfl rfl ?_
    refine fr_iconst (q := 11) (v := 0) F dX4_head_10 rfl (by decide) ?_
    refine fr_bipush (q := 13) (v := 44) F dX4_head_11 rfl (by decide) ?_
    obtain ⟨r5, n7, hr6, h⟩ := fr_bd2_some h
    refine fr_callV (q := 16) (M' := (n7, u0)) (rest := []) (st' := [.int (fr_b r5)]) F dX4_head_13 rfl (tX4_lawNumber hr6) mlRX4_57 msX4_lawNumber ⟨Nat.le_of_ble_eq_true rfl, Nat.le_of_ble_eq_true rfl⟩ (by decide) rfl rfl rfl (Nat.le_of_ble_eq_true rfl) rfl ?_
    refine fr_if_eqb (q := 19) (tgt := 43) F dX4_head_16 (by decide) rfl (fun hc8 => ?_) (fun hc8 => ?_)
    · rw [if_neg hc8] at h
      refine fr_iconst (q := 44) (v := 0) F dX4_head_43 rfl (by decide) ?_
      obtain ⟨rfl, rfl⟩ := Prod.mk.inj (Option.some.inj h)
      exact fr_zret F E rfl dX4_head_44
    · rw [if_pos hc8] at h
      refine fr_aload_n (q := 20) F dX4_head_19 rfl rfl ?_
      refine fr_iconst (q := 21) (v := 1) F dX4_head_20 rfl (by decide) ?_
      refine fr_bipush (q := 23) (v := 44) F dX4_head_21 rfl (by decide) ?_
      obtain ⟨r9, n11, hr10, h⟩ := fr_bd2_some h
      refine fr_callV (q := 26) (M' := (n11, u0)) (rest := []) (st' := [.int (fr_b r9)]) F dX4_head_23 rfl (tX4_lawNumber hr10) mlRX4_57 msX4_lawNumber ⟨Nat.le_of_ble_eq_true rfl, Nat.le_of_ble_eq_true rfl⟩ (by decide) rfl rfl rfl (Nat.le_of_ble_eq_true rfl) rfl ?_
      refine fr_if_eqb (q := 29) (tgt := 43) F dX4_head_26 (by decide) rfl (fun hc12 => ?_) (fun hc12 => ?_)
      · rw [if_neg hc12] at h
        refine fr_iconst (q := 44) (v := 0) F dX4_head_43 rfl (by decide) ?_
        obtain ⟨rfl, rfl⟩ := Prod.mk.inj (Option.some.inj h)
        exact fr_zret F E rfl dX4_head_44
      · rw [if_pos hc12] at h
        refine fr_aload_n (q := 30) F dX4_head_29 rfl rfl ?_
        refine fr_iconst (q := 31) (v := 2) F dX4_head_30 rfl (by decide) ?_
        refine fr_bipush (q := 33) (v := 59) F dX4_head_31 rfl (by decide) ?_
        obtain ⟨r13, n15, hr14, h⟩ := fr_bd2_some h
        refine fr_callV (q := 36) (M' := (n15, u0)) (rest := []) (st' := [.int (fr_b r13)]) F dX4_head_33 rfl (tX4_lawNumber hr14) mlRX4_57 msX4_lawNumber ⟨Nat.le_of_ble_eq_true rfl, Nat.le_of_ble_eq_true rfl⟩ (by decide) rfl rfl rfl (Nat.le_of_ble_eq_true rfl) rfl ?_
        refine fr_if_eqb (q := 39) (tgt := 43) F dX4_head_36 (by decide) rfl (fun hc16 => ?_) (fun hc16 => ?_)
        · rw [if_neg hc16] at h
          refine fr_iconst (q := 44) (v := 0) F dX4_head_43 rfl (by decide) ?_
          obtain ⟨rfl, rfl⟩ := Prod.mk.inj (Option.some.inj h)
          exact fr_zret F E rfl dX4_head_44
        · rw [if_pos hc16] at h
          refine fr_iconst (q := 40) (v := 1) F dX4_head_39 rfl (by decide) ?_
          refine fr_goto (tgt := 44) F dX4_head_40 (by decide) ?_
          obtain ⟨rfl, rfl⟩ := Prod.mk.inj (Option.some.inj h)
          exact fr_zret F E rfl dX4_head_44
/-! FeastRota$Reader.kindOf (None,) -/
def fX4_kindOf (a0 : Int32) : Option Int32 := if a0 = (98 : Int32) then some (0 : Int32) else (if a0 = (100 : Int32) then some (3 : Int32) else (if a0 = (102 : Int32) then some (1 : Int32) else (if a0 = (110 : Int32) then some (2 : Int32) else (some (-1000000 : Int32)))))
theorem tX4_kindOf {l : Launch} {G : fr_G} {M0 : fr_M} {a0 : Int32} {rz : Int32} (h : fX4_kindOf a0 = some rz) : fr_Met l G YX4_kindOf [.int a0] M0 (some (.int rz)) M0 := by
  refine fr_met (pad := List.replicate 0 none) (by decide) (Nat.le_of_ble_eq_true rfl) (fun _ h => List.eq_of_mem_replicate h) ⟨rfl, rfl⟩ (fun K F hG hL E => ?_)
  subst hG; subst hL
  rw [fX4_kindOf] at h
  show fr_V YX4_kindOf K 0 [some (.int a0)] [] M0
  refine fr_iload_n (q := 1) F dX4_kindOf_0 rfl rfl ?_
  by_cases hc1 : a0 = (98 : Int32)
  · rw [if_pos hc1] at h
    refine fr_lsw (off := 43) (tgt := 44) F dX4_kindOf_1 (by decide) (by rw [hc1]; decide) (by decide) ?_
    refine fr_iconst (q := 45) (v := 0) F dX4_kindOf_44 rfl (by decide) ?_
    obtain rfl := Option.some.inj h
    exact fr_iret F E rfl dX4_kindOf_45
  · rw [if_neg hc1] at h
    by_cases hc2 : a0 = (100 : Int32)
    · rw [if_pos hc2] at h
      refine fr_lsw (off := 49) (tgt := 50) F dX4_kindOf_1 (by decide) (by rw [hc2]; decide) (by decide) ?_
      refine fr_iconst (q := 51) (v := 3) F dX4_kindOf_50 rfl (by decide) ?_
      obtain rfl := Option.some.inj h
      exact fr_iret F E rfl dX4_kindOf_51
    · rw [if_neg hc2] at h
      by_cases hc3 : a0 = (102 : Int32)
      · rw [if_pos hc3] at h
        refine fr_lsw (off := 45) (tgt := 46) F dX4_kindOf_1 (by decide) (by rw [hc3]; decide) (by decide) ?_
        refine fr_iconst (q := 47) (v := 1) F dX4_kindOf_46 rfl (by decide) ?_
        obtain rfl := Option.some.inj h
        exact fr_iret F E rfl dX4_kindOf_47
      · rw [if_neg hc3] at h
        by_cases hc4 : a0 = (110 : Int32)
        · rw [if_pos hc4] at h
          refine fr_lsw (off := 47) (tgt := 48) F dX4_kindOf_1 (by decide) (by rw [hc4]; decide) (by decide) ?_
          refine fr_iconst (q := 49) (v := 2) F dX4_kindOf_48 rfl (by decide) ?_
          obtain rfl := Option.some.inj h
          exact fr_iret F E rfl dX4_kindOf_49
        · rw [if_neg hc4] at h
          refine fr_lsw (off := 51) (tgt := 52) F dX4_kindOf_1 (by decide) (by show Op.lookupswitch.offset [(98, 43), (100, 49), (102, 45), (110, 47)] 51 _ = _; rw [lv_osw hc1 (by decide), lv_osw hc2 (by decide), lv_osw hc3 (by decide), lv_osw hc4 (by decide)]; rfl) (by decide) ?_
          refine fr_ldc (q := 54) F dX4_kindOf_52 rfl kcRX4_69 ?_
          obtain rfl := Option.some.inj h
          exact fr_iret F E rfl dX4_kindOf_54
/-! FeastRota$Book.leastN (None,) -/
def fX1_leastN (a0 : Int32) : Option Int32 := if a0 = 0 then some (0 : Int32) else if a0 = (1 : Int32) then some (0 : Int32) else some (1 : Int32)
theorem tX1_leastN {l : Launch} {G : fr_G} {M0 : fr_M} {a0 : Int32} {rz : Int32} (h : fX1_leastN a0 = some rz) : fr_Met l G YX1_leastN [.int a0] M0 (some (.int rz)) M0 := by
  refine fr_met (pad := List.replicate 0 none) (by decide) (Nat.le_of_ble_eq_true rfl) (fun _ h => List.eq_of_mem_replicate h) ⟨rfl, rfl⟩ (fun K F hG hL E => ?_)
  subst hG; subst hL
  rw [fX1_leastN] at h
  show fr_V YX1_leastN K 0 [some (.int a0)] [] M0
  refine fr_iload_n (q := 1) F dX1_leastN_0 rfl rfl ?_
  refine fr_if_eq (q := 4) (tgt := 9) F dX1_leastN_1 (by decide) rfl (fun hc1 => ?_) (fun hc1 => ?_)
  · rw [if_pos hc1] at h
    refine fr_iconst (q := 10) (v := 0) F dX1_leastN_9 rfl (by decide) ?_
    refine fr_goto (tgt := 14) F dX1_leastN_10 (by decide) ?_
    obtain rfl := Option.some.inj h
    exact fr_iret F E rfl dX1_leastN_14
  · rw [if_neg hc1] at h
    refine fr_iload_n (q := 5) F dX1_leastN_4 rfl rfl ?_
    refine fr_iconst (q := 6) (v := 1) F dX1_leastN_5 rfl (by decide) ?_
    refine fr_icmp_ne (q := 9) (tgt := 13) F dX1_leastN_6 (by decide) rfl (fun hc2 => ?_) (fun hc2 => ?_)
    · rw [if_neg hc2] at h
      refine fr_iconst (q := 14) (v := 1) F dX1_leastN_13 rfl (by decide) ?_
      obtain rfl := Option.some.inj h
      exact fr_iret F E rfl dX1_leastN_14
    · rw [if_pos hc2] at h
      refine fr_iconst (q := 10) (v := 0) F dX1_leastN_9 rfl (by decide) ?_
      refine fr_goto (tgt := 14) F dX1_leastN_10 (by decide) ?_
      obtain rfl := Option.some.inj h
      exact fr_iret F E rfl dX1_leastN_14
/-! FeastRota$Book.greatestN (None,) -/
def fX1_greatestN (a0 : Int32) : Option Int32 := if a0 = 0 then some (99 : Int32) else if a0 = (1 : Int32) then some (99 : Int32) else some (365 : Int32)
theorem tX1_greatestN {l : Launch} {G : fr_G} {M0 : fr_M} {a0 : Int32} {rz : Int32} (h : fX1_greatestN a0 = some rz) : fr_Met l G YX1_greatestN [.int a0] M0 (some (.int rz)) M0 := by
  refine fr_met (pad := List.replicate 0 none) (by decide) (Nat.le_of_ble_eq_true rfl) (fun _ h => List.eq_of_mem_replicate h) ⟨rfl, rfl⟩ (fun K F hG hL E => ?_)
  subst hG; subst hL
  rw [fX1_greatestN] at h
  show fr_V YX1_greatestN K 0 [some (.int a0)] [] M0
  refine fr_iload_n (q := 1) F dX1_greatestN_0 rfl rfl ?_
  refine fr_if_eq (q := 4) (tgt := 9) F dX1_greatestN_1 (by decide) rfl (fun hc1 => ?_) (fun hc1 => ?_)
  · rw [if_pos hc1] at h
    refine fr_bipush (q := 11) (v := 99) F dX1_greatestN_9 rfl (by decide) ?_
    refine fr_goto (tgt := 17) F dX1_greatestN_11 (by decide) ?_
    obtain rfl := Option.some.inj h
    exact fr_iret F E rfl dX1_greatestN_17
  · rw [if_neg hc1] at h
    refine fr_iload_n (q := 5) F dX1_greatestN_4 rfl rfl ?_
    refine fr_iconst (q := 6) (v := 1) F dX1_greatestN_5 rfl (by decide) ?_
    refine fr_icmp_ne (q := 9) (tgt := 14) F dX1_greatestN_6 (by decide) rfl (fun hc2 => ?_) (fun hc2 => ?_)
    · rw [if_neg hc2] at h
      refine fr_sipush (q := 17) (v := 365) F dX1_greatestN_14 rfl (by decide) ?_
      obtain rfl := Option.some.inj h
      exact fr_iret F E rfl dX1_greatestN_17
    · rw [if_pos hc2] at h
      refine fr_bipush (q := 11) (v := 99) F dX1_greatestN_9 rfl (by decide) ?_
      refine fr_goto (tgt := 17) F dX1_greatestN_11 (by decide) ?_
      obtain rfl := Option.some.inj h
      exact fr_iret F E rfl dX1_greatestN_17
/-! FeastRota$Book.tellFeast (35, None, None, None, None) -/
def fX1_tellFeast_35 (a1 : Int32) (a2 : Int32) (a3 : Int32) (a4 : Int32) (n0 : fr_N) : Option fr_N := if (n0 35 1) < (12 : Int32) then fr_ck (((n0 35 1) * (4 : Int32)) + (0 : Int32)) 48 (fr_lt (fr_up n0 37 (Int32.toNatClampNeg (((n0 35 1) * (4 : Int32)) + (0 : Int32))) a1) fun n3 => (fr_ck (((n0 35 1) * (4 : Int32)) + (1 : Int32)) 48 (fr_lt (fr_up n3 37 (Int32.toNatClampNeg (((n0 35 1) * (4 : Int32)) + (1 : Int32))) a2) fun n6 => (fr_ck (((n0 35 1) * (4 : Int32)) + (2 : Int32)) 48 (fr_lt (fr_up n6 37 (Int32.toNatClampNeg (((n0 35 1) * (4 : Int32)) + (2 : Int32))) a3) fun n9 => (fr_ck (((n0 35 1) * (4 : Int32)) + (3 : Int32)) 48 (fr_lt (fr_up n9 37 (Int32.toNatClampNeg (((n0 35 1) * (4 : Int32)) + (3 : Int32))) a4) fun n12 => (fr_lt (fr_up n12 35 1 ((n12 35 1) + (1 : Int32))) fun n14 => (some n14))))))))) else some n0
theorem tX1_tellFeast_35 {l : Launch} {G : fr_G} {u0 : fr_N} {a1 : Int32} {a2 : Int32} {a3 : Int32} {a4 : Int32} {n0 : fr_N} {nz : fr_N} (h : fX1_tellFeast_35 a1 a2 a3 a4 n0 = some nz) : fr_Met l G YX1_tellFeast [.ref 35, .int a1, .int a2, .int a3, .int a4] (n0, u0) none (nz, u0) := by
  refine fr_met (pad := List.replicate 1 none) (by decide) (Nat.le_of_ble_eq_true rfl) (fun _ h => List.eq_of_mem_replicate h) ⟨rfl, rfl⟩ (fun K F hG hL E => ?_)
  subst hG; subst hL
  rw [fX1_tellFeast_35] at h
  show fr_V YX1_tellFeast K 0 [some (.ref 35), some (.int a1), some (.int a2), some (.int a3), some (.int a4), none] [] (n0, u0)
  refine fr_aload_n (q := 1) F dX1_tellFeast_0 rfl rfl ?_
  refine fr_gfI (q := 4) (x := (n0 35 1)) F dX1_tellFeast_1 rfl faRX1_48 (by decide) rfl rfl rfl ?_
  refine fr_bipush (q := 6) (v := 12) F dX1_tellFeast_4 rfl (by decide) ?_
  refine fr_icmp_lt (q := 9) (tgt := 10) F dX1_tellFeast_6 (by decide) rfl (fun hc1 => ?_) (fun hc1 => ?_)
  · rw [if_pos hc1] at h
    refine fr_aload_n (q := 11) F dX1_tellFeast_10 rfl rfl ?_
    refine fr_gfI (q := 14) (x := (n0 35 1)) F dX1_tellFeast_11 rfl faRX1_48 (by decide) rfl rfl rfl ?_
    refine fr_iconst (q := 15) (v := 4) F dX1_tellFeast_14 rfl (by decide) ?_
    refine fr_imul (q := 16) F dX1_tellFeast_15 rfl ?_
    refine fr_istore (q := 18) F dX1_tellFeast_16 rfl (by decide) rfl ?_
    refine fr_aload_n (q := 19) F dX1_tellFeast_18 rfl rfl ?_
    refine fr_gfR (q := 22) (j := 37) F dX1_tellFeast_19 rfl faRX1_15 (by decide) rfl rfl ?_
    refine fr_iload (q := 24) F dX1_tellFeast_22 rfl rfl ?_
    refine fr_iconst (q := 25) (v := 0) F dX1_tellFeast_24 rfl (by decide) ?_
    refine fr_iadd (q := 26) F dX1_tellFeast_25 rfl ?_
    refine fr_iload_n (q := 27) F dX1_tellFeast_26 rfl rfl ?_
    obtain ⟨hi2, h⟩ := fr_ck_some h
    obtain ⟨n3, hn4, h⟩ := fr_lt_some h
    refine fr_ias (q := 28) (M' := (n3, u0)) F dX1_tellFeast_27 rfl hi2 (by decide) rfl (congrArg (fun z => (z, u0)) hn4) ?_
    refine fr_aload_n (q := 29) F dX1_tellFeast_28 rfl rfl ?_
    refine fr_gfR (q := 32) (j := 37) F dX1_tellFeast_29 rfl faRX1_15 (by decide) rfl rfl ?_
    refine fr_iload (q := 34) F dX1_tellFeast_32 rfl rfl ?_
    refine fr_iconst (q := 35) (v := 1) F dX1_tellFeast_34 rfl (by decide) ?_
    refine fr_iadd (q := 36) F dX1_tellFeast_35 rfl ?_
    refine fr_iload_n (q := 37) F dX1_tellFeast_36 rfl rfl ?_
    obtain ⟨hi5, h⟩ := fr_ck_some h
    obtain ⟨n6, hn7, h⟩ := fr_lt_some h
    refine fr_ias (q := 38) (M' := (n6, u0)) F dX1_tellFeast_37 rfl hi5 (by decide) rfl (congrArg (fun z => (z, u0)) hn7) ?_
    refine fr_aload_n (q := 39) F dX1_tellFeast_38 rfl rfl ?_
    refine fr_gfR (q := 42) (j := 37) F dX1_tellFeast_39 rfl faRX1_15 (by decide) rfl rfl ?_
    refine fr_iload (q := 44) F dX1_tellFeast_42 rfl rfl ?_
    refine fr_iconst (q := 45) (v := 2) F dX1_tellFeast_44 rfl (by decide) ?_
    refine fr_iadd (q := 46) F dX1_tellFeast_45 rfl ?_
    refine fr_iload_n (q := 47) F dX1_tellFeast_46 rfl rfl ?_
    obtain ⟨hi8, h⟩ := fr_ck_some h
    obtain ⟨n9, hn10, h⟩ := fr_lt_some h
    refine fr_ias (q := 48) (M' := (n9, u0)) F dX1_tellFeast_47 rfl hi8 (by decide) rfl (congrArg (fun z => (z, u0)) hn10) ?_
    refine fr_aload_n (q := 49) F dX1_tellFeast_48 rfl rfl ?_
    refine fr_gfR (q := 52) (j := 37) F dX1_tellFeast_49 rfl faRX1_15 (by decide) rfl rfl ?_
    refine fr_iload (q := 54) F dX1_tellFeast_52 rfl rfl ?_
    refine fr_iconst (q := 55) (v := 3) F dX1_tellFeast_54 rfl (by decide) ?_
    refine fr_iadd (q := 56) F dX1_tellFeast_55 rfl ?_
    refine fr_iload (q := 58) F dX1_tellFeast_56 rfl rfl ?_
    obtain ⟨hi11, h⟩ := fr_ck_some h
    obtain ⟨n12, hn13, h⟩ := fr_lt_some h
    refine fr_ias (q := 59) (M' := (n12, u0)) F dX1_tellFeast_58 rfl hi11 (by decide) rfl (congrArg (fun z => (z, u0)) hn13) ?_
    refine fr_aload_n (q := 60) F dX1_tellFeast_59 rfl rfl ?_
    refine fr_dup (q := 61) F dX1_tellFeast_60 rfl rfl ?_
    refine fr_gfI (q := 64) (x := (n12 35 1)) F dX1_tellFeast_61 rfl faRX1_48 (by decide) rfl rfl rfl ?_
    refine fr_iconst (q := 65) (v := 1) F dX1_tellFeast_64 rfl (by decide) ?_
    refine fr_iadd (q := 66) F dX1_tellFeast_65 rfl ?_
    obtain ⟨n14, hn15, h⟩ := fr_lt_some h
    refine fr_pfI (q := 69) (M' := (n14, u0)) F dX1_tellFeast_66 rfl fpRX1_48 (by decide) rfl rfl (congrArg (fun z => (z, u0)) hn15) ?_
    obtain rfl := Option.some.inj h
    exact fr_vret F E rfl dX1_tellFeast_69
  · rw [if_neg hc1] at h
    obtain rfl := Option.some.inj h
    exact fr_vret F E rfl dX1_tellFeast_9
/-! FeastRota$Reader.oneFeast (34, None) -/
def fX4_oneFeast (a1 : Int32) (n0 : fr_N) : Option (Bool × fr_N) := fr_lt (fr_up n0 34 2 ((n0 34 2) + (1 : Int32))) fun n1 => (fr_bd (fX1_leastN a1) fun r3 => (fr_bd (fX1_greatestN a1) fun r5 => (fr_bd2 (fX4_number r3 r5 (44 : Int32) n1) fun r7 n9 => (if r7 = true then fr_bd2 (fX4_number (1 : Int32) (5 : Int32) (44 : Int32) n9) fun r11 n13 => (if r11 = true then fr_bd2 (fX4_number (1 : Int32) (6 : Int32) (59 : Int32) n13) fun r15 n17 => (if r15 = true then fr_bd (fX1_tellFeast_35 a1 (n9 34 3) (n13 34 3) (n17 34 3) n17) fun n21 => (some (true, n21)) else some (false, n17)) else some (false, n13)) else some (false, n9)))))
theorem tX4_oneFeast {l : Launch} {G : fr_G} {u0 : fr_N} {a1 : Int32} {n0 : fr_N} {rz : Bool} {nz : fr_N} (h : fX4_oneFeast a1 n0 = some (rz, nz)) : fr_Met l G YX4_oneFeast [.ref 34, .int a1] (n0, u0) (some (.int (fr_b rz))) (nz, u0) := by
  refine fr_met (pad := List.replicate 2 none) (by decide) (Nat.le_of_ble_eq_true rfl) (fun _ h => List.eq_of_mem_replicate h) ⟨rfl, rfl⟩ (fun K F hG hL E => ?_)
  subst hG; subst hL
  rw [fX4_oneFeast] at h
  show fr_V YX4_oneFeast K 0 [some (.ref 34), some (.int a1), none, none] [] (n0, u0)
  refine fr_aload_n (q := 1) F dX4_oneFeast_0 rfl rfl ?_
  refine fr_dup (q := 2) F dX4_oneFeast_1 rfl rfl ?_
  refine fr_gfI (q := 5) (x := (n0 34 2)) F dX4_oneFeast_2 rfl faRX4_19 (by decide) rfl rfl rfl ?_
  refine fr_iconst (q := 6) (v := 1) F dX4_oneFeast_5 rfl (by decide) ?_
  refine fr_iadd (q := 7) F dX4_oneFeast_6 rfl ?_
  obtain ⟨n1, hn2, h⟩ := fr_lt_some h
  refine fr_pfI (q := 10) (M' := (n1, u0)) F dX4_oneFeast_7 rfl fpRX4_19 (by decide) rfl rfl (congrArg (fun z => (z, u0)) hn2) ?_
  refine fr_aload_n (q := 11) F dX4_oneFeast_10 rfl rfl ?_
  refine fr_iload_n (q := 12) F dX4_oneFeast_11 rfl rfl ?_
  obtain ⟨r3, hr4, h⟩ := fr_bd_some h
  refine fr_callS (q := 15) (M' := (n1, u0)) (rest := [.ref 34]) (st' := [.int r3, .ref 34]) F dX4_oneFeast_12 rfl (tX1_leastN hr4) mlRX4_78 msX1_leastN ⟨Nat.le_of_ble_eq_true rfl, Nat.le_of_ble_eq_true rfl⟩ rfl rfl (Nat.le_of_ble_eq_true rfl) rfl ?_
  refine fr_iload_n (q := 16) F dX4_oneFeast_15 rfl rfl ?_
  obtain ⟨r5, hr6, h⟩ := fr_bd_some h
  refine fr_callS (q := 19) (M' := (n1, u0)) (rest := [.int r3, .ref 34]) (st' := [.int r5, .int r3, .ref 34]) F dX4_oneFeast_16 rfl (tX1_greatestN hr6) mlRX4_81 msX1_greatestN ⟨Nat.le_of_ble_eq_true rfl, Nat.le_of_ble_eq_true rfl⟩ rfl rfl (Nat.le_of_ble_eq_true rfl) rfl ?_
  refine fr_bipush (q := 21) (v := 44) F dX4_oneFeast_19 rfl (by decide) ?_
  obtain ⟨r7, n9, hr8, h⟩ := fr_bd2_some h
  refine fr_callV (q := 24) (M' := (n9, u0)) (rest := []) (st' := [.int (fr_b r7)]) F dX4_oneFeast_21 rfl (tX4_number hr8) mlRX4_84 msX4_number ⟨Nat.le_of_ble_eq_true rfl, Nat.le_of_ble_eq_true rfl⟩ (by decide) rfl rfl rfl (Nat.le_of_ble_eq_true rfl) rfl ?_
  refine fr_if_neb (q := 27) (tgt := 29) F dX4_oneFeast_24 (by decide) rfl (fun hc10 => ?_) (fun hc10 => ?_)
  · rw [if_pos hc10] at h
    refine fr_aload_n (q := 30) F dX4_oneFeast_29 rfl rfl ?_
    refine fr_gfI (q := 33) (x := (n9 34 3)) F dX4_oneFeast_30 rfl faRX4_88 (by decide) rfl rfl rfl ?_
    refine fr_istore_n (q := 34) F dX4_oneFeast_33 rfl (by decide) rfl ?_
    refine fr_aload_n (q := 35) F dX4_oneFeast_34 rfl rfl ?_
    refine fr_iconst (q := 36) (v := 1) F dX4_oneFeast_35 rfl (by decide) ?_
    refine fr_iconst (q := 37) (v := 5) F dX4_oneFeast_36 rfl (by decide) ?_
    refine fr_bipush (q := 39) (v := 44) F dX4_oneFeast_37 rfl (by decide) ?_
    obtain ⟨r11, n13, hr12, h⟩ := fr_bd2_some h
    refine fr_callV (q := 42) (M' := (n13, u0)) (rest := []) (st' := [.int (fr_b r11)]) F dX4_oneFeast_39 rfl (tX4_number hr12) mlRX4_84 msX4_number ⟨Nat.le_of_ble_eq_true rfl, Nat.le_of_ble_eq_true rfl⟩ (by decide) rfl rfl rfl (Nat.le_of_ble_eq_true rfl) rfl ?_
    refine fr_if_neb (q := 45) (tgt := 47) F dX4_oneFeast_42 (by decide) rfl (fun hc14 => ?_) (fun hc14 => ?_)
    · rw [if_pos hc14] at h
      refine fr_aload_n (q := 48) F dX4_oneFeast_47 rfl rfl ?_
      refine fr_gfI (q := 51) (x := (n13 34 3)) F dX4_oneFeast_48 rfl faRX4_88 (by decide) rfl rfl rfl ?_
      refine fr_istore_n (q := 52) F dX4_oneFeast_51 rfl (by decide) rfl ?_
      refine fr_aload_n (q := 53) F dX4_oneFeast_52 rfl rfl ?_
      refine fr_iconst (q := 54) (v := 1) F dX4_oneFeast_53 rfl (by decide) ?_
      refine fr_bipush (q := 56) (v := 6) F dX4_oneFeast_54 rfl (by decide) ?_
      refine fr_bipush (q := 58) (v := 59) F dX4_oneFeast_56 rfl (by decide) ?_
      obtain ⟨r15, n17, hr16, h⟩ := fr_bd2_some h
      refine fr_callV (q := 61) (M' := (n17, u0)) (rest := []) (st' := [.int (fr_b r15)]) F dX4_oneFeast_58 rfl (tX4_number hr16) mlRX4_84 msX4_number ⟨Nat.le_of_ble_eq_true rfl, Nat.le_of_ble_eq_true rfl⟩ (by decide) rfl rfl rfl (Nat.le_of_ble_eq_true rfl) rfl ?_
      refine fr_if_neb (q := 64) (tgt := 66) F dX4_oneFeast_61 (by decide) rfl (fun hc18 => ?_) (fun hc18 => ?_)
      · rw [if_pos hc18] at h
        refine fr_aload_n (q := 67) F dX4_oneFeast_66 rfl rfl ?_
        refine fr_gfR (q := 70) (j := 35) F dX4_oneFeast_67 rfl faRX4_15 (by decide) rfl rfl ?_
        refine fr_iload_n (q := 71) F dX4_oneFeast_70 rfl rfl ?_
        refine fr_iload_n (q := 72) F dX4_oneFeast_71 rfl rfl ?_
        refine fr_iload_n (q := 73) F dX4_oneFeast_72 rfl rfl ?_
        refine fr_aload_n (q := 74) F dX4_oneFeast_73 rfl rfl ?_
        refine fr_gfI (q := 77) (x := (n17 34 3)) F dX4_oneFeast_74 rfl faRX4_88 (by decide) rfl rfl rfl ?_
        obtain ⟨n21, hr20, h⟩ := fr_bd_some h
        refine fr_callV (q := 80) (M' := (n21, u0)) (rest := []) (st' := []) F dX4_oneFeast_77 rfl (tX1_tellFeast_35 hr20) mlRX4_91 msX1_tellFeast ⟨Nat.le_of_ble_eq_true rfl, Nat.le_of_ble_eq_true rfl⟩ (by decide) rfl rfl rfl (Nat.le_of_ble_eq_true rfl) rfl ?_
        refine fr_iconst (q := 81) (v := 1) F dX4_oneFeast_80 rfl (by decide) ?_
        obtain ⟨rfl, rfl⟩ := Prod.mk.inj (Option.some.inj h)
        exact fr_zret F E rfl dX4_oneFeast_81
      · rw [if_neg hc18] at h
        refine fr_iconst (q := 65) (v := 0) F dX4_oneFeast_64 rfl (by decide) ?_
        obtain ⟨rfl, rfl⟩ := Prod.mk.inj (Option.some.inj h)
        exact fr_zret F E rfl dX4_oneFeast_65
    · rw [if_neg hc14] at h
      refine fr_iconst (q := 46) (v := 0) F dX4_oneFeast_45 rfl (by decide) ?_
      obtain ⟨rfl, rfl⟩ := Prod.mk.inj (Option.some.inj h)
      exact fr_zret F E rfl dX4_oneFeast_46
  · rw [if_neg hc10] at h
    refine fr_iconst (q := 28) (v := 0) F dX4_oneFeast_27 rfl (by decide) ?_
    obtain ⟨rfl, rfl⟩ := Prod.mk.inj (Option.some.inj h)
    exact fr_zret F E rfl dX4_oneFeast_28
/-! FeastRota$Reader.feasts (34,) -/
def fX4_feasts_2 : Nat → Int32 → fr_N → Option (Bool × fr_N)
  | 0, _, _ => none
  | k + 1, x1, n0 => if (12 : Int32) < x1 then some (true, n0) else fr_bd (fX6_at (n0 34 2) n0) fun r2 => (fr_bd (fX4_kindOf r2) fun r4 => (if r4 = (-1000000 : Int32) then some (true, n0) else if (n0 35 1) < (12 : Int32) then fr_bd2 (fX4_oneFeast r4 n0) fun r8 n10 => (if r8 = true then (fX4_feasts_2 k) (x1 + (1 : Int32)) n10 else some (false, n10)) else fr_bd2 (fX4_fails (3 : Int32) n0) fun r12 n14 => (some (r12, n14))))
def fX4_feasts (n0 : fr_N) : Option (Bool × fr_N) := fX4_feasts_2 2000 (0 : Int32) n0
theorem tX4_feasts_2 {K : fr_K} {u0 : fr_N} {rz : Bool} {nz : fr_N} (F : fr_F YX4_feasts K) (E : fr_R YX4_feasts K (some (.int (fr_b rz))) (nz, u0)) : ∀ (k : Nat) (x1 : Int32) (n0 : fr_N), fX4_feasts_2 k x1 n0 = some (rz, nz) → fr_V YX4_feasts K 2 [some (.ref 34), some (.int x1), none] [] (n0, u0) := by
  intro k
  induction k with
  | zero =>
    intro x1 n0 h
    rw [fX4_feasts_2] at h
    cases h
  | succ k ih =>
    intro x1 n0 h
    rw [fX4_feasts_2] at h
    refine fr_iload_n (q := 3) F dX4_feasts_2 rfl rfl ?_
    refine fr_bipush (q := 5) (v := 12) F dX4_feasts_3 rfl (by decide) ?_
    refine fr_icmp_gt (q := 8) (tgt := 65) F dX4_feasts_5 (by decide) rfl (fun hc1 => ?_) (fun hc1 => ?_)
    · rw [if_pos hc1] at h
      refine fr_iconst (q := 66) (v := 1) F dX4_feasts_65 rfl (by decide) ?_
      obtain ⟨rfl, rfl⟩ := Prod.mk.inj (Option.some.inj h)
      exact fr_zret F E rfl dX4_feasts_66
    · rw [if_neg hc1] at h
      refine fr_aload_n (q := 9) F dX4_feasts_8 rfl rfl ?_
      refine fr_gfR (q := 12) (j := 1) F dX4_feasts_9 rfl faRX4_9 (by decide) rfl rfl ?_
      refine fr_aload_n (q := 13) F dX4_feasts_12 rfl rfl ?_
      refine fr_gfI (q := 16) (x := (n0 34 2)) F dX4_feasts_13 rfl faRX4_19 (by decide) rfl rfl rfl ?_
      obtain ⟨r2, hr3, h⟩ := fr_bd_some h
      refine fr_callV (q := 19) (M' := (n0, u0)) (rest := []) (st' := [.int r2]) F dX4_feasts_16 rfl (tX6_at hr3) mlRX4_61 msX6_at ⟨Nat.le_of_ble_eq_true rfl, Nat.le_of_ble_eq_true rfl⟩ (by decide) rfl rfl rfl (Nat.le_of_ble_eq_true rfl) rfl ?_
      obtain ⟨r4, hr5, h⟩ := fr_bd_some h
      refine fr_callS (q := 22) (M' := (n0, u0)) (rest := []) (st' := [.int r4]) F dX4_feasts_19 rfl (tX4_kindOf hr5) mlRX4_66 msX4_kindOf ⟨Nat.le_of_ble_eq_true rfl, Nat.le_of_ble_eq_true rfl⟩ rfl rfl (Nat.le_of_ble_eq_true rfl) rfl ?_
      refine fr_istore_n (q := 23) F dX4_feasts_22 rfl (by decide) rfl ?_
      refine fr_iload_n (q := 24) F dX4_feasts_23 rfl rfl ?_
      refine fr_ldc (q := 26) F dX4_feasts_24 rfl kcRX4_69 ?_
      refine fr_icmp_ne (q := 29) (tgt := 31) F dX4_feasts_26 (by decide) rfl (fun hc6 => ?_) (fun hc6 => ?_)
      · rw [if_neg hc6] at h
        refine fr_aload_n (q := 32) F dX4_feasts_31 rfl rfl ?_
        refine fr_gfR (q := 35) (j := 35) F dX4_feasts_32 rfl faRX4_15 (by decide) rfl rfl ?_
        refine fr_gfI (q := 38) (x := (n0 35 1)) F dX4_feasts_35 rfl faRX4_70 (by decide) rfl rfl rfl ?_
        refine fr_bipush (q := 40) (v := 12) F dX4_feasts_38 rfl (by decide) ?_
        refine fr_icmp_lt (q := 43) (tgt := 49) F dX4_feasts_40 (by decide) rfl (fun hc7 => ?_) (fun hc7 => ?_)
        · rw [if_pos hc7] at h
          refine fr_aload_n (q := 50) F dX4_feasts_49 rfl rfl ?_
          refine fr_iload_n (q := 51) F dX4_feasts_50 rfl rfl ?_
          obtain ⟨r8, n10, hr9, h⟩ := fr_bd2_some h
          refine fr_callV (q := 54) (M' := (n10, u0)) (rest := []) (st' := [.int (fr_b r8)]) F dX4_feasts_51 rfl (tX4_oneFeast hr9) mlRX4_75 msX4_oneFeast ⟨Nat.le_of_ble_eq_true rfl, Nat.le_of_ble_eq_true rfl⟩ (by decide) rfl rfl rfl (Nat.le_of_ble_eq_true rfl) rfl ?_
          refine fr_if_neb (q := 57) (tgt := 59) F dX4_feasts_54 (by decide) rfl (fun hc11 => ?_) (fun hc11 => ?_)
          · rw [if_pos hc11] at h
            refine fr_iinc (q := 62) (v := (x1 + (1 : Int32))) F dX4_feasts_59 rfl rfl rfl (by decide) rfl ?_
            refine fr_goto (tgt := 2) F dX4_feasts_62 (by decide) ?_
            exact fr_wj (ih _ _ h) ⟨rfl, ⟨rfl, trivial⟩⟩
          · rw [if_neg hc11] at h
            refine fr_iconst (q := 58) (v := 0) F dX4_feasts_57 rfl (by decide) ?_
            obtain ⟨rfl, rfl⟩ := Prod.mk.inj (Option.some.inj h)
            exact fr_zret F E rfl dX4_feasts_58
        · rw [if_neg hc7] at h
          refine fr_aload_n (q := 44) F dX4_feasts_43 rfl rfl ?_
          refine fr_iconst (q := 45) (v := 3) F dX4_feasts_44 rfl (by decide) ?_
          obtain ⟨r12, n14, hr13, h⟩ := fr_bd2_some h
          refine fr_callV (q := 48) (M' := (n14, u0)) (rest := []) (st' := [.int (fr_b r12)]) F dX4_feasts_45 rfl (tX4_fails hr13) mlRX4_72 msX4_fails ⟨Nat.le_of_ble_eq_true rfl, Nat.le_of_ble_eq_true rfl⟩ (by decide) rfl rfl rfl (Nat.le_of_ble_eq_true rfl) rfl ?_
          obtain ⟨rfl, rfl⟩ := Prod.mk.inj (Option.some.inj h)
          exact fr_zret F E rfl dX4_feasts_48
      · rw [if_pos hc6] at h
        refine fr_iconst (q := 30) (v := 1) F dX4_feasts_29 rfl (by decide) ?_
        obtain ⟨rfl, rfl⟩ := Prod.mk.inj (Option.some.inj h)
        exact fr_zret F E rfl dX4_feasts_30
theorem tX4_feasts {l : Launch} {G : fr_G} {u0 : fr_N} {n0 : fr_N} {rz : Bool} {nz : fr_N} (h : fX4_feasts n0 = some (rz, nz)) : fr_Met l G YX4_feasts [.ref 34] (n0, u0) (some (.int (fr_b rz))) (nz, u0) := by
  refine fr_met (pad := List.replicate 2 none) (by decide) (Nat.le_of_ble_eq_true rfl) (fun _ h => List.eq_of_mem_replicate h) ⟨rfl, rfl⟩ (fun K F hG hL E => ?_)
  subst hG; subst hL
  rw [fX4_feasts] at h
  show fr_V YX4_feasts K 0 [some (.ref 34), none, none] [] (n0, u0)
  refine fr_iconst (q := 1) (v := 0) F dX4_feasts_0 rfl (by decide) ?_
  refine fr_istore_n (q := 2) F dX4_feasts_1 rfl (by decide) rfl ?_
  exact fr_wj (tX4_feasts_2 F E _ _ _ h) ⟨rfl, ⟨rfl, trivial⟩⟩
/-! FeastRota$Book.tellSeason (35, None, None, None) -/
def fX1_tellSeason_35 (a1 : Int32) (a2 : Int32) (a3 : Int32) (n0 : fr_N) : Option fr_N := if (n0 35 2) < (4 : Int32) then fr_ck (n0 35 2) 4 (fr_lt (fr_up n0 38 (Int32.toNatClampNeg (n0 35 2)) a1) fun n3 => (fr_ck (n3 35 2) 4 (fr_lt (fr_up n3 39 (Int32.toNatClampNeg (n3 35 2)) a2) fun n6 => (fr_ck (n6 35 2) 4 (fr_lt (fr_up n6 40 (Int32.toNatClampNeg (n6 35 2)) a3) fun n9 => (fr_lt (fr_up n9 35 2 ((n9 35 2) + (1 : Int32))) fun n11 => (some n11))))))) else some n0
theorem tX1_tellSeason_35 {l : Launch} {G : fr_G} {u0 : fr_N} {a1 : Int32} {a2 : Int32} {a3 : Int32} {n0 : fr_N} {nz : fr_N} (h : fX1_tellSeason_35 a1 a2 a3 n0 = some nz) : fr_Met l G YX1_tellSeason [.ref 35, .int a1, .int a2, .int a3] (n0, u0) none (nz, u0) := by
  refine fr_met (pad := List.replicate 0 none) (by decide) (Nat.le_of_ble_eq_true rfl) (fun _ h => List.eq_of_mem_replicate h) ⟨rfl, rfl⟩ (fun K F hG hL E => ?_)
  subst hG; subst hL
  rw [fX1_tellSeason_35] at h
  show fr_V YX1_tellSeason K 0 [some (.ref 35), some (.int a1), some (.int a2), some (.int a3)] [] (n0, u0)
  refine fr_aload_n (q := 1) F dX1_tellSeason_0 rfl rfl ?_
  refine fr_gfI (q := 4) (x := (n0 35 2)) F dX1_tellSeason_1 rfl faRX1_52 (by decide) rfl rfl rfl ?_
  refine fr_iconst (q := 5) (v := 4) F dX1_tellSeason_4 rfl (by decide) ?_
  refine fr_icmp_lt (q := 8) (tgt := 9) F dX1_tellSeason_5 (by decide) rfl (fun hc1 => ?_) (fun hc1 => ?_)
  · rw [if_pos hc1] at h
    refine fr_aload_n (q := 10) F dX1_tellSeason_9 rfl rfl ?_
    refine fr_gfR (q := 13) (j := 38) F dX1_tellSeason_10 rfl faRX1_18 (by decide) rfl rfl ?_
    refine fr_aload_n (q := 14) F dX1_tellSeason_13 rfl rfl ?_
    refine fr_gfI (q := 17) (x := (n0 35 2)) F dX1_tellSeason_14 rfl faRX1_52 (by decide) rfl rfl rfl ?_
    refine fr_iload_n (q := 18) F dX1_tellSeason_17 rfl rfl ?_
    obtain ⟨hi2, h⟩ := fr_ck_some h
    obtain ⟨n3, hn4, h⟩ := fr_lt_some h
    refine fr_ias (q := 19) (M' := (n3, u0)) F dX1_tellSeason_18 rfl hi2 (by decide) rfl (congrArg (fun z => (z, u0)) hn4) ?_
    refine fr_aload_n (q := 20) F dX1_tellSeason_19 rfl rfl ?_
    refine fr_gfR (q := 23) (j := 39) F dX1_tellSeason_20 rfl faRX1_21 (by decide) rfl rfl ?_
    refine fr_aload_n (q := 24) F dX1_tellSeason_23 rfl rfl ?_
    refine fr_gfI (q := 27) (x := (n3 35 2)) F dX1_tellSeason_24 rfl faRX1_52 (by decide) rfl rfl rfl ?_
    refine fr_iload_n (q := 28) F dX1_tellSeason_27 rfl rfl ?_
    obtain ⟨hi5, h⟩ := fr_ck_some h
    obtain ⟨n6, hn7, h⟩ := fr_lt_some h
    refine fr_ias (q := 29) (M' := (n6, u0)) F dX1_tellSeason_28 rfl hi5 (by decide) rfl (congrArg (fun z => (z, u0)) hn7) ?_
    refine fr_aload_n (q := 30) F dX1_tellSeason_29 rfl rfl ?_
    refine fr_gfR (q := 33) (j := 40) F dX1_tellSeason_30 rfl faRX1_24 (by decide) rfl rfl ?_
    refine fr_aload_n (q := 34) F dX1_tellSeason_33 rfl rfl ?_
    refine fr_gfI (q := 37) (x := (n6 35 2)) F dX1_tellSeason_34 rfl faRX1_52 (by decide) rfl rfl rfl ?_
    refine fr_iload_n (q := 38) F dX1_tellSeason_37 rfl rfl ?_
    obtain ⟨hi8, h⟩ := fr_ck_some h
    obtain ⟨n9, hn10, h⟩ := fr_lt_some h
    refine fr_ias (q := 39) (M' := (n9, u0)) F dX1_tellSeason_38 rfl hi8 (by decide) rfl (congrArg (fun z => (z, u0)) hn10) ?_
    refine fr_aload_n (q := 40) F dX1_tellSeason_39 rfl rfl ?_
    refine fr_dup (q := 41) F dX1_tellSeason_40 rfl rfl ?_
    refine fr_gfI (q := 44) (x := (n9 35 2)) F dX1_tellSeason_41 rfl faRX1_52 (by decide) rfl rfl rfl ?_
    refine fr_iconst (q := 45) (v := 1) F dX1_tellSeason_44 rfl (by decide) ?_
    refine fr_iadd (q := 46) F dX1_tellSeason_45 rfl ?_
    obtain ⟨n11, hn12, h⟩ := fr_lt_some h
    refine fr_pfI (q := 49) (M' := (n11, u0)) F dX1_tellSeason_46 rfl fpRX1_52 (by decide) rfl rfl (congrArg (fun z => (z, u0)) hn12) ?_
    obtain rfl := Option.some.inj h
    exact fr_vret F E rfl dX1_tellSeason_49
  · rw [if_neg hc1] at h
    obtain rfl := Option.some.inj h
    exact fr_vret F E rfl dX1_tellSeason_8
/-! FeastRota$Reader.oneSeason (34,) -/
def fX4_oneSeason (n0 : fr_N) : Option (Bool × fr_N) := fr_lt (fr_up n0 34 2 ((n0 34 2) + (1 : Int32))) fun n1 => (fr_bd2 (fX4_number (0 : Int32) ((n1 35 1) - (1 : Int32)) (44 : Int32) n1) fun r3 n5 => (if r3 = true then fr_bd2 (fX4_bareNumber (0 : Int32) ((n5 35 1) - (1 : Int32)) n5) fun r7 n9 => (if r7 = true then if (n9 34 3) = (n5 34 3) then fr_lt (fr_up n9 34 2 (n5 34 2)) fun n23 => (fr_bd2 (fX4_fails (2 : Int32) n23) fun r25 n27 => (some (r25, n27))) else fr_bd2 (fX4_sign (44 : Int32) n9) fun r12 n14 => (if r12 = true then fr_bd2 (fX4_number (1 : Int32) (6 : Int32) (59 : Int32) n14) fun r16 n18 => (if r16 = true then fr_bd (fX1_tellSeason_35 (n5 34 3) (n9 34 3) (n18 34 3) n18) fun n22 => (some (true, n22)) else some (false, n18)) else some (false, n14)) else some (false, n9)) else some (false, n5)))
theorem tX4_oneSeason {l : Launch} {G : fr_G} {u0 : fr_N} {n0 : fr_N} {rz : Bool} {nz : fr_N} (h : fX4_oneSeason n0 = some (rz, nz)) : fr_Met l G YX4_oneSeason [.ref 34] (n0, u0) (some (.int (fr_b rz))) (nz, u0) := by
  refine fr_met (pad := List.replicate 3 none) (by decide) (Nat.le_of_ble_eq_true rfl) (fun _ h => List.eq_of_mem_replicate h) ⟨rfl, rfl⟩ (fun K F hG hL E => ?_)
  subst hG; subst hL
  rw [fX4_oneSeason] at h
  show fr_V YX4_oneSeason K 0 [some (.ref 34), none, none, none] [] (n0, u0)
  refine fr_aload_n (q := 1) F dX4_oneSeason_0 rfl rfl ?_
  refine fr_dup (q := 2) F dX4_oneSeason_1 rfl rfl ?_
  refine fr_gfI (q := 5) (x := (n0 34 2)) F dX4_oneSeason_2 rfl faRX4_19 (by decide) rfl rfl rfl ?_
  refine fr_iconst (q := 6) (v := 1) F dX4_oneSeason_5 rfl (by decide) ?_
  refine fr_iadd (q := 7) F dX4_oneSeason_6 rfl ?_
  obtain ⟨n1, hn2, h⟩ := fr_lt_some h
  refine fr_pfI (q := 10) (M' := (n1, u0)) F dX4_oneSeason_7 rfl fpRX4_19 (by decide) rfl rfl (congrArg (fun z => (z, u0)) hn2) ?_
  refine fr_aload_n (q := 11) F dX4_oneSeason_10 rfl rfl ?_
  refine fr_iconst (q := 12) (v := 0) F dX4_oneSeason_11 rfl (by decide) ?_
  refine fr_aload_n (q := 13) F dX4_oneSeason_12 rfl rfl ?_
  refine fr_gfR (q := 16) (j := 35) F dX4_oneSeason_13 rfl faRX4_15 (by decide) rfl rfl ?_
  refine fr_gfI (q := 19) (x := (n1 35 1)) F dX4_oneSeason_16 rfl faRX4_70 (by decide) rfl rfl rfl ?_
  refine fr_iconst (q := 20) (v := 1) F dX4_oneSeason_19 rfl (by decide) ?_
  refine fr_isub (q := 21) F dX4_oneSeason_20 rfl ?_
  refine fr_bipush (q := 23) (v := 44) F dX4_oneSeason_21 rfl (by decide) ?_
  obtain ⟨r3, n5, hr4, h⟩ := fr_bd2_some h
  refine fr_callV (q := 26) (M' := (n5, u0)) (rest := []) (st' := [.int (fr_b r3)]) F dX4_oneSeason_23 rfl (tX4_number hr4) mlRX4_84 msX4_number ⟨Nat.le_of_ble_eq_true rfl, Nat.le_of_ble_eq_true rfl⟩ (by decide) rfl rfl rfl (Nat.le_of_ble_eq_true rfl) rfl ?_
  refine fr_if_neb (q := 29) (tgt := 31) F dX4_oneSeason_26 (by decide) rfl (fun hc6 => ?_) (fun hc6 => ?_)
  · rw [if_pos hc6] at h
    refine fr_aload_n (q := 32) F dX4_oneSeason_31 rfl rfl ?_
    refine fr_gfI (q := 35) (x := (n5 34 3)) F dX4_oneSeason_32 rfl faRX4_88 (by decide) rfl rfl rfl ?_
    refine fr_istore_n (q := 36) F dX4_oneSeason_35 rfl (by decide) rfl ?_
    refine fr_aload_n (q := 37) F dX4_oneSeason_36 rfl rfl ?_
    refine fr_gfI (q := 40) (x := (n5 34 2)) F dX4_oneSeason_37 rfl faRX4_19 (by decide) rfl rfl rfl ?_
    refine fr_istore_n (q := 41) F dX4_oneSeason_40 rfl (by decide) rfl ?_
    refine fr_aload_n (q := 42) F dX4_oneSeason_41 rfl rfl ?_
    refine fr_iconst (q := 43) (v := 0) F dX4_oneSeason_42 rfl (by decide) ?_
    refine fr_aload_n (q := 44) F dX4_oneSeason_43 rfl rfl ?_
    refine fr_gfR (q := 47) (j := 35) F dX4_oneSeason_44 rfl faRX4_15 (by decide) rfl rfl ?_
    refine fr_gfI (q := 50) (x := (n5 35 1)) F dX4_oneSeason_47 rfl faRX4_70 (by decide) rfl rfl rfl ?_
    refine fr_iconst (q := 51) (v := 1) F dX4_oneSeason_50 rfl (by decide) ?_
    refine fr_isub (q := 52) F dX4_oneSeason_51 rfl ?_
    obtain ⟨r7, n9, hr8, h⟩ := fr_bd2_some h
    refine fr_callV (q := 55) (M' := (n9, u0)) (rest := []) (st' := [.int (fr_b r7)]) F dX4_oneSeason_52 rfl (tX4_bareNumber hr8) mlRX4_100 msX4_bareNumber ⟨Nat.le_of_ble_eq_true rfl, Nat.le_of_ble_eq_true rfl⟩ (by decide) rfl rfl rfl (Nat.le_of_ble_eq_true rfl) rfl ?_
    refine fr_if_neb (q := 58) (tgt := 60) F dX4_oneSeason_55 (by decide) rfl (fun hc10 => ?_) (fun hc10 => ?_)
    · rw [if_pos hc10] at h
      refine fr_aload_n (q := 61) F dX4_oneSeason_60 rfl rfl ?_
      refine fr_gfI (q := 64) (x := (n9 34 3)) F dX4_oneSeason_61 rfl faRX4_88 (by decide) rfl rfl rfl ?_
      refine fr_istore_n (q := 65) F dX4_oneSeason_64 rfl (by decide) rfl ?_
      refine fr_iload_n (q := 66) F dX4_oneSeason_65 rfl rfl ?_
      refine fr_iload_n (q := 67) F dX4_oneSeason_66 rfl rfl ?_
      refine fr_icmp_ne (q := 70) (tgt := 81) F dX4_oneSeason_67 (by decide) rfl (fun hc11 => ?_) (fun hc11 => ?_)
      · rw [if_neg hc11] at h
        refine fr_aload_n (q := 82) F dX4_oneSeason_81 rfl rfl ?_
        refine fr_bipush (q := 84) (v := 44) F dX4_oneSeason_82 rfl (by decide) ?_
        obtain ⟨r12, n14, hr13, h⟩ := fr_bd2_some h
        refine fr_callV (q := 87) (M' := (n14, u0)) (rest := []) (st' := [.int (fr_b r12)]) F dX4_oneSeason_84 rfl (tX4_sign hr13) mlRX4_53 msX4_sign ⟨Nat.le_of_ble_eq_true rfl, Nat.le_of_ble_eq_true rfl⟩ (by decide) rfl rfl rfl (Nat.le_of_ble_eq_true rfl) rfl ?_
        refine fr_if_eqb (q := 90) (tgt := 102) F dX4_oneSeason_87 (by decide) rfl (fun hc15 => ?_) (fun hc15 => ?_)
        · rw [if_neg hc15] at h
          refine fr_iconst (q := 103) (v := 0) F dX4_oneSeason_102 rfl (by decide) ?_
          obtain ⟨rfl, rfl⟩ := Prod.mk.inj (Option.some.inj h)
          exact fr_zret F E rfl dX4_oneSeason_103
        · rw [if_pos hc15] at h
          refine fr_aload_n (q := 91) F dX4_oneSeason_90 rfl rfl ?_
          refine fr_iconst (q := 92) (v := 1) F dX4_oneSeason_91 rfl (by decide) ?_
          refine fr_bipush (q := 94) (v := 6) F dX4_oneSeason_92 rfl (by decide) ?_
          refine fr_bipush (q := 96) (v := 59) F dX4_oneSeason_94 rfl (by decide) ?_
          obtain ⟨r16, n18, hr17, h⟩ := fr_bd2_some h
          refine fr_callV (q := 99) (M' := (n18, u0)) (rest := []) (st' := [.int (fr_b r16)]) F dX4_oneSeason_96 rfl (tX4_number hr17) mlRX4_84 msX4_number ⟨Nat.le_of_ble_eq_true rfl, Nat.le_of_ble_eq_true rfl⟩ (by decide) rfl rfl rfl (Nat.le_of_ble_eq_true rfl) rfl ?_
          refine fr_if_neb (q := 102) (tgt := 104) F dX4_oneSeason_99 (by decide) rfl (fun hc19 => ?_) (fun hc19 => ?_)
          · rw [if_pos hc19] at h
            refine fr_aload_n (q := 105) F dX4_oneSeason_104 rfl rfl ?_
            refine fr_gfR (q := 108) (j := 35) F dX4_oneSeason_105 rfl faRX4_15 (by decide) rfl rfl ?_
            refine fr_iload_n (q := 109) F dX4_oneSeason_108 rfl rfl ?_
            refine fr_iload_n (q := 110) F dX4_oneSeason_109 rfl rfl ?_
            refine fr_aload_n (q := 111) F dX4_oneSeason_110 rfl rfl ?_
            refine fr_gfI (q := 114) (x := (n18 34 3)) F dX4_oneSeason_111 rfl faRX4_88 (by decide) rfl rfl rfl ?_
            obtain ⟨n22, hr21, h⟩ := fr_bd_some h
            refine fr_callV (q := 117) (M' := (n22, u0)) (rest := []) (st' := []) F dX4_oneSeason_114 rfl (tX1_tellSeason_35 hr21) mlRX4_103 msX1_tellSeason ⟨Nat.le_of_ble_eq_true rfl, Nat.le_of_ble_eq_true rfl⟩ (by decide) rfl rfl rfl (Nat.le_of_ble_eq_true rfl) rfl ?_
            refine fr_iconst (q := 118) (v := 1) F dX4_oneSeason_117 rfl (by decide) ?_
            obtain ⟨rfl, rfl⟩ := Prod.mk.inj (Option.some.inj h)
            exact fr_zret F E rfl dX4_oneSeason_118
          · rw [if_neg hc19] at h
            refine fr_iconst (q := 103) (v := 0) F dX4_oneSeason_102 rfl (by decide) ?_
            obtain ⟨rfl, rfl⟩ := Prod.mk.inj (Option.some.inj h)
            exact fr_zret F E rfl dX4_oneSeason_103
      · rw [if_pos hc11] at h
        refine fr_aload_n (q := 71) F dX4_oneSeason_70 rfl rfl ?_
        refine fr_iload_n (q := 72) F dX4_oneSeason_71 rfl rfl ?_
        obtain ⟨n23, hn24, h⟩ := fr_lt_some h
        refine fr_pfI (q := 75) (M' := (n23, u0)) F dX4_oneSeason_72 rfl fpRX4_19 (by decide) rfl rfl (congrArg (fun z => (z, u0)) hn24) ?_
        refine fr_aload_n (q := 76) F dX4_oneSeason_75 rfl rfl ?_
        refine fr_iconst (q := 77) (v := 2) F dX4_oneSeason_76 rfl (by decide) ?_
        obtain ⟨r25, n27, hr26, h⟩ := fr_bd2_some h
        refine fr_callV (q := 80) (M' := (n27, u0)) (rest := []) (st' := [.int (fr_b r25)]) F dX4_oneSeason_77 rfl (tX4_fails hr26) mlRX4_72 msX4_fails ⟨Nat.le_of_ble_eq_true rfl, Nat.le_of_ble_eq_true rfl⟩ (by decide) rfl rfl rfl (Nat.le_of_ble_eq_true rfl) rfl ?_
        obtain ⟨rfl, rfl⟩ := Prod.mk.inj (Option.some.inj h)
        exact fr_zret F E rfl dX4_oneSeason_80
    · rw [if_neg hc10] at h
      refine fr_iconst (q := 59) (v := 0) F dX4_oneSeason_58 rfl (by decide) ?_
      obtain ⟨rfl, rfl⟩ := Prod.mk.inj (Option.some.inj h)
      exact fr_zret F E rfl dX4_oneSeason_59
  · rw [if_neg hc6] at h
    refine fr_iconst (q := 30) (v := 0) F dX4_oneSeason_29 rfl (by decide) ?_
    obtain ⟨rfl, rfl⟩ := Prod.mk.inj (Option.some.inj h)
    exact fr_zret F E rfl dX4_oneSeason_30
/-! FeastRota$Reader.seasons (34,) -/
def fX4_seasons_2 : Nat → Int32 → fr_N → Option (Bool × fr_N)
  | 0, _, _ => none
  | k + 1, x1, n0 => if (4 : Int32) < x1 then some (true, n0) else fr_bd (fX6_at (n0 34 2) n0) fun r2 => (if r2 = (122 : Int32) then if (n0 35 2) < (4 : Int32) then fr_bd2 (fX4_oneSeason n0) fun r6 n8 => (if r6 = true then (fX4_seasons_2 k) (x1 + (1 : Int32)) n8 else some (false, n8)) else fr_bd2 (fX4_fails (3 : Int32) n0) fun r10 n12 => (some (r10, n12)) else some (true, n0))
def fX4_seasons (n0 : fr_N) : Option (Bool × fr_N) := fX4_seasons_2 2000 (0 : Int32) n0
theorem tX4_seasons_2 {K : fr_K} {u0 : fr_N} {rz : Bool} {nz : fr_N} (F : fr_F YX4_seasons K) (E : fr_R YX4_seasons K (some (.int (fr_b rz))) (nz, u0)) : ∀ (k : Nat) (x1 : Int32) (n0 : fr_N), fX4_seasons_2 k x1 n0 = some (rz, nz) → fr_V YX4_seasons K 2 [some (.ref 34), some (.int x1)] [] (n0, u0) := by
  intro k
  induction k with
  | zero =>
    intro x1 n0 h
    rw [fX4_seasons_2] at h
    cases h
  | succ k ih =>
    intro x1 n0 h
    rw [fX4_seasons_2] at h
    refine fr_iload_n (q := 3) F dX4_seasons_2 rfl rfl ?_
    refine fr_iconst (q := 4) (v := 4) F dX4_seasons_3 rfl (by decide) ?_
    refine fr_icmp_gt (q := 7) (tgt := 57) F dX4_seasons_4 (by decide) rfl (fun hc1 => ?_) (fun hc1 => ?_)
    · rw [if_pos hc1] at h
      refine fr_iconst (q := 58) (v := 1) F dX4_seasons_57 rfl (by decide) ?_
      obtain ⟨rfl, rfl⟩ := Prod.mk.inj (Option.some.inj h)
      exact fr_zret F E rfl dX4_seasons_58
    · rw [if_neg hc1] at h
      refine fr_aload_n (q := 8) F dX4_seasons_7 rfl rfl ?_
      refine fr_gfR (q := 11) (j := 1) F dX4_seasons_8 rfl faRX4_9 (by decide) rfl rfl ?_
      refine fr_aload_n (q := 12) F dX4_seasons_11 rfl rfl ?_
      refine fr_gfI (q := 15) (x := (n0 34 2)) F dX4_seasons_12 rfl faRX4_19 (by decide) rfl rfl rfl ?_
      obtain ⟨r2, hr3, h⟩ := fr_bd_some h
      refine fr_callV (q := 18) (M' := (n0, u0)) (rest := []) (st' := [.int r2]) F dX4_seasons_15 rfl (tX6_at hr3) mlRX4_61 msX6_at ⟨Nat.le_of_ble_eq_true rfl, Nat.le_of_ble_eq_true rfl⟩ (by decide) rfl rfl rfl (Nat.le_of_ble_eq_true rfl) rfl ?_
      refine fr_bipush (q := 20) (v := 122) F dX4_seasons_18 rfl (by decide) ?_
      refine fr_icmp_eq (q := 23) (tgt := 25) F dX4_seasons_20 (by decide) rfl (fun hc4 => ?_) (fun hc4 => ?_)
      · rw [if_pos hc4] at h
        refine fr_aload_n (q := 26) F dX4_seasons_25 rfl rfl ?_
        refine fr_gfR (q := 29) (j := 35) F dX4_seasons_26 rfl faRX4_15 (by decide) rfl rfl ?_
        refine fr_gfI (q := 32) (x := (n0 35 2)) F dX4_seasons_29 rfl faRX4_95 (by decide) rfl rfl rfl ?_
        refine fr_iconst (q := 33) (v := 4) F dX4_seasons_32 rfl (by decide) ?_
        refine fr_icmp_lt (q := 36) (tgt := 42) F dX4_seasons_33 (by decide) rfl (fun hc5 => ?_) (fun hc5 => ?_)
        · rw [if_pos hc5] at h
          refine fr_aload_n (q := 43) F dX4_seasons_42 rfl rfl ?_
          obtain ⟨r6, n8, hr7, h⟩ := fr_bd2_some h
          refine fr_callV (q := 46) (M' := (n8, u0)) (rest := []) (st' := [.int (fr_b r6)]) F dX4_seasons_43 rfl (tX4_oneSeason hr7) mlRX4_97 msX4_oneSeason ⟨Nat.le_of_ble_eq_true rfl, Nat.le_of_ble_eq_true rfl⟩ (by decide) rfl rfl rfl (Nat.le_of_ble_eq_true rfl) rfl ?_
          refine fr_if_neb (q := 49) (tgt := 51) F dX4_seasons_46 (by decide) rfl (fun hc9 => ?_) (fun hc9 => ?_)
          · rw [if_pos hc9] at h
            refine fr_iinc (q := 54) (v := (x1 + (1 : Int32))) F dX4_seasons_51 rfl rfl rfl (by decide) rfl ?_
            refine fr_goto (tgt := 2) F dX4_seasons_54 (by decide) ?_
            exact fr_wj (ih _ _ h) ⟨rfl, ⟨rfl, trivial⟩⟩
          · rw [if_neg hc9] at h
            refine fr_iconst (q := 50) (v := 0) F dX4_seasons_49 rfl (by decide) ?_
            obtain ⟨rfl, rfl⟩ := Prod.mk.inj (Option.some.inj h)
            exact fr_zret F E rfl dX4_seasons_50
        · rw [if_neg hc5] at h
          refine fr_aload_n (q := 37) F dX4_seasons_36 rfl rfl ?_
          refine fr_iconst (q := 38) (v := 3) F dX4_seasons_37 rfl (by decide) ?_
          obtain ⟨r10, n12, hr11, h⟩ := fr_bd2_some h
          refine fr_callV (q := 41) (M' := (n12, u0)) (rest := []) (st' := [.int (fr_b r10)]) F dX4_seasons_38 rfl (tX4_fails hr11) mlRX4_72 msX4_fails ⟨Nat.le_of_ble_eq_true rfl, Nat.le_of_ble_eq_true rfl⟩ (by decide) rfl rfl rfl (Nat.le_of_ble_eq_true rfl) rfl ?_
          obtain ⟨rfl, rfl⟩ := Prod.mk.inj (Option.some.inj h)
          exact fr_zret F E rfl dX4_seasons_41
      · rw [if_neg hc4] at h
        refine fr_iconst (q := 24) (v := 1) F dX4_seasons_23 rfl (by decide) ?_
        obtain ⟨rfl, rfl⟩ := Prod.mk.inj (Option.some.inj h)
        exact fr_zret F E rfl dX4_seasons_24
theorem tX4_seasons {l : Launch} {G : fr_G} {u0 : fr_N} {n0 : fr_N} {rz : Bool} {nz : fr_N} (h : fX4_seasons n0 = some (rz, nz)) : fr_Met l G YX4_seasons [.ref 34] (n0, u0) (some (.int (fr_b rz))) (nz, u0) := by
  refine fr_met (pad := List.replicate 1 none) (by decide) (Nat.le_of_ble_eq_true rfl) (fun _ h => List.eq_of_mem_replicate h) ⟨rfl, rfl⟩ (fun K F hG hL E => ?_)
  subst hG; subst hL
  rw [fX4_seasons] at h
  show fr_V YX4_seasons K 0 [some (.ref 34), none] [] (n0, u0)
  refine fr_iconst (q := 1) (v := 0) F dX4_seasons_0 rfl (by decide) ?_
  refine fr_istore_n (q := 2) F dX4_seasons_1 rfl (by decide) rfl ?_
  exact fr_wj (tX4_seasons_2 F E _ _ _ h) ⟨rfl, ⟨rfl, trivial⟩⟩
