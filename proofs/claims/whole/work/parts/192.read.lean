/-! the psalter -/
def rd (B : Nat → Nat) (y : Nat) (L : LL) (n : Nat) : Nat := fb_ct (fun i => decide (rk B y L (i + 1) ≤ 3)) n
theorem rd_le (B : Nat → Nat) (y : Nat) (L : LL) (n : Nat) : rd B y L n ≤ n := fb_ct_le _ n
theorem F_isReading {f m : fr_N} {B : Nat → Nat} {y : Nat} {L : LL} (h : LD f m B y L) {d : Nat} (hd : 1 ≤ d ∧ d ≤ dy (B 0) y) : fX3_isReadingDay (nI d) f = some (decide (rk B y L d ≤ 3)) := by
  unfold fX3_isReadingDay
  have hr := rk_bd h d
  rw [F_rank h hd, sp_bd]
  by_cases e : rk B y L d ≤ 3
  · rw [if_neg (show ¬ (3 : Int32) < nI (rk B y L d) from fun z => by have := (n_lt (a := 3) (by omega) (by omega)).mp z; omega), decide_eq_true e]
  · rw [if_pos (show (3 : Int32) < nI (rk B y L d) from (n_lt (a := 3) (by omega) (by omega)).mpr (by omega)), decide_eq_false e]
theorem F_readings {f m : fr_N} {B : Nat → Nat} {y : Nat} {L : LL} (h : LD f m B y L) {e : Nat} (he : e ≤ dy (B 0) y) : ∀ (k j : Nat), j ≤ e → e - j < k → fX3_readingDays_4 f k (nI e) (nI (rd B y L j)) (nI (j + 1)) = some (nI (rd B y L e))
  | 0, _, _, hk => absurd hk (by omega)
  | k + 1, j, hj, hk => by
    have hb := dy_bd (B 0) y
    rw [fX3_readingDays_4]
    by_cases hje : j = e
    · rw [hje, if_pos ((n_lt (by omega) (by omega)).mpr (by omega))]
    · rw [if_neg (fun z => by have := (n_lt (by omega) (by omega)).mp z; omega), F_isReading h (by omega), sp_bd, n_z, nI_1, nI_1]
      have ih := F_readings h he k (j + 1) (by omega) (by omega)
      by_cases q : rk B y L (j + 1) ≤ 3
      · rw [decide_eq_true q, if_pos rfl]
        rw [show rd B y L (j + 1) = rd B y L j + 1 from ct_yes (p := fun i => decide (rk B y L (i + 1) ≤ 3)) (decide_eq_true q)] at ih
        exact ih
      · rw [decide_eq_false q, if_neg Bool.false_ne_true]
        rw [show rd B y L (j + 1) = rd B y L j from ct_no (p := fun i => decide (rk B y L (i + 1) ≤ 3)) (fun z => q (of_decide_eq_true z))] at ih
        exact ih
theorem M_readings {f m : fr_N} {B : Nat → Nat} {y : Nat} {L : LL} (h : LD f m B y L) {e : Nat} (he : e ≤ dy (B 0) y) : ∀ (k j : Nat), j ≤ e → e - j < k → fX8_readings_4 m k (nI e) (nI (rd B y L j)) (nI (j + 1)) = some (nI (rd B y L e))
  | 0, _, _, hk => absurd hk (by omega)
  | k + 1, j, hj, hk => by
    have hb := dy_bd (B 0) y
    have hr := rk_bd h (j + 1)
    rw [fX8_readings_4]
    by_cases hje : j = e
    · rw [hje, if_pos ((n_lt (by omega) (by omega)).mpr (by omega))]
    · rw [if_neg (fun z => by have := (n_lt (by omega) (by omega)).mp z; omega), M_rank h (by omega), sp_bd, n_z, nI_1, nI_1]
      have ih := M_readings h he k (j + 1) (by omega) (by omega)
      by_cases q : rk B y L (j + 1) ≤ 3
      · rw [if_neg (show ¬ (3 : Int32) < nI (rk B y L (j + 1)) from fun z => by have := (n_lt (a := 3) (by omega) (by omega)).mp z; omega)]
        rw [show rd B y L (j + 1) = rd B y L j + 1 from ct_yes (p := fun i => decide (rk B y L (i + 1) ≤ 3)) (decide_eq_true q)] at ih
        exact ih
      · rw [if_pos (show (3 : Int32) < nI (rk B y L (j + 1)) from (n_lt (a := 3) (by omega) (by omega)).mpr (by omega))]
        rw [show rd B y L (j + 1) = rd B y L j from ct_no (p := fun i => decide (rk B y L (i + 1) ≤ 3)) (fun z => q (of_decide_eq_true z))] at ih
        exact ih
theorem sp_nz {α : Type} {n : Nat} {k : Option α} (h : 0 < n) (hn : n < 2 ^ 31) : fr_nz (nI n) k = k := if_neg (fun z => by have := (n_0 hn).mp z; omega)
theorem F_law {f m : fr_N} {B : Nat → Nat} {y : Nat} {L : LL} (h : LD f m B y L) {i : Nat} (hi : i < 6) : f 4 i = nI (B i) := h.2.1.2.2.2.1 i hi
theorem op_psalm {f m : fr_N} (hr : RR f m) (a b c : Int32) : OK (fX7_psalm a b c f) (fX8_psalm a b c m) := by
  obtain ⟨B, k, H, t, T, h1, h2, h3, h4, h5⟩ := id hr
  refine OQ.ok ?_ hr
  unfold fX7_psalm fX8_psalm
  refine Q_told h1 fun hb => ?_
  obtain ⟨v2, v3, v4, v5, v6⟩ := h1.1.2.2.2.2.2.2.2.2.2.1 hb
  rw [sp_in, sp_bd, sp_wide]
  by_cases hc : (0 : Int64).toInt ≤ c.toInt ∧ c.toInt ≤ (2 : Int64).toInt
  · have hc' : (0 : Int32).toInt ≤ c.toInt ∧ c.toInt ≤ (2 : Int32).toInt := hc
    rw [decide_eq_true hc, if_pos rfl]
    refine Q_day h1 fun y d f' m' L y1 y2 ha d1 d2 hd hl hD a5 a6 => ?_
    subst ha hd
    have hdy := dy_bd (B 0) y
    have hrd := rd_le B y L d
    have hrk := rk_bd hD d
    have hmul : rd B y L d * B 4 ≤ 366 * 9 := Nat.mul_le_mul (by omega) v6
    unfold fX3_readingDays fX8_readings fX7_psalm_123 fX8_psalm_97
    rw [sp_within, sp_bd, decide_eq_true hc', if_pos rfl, hl, sp_bd, show fX3_readingDays_4 f' 2000 (nI d) 0 1 = _ from F_readings hD d2 2000 0 (by omega) (by omega), sp_bd, show fX8_readings_4 m' 2000 (nI d) 0 1 = _ from M_readings hD d2 2000 0 (by omega) (by omega), sp_bd, F_law hD (by omega), F_law hD (by omega), hD.m1 (by omega), hD.m1 (by omega), if_pos (show (1 : Int32) < nI (B 3) from (n_lt (a := 1) (by omega) (by omega)).mpr (by omega)), sp_nz (by omega) (by omega), sp_nz (by omega) (by omega), sp_nz (by omega) (by omega), sp_nz (by omega) (by omega), sp_nz (by omega) (by omega), sp_nz (by omega) (by omega), pk_mul, pk_mul, Nat.mul_comm (B 4) (rd B y L d), F_isReading hD ⟨d1, d2⟩, sp_bd, M_rank hD ⟨d1, d2⟩, sp_bd]
    obtain ⟨j, hj, rfl⟩ := sp_of (n := 2) hc.1 hc.2
    by_cases hj2 : j = 2
    · subst hj2
      rw [if_pos (show nI 2 = 2 from rfl), if_pos (show nI 2 = 2 from rfl)]
      exact ⟨_, _, _, rfl, rfl, a5, a6⟩
    · rw [if_neg (show ¬ nI j = 2 from fun z => hj2 ((nI_eq (b := 2) (by omega) (by omega)).mp z)), if_neg (show ¬ nI j = 2 from fun z => hj2 ((nI_eq (b := 2) (by omega) (by omega)).mp z))]
      by_cases q : rk B y L d ≤ 3
      · rw [decide_eq_true q, if_pos rfl, if_pos (show nI (rk B y L d) ≤ 3 from (n_le (b := 3) (by omega) (by omega)).mpr q), show fr_b true = 1 from rfl]
        by_cases hj0 : nI j = 0
        · rw [if_pos hj0, if_pos hj0, Int32.add_comm 1]
          exact ⟨_, _, _, rfl, rfl, a5, a6⟩
        · rw [if_neg hj0, if_neg hj0, Int32.add_comm 1]
          exact ⟨_, _, _, rfl, rfl, a5, a6⟩
      · rw [decide_eq_false q, if_neg Bool.false_ne_true, if_neg (show ¬ nI (rk B y L d) ≤ 3 from fun z => q ((n_le (b := 3) (by omega) (by omega)).mp z))]
        exact ⟨_, _, _, rfl, rfl, a5, a6⟩
  · have hc' : ¬ ((0 : Int32).toInt ≤ c.toInt ∧ c.toInt ≤ (2 : Int32).toInt) := hc
    rw [decide_eq_false hc, if_neg Bool.false_ne_true, F_isDay h1, sp_bd, sp_within, sp_bd, decide_eq_false hc', if_neg Bool.false_ne_true]
    split <;> exact OQ.same
theorem both_enough {f m : fr_N} {b r : Nat} {X : Nat} (hf : f 4 3 = nI b) (hm : m 1 3 = nI b) (hb : 0 < b ∧ b ≤ 150) (hr : r ≤ 366) (hX : X ≤ 400) : ∀ (k j : Nat), 1 ≤ j → j ≤ 10 → 10 - j < k → ∃ v, fX7_enough_64 k (nI X) (nI r) (nI j) f = some (v, f) ∧ fX8_enough_51 k (nI X) (nI r) (nI j) m = some (v, m)
  | 0, _, _, _, hk => absurd hk (by omega)
  | k + 1, j, h1, h2, hk => by
    have hm1 : r * j ≤ 366 * 10 := Nat.mul_le_mul hr h2
    have hm2 : X * b ≤ 400 * 150 := Nat.mul_le_mul hX hb.2
    rw [fX7_enough_64, fX8_enough_51, hf, hm]
    by_cases he : j = 10
    · subst he
      rw [if_pos (show (9 : Int32) < nI 10 by decide), if_pos (show (10 : Int32) ≤ nI 10 by decide)]
      exact ⟨_, rfl, rfl⟩
    · rw [if_neg (show ¬ (9 : Int32) < nI j from fun z => by have := (n_lt (a := 9) (by omega) (by omega)).mp z; omega), if_neg (show ¬ (10 : Int32) ≤ nI j from fun z => by have := (n_le (a := 10) (by omega) (by omega)).mp z; omega), sp_nz (by omega) (by omega), pk_mul, pk_mul, pk_mul, Nat.mul_comm j r, pk_div (by omega) (by omega) (by omega), nI_1]
      have hdv : r * j / b ≤ 3660 := Nat.le_trans (Nat.div_le_self _ _) hm1
      have key : r * j / b < X ↔ r * j < X * b := Nat.div_lt_iff_lt_mul hb.1
      by_cases q : r * j < X * b
      · rw [if_pos ((n_lt (by omega) (by omega)).mpr q), if_pos ((n_lt (by omega) (by omega)).mpr (key.mpr q))]
        exact both_enough hf hm hb hr hX k (j + 1) (by omega) (by omega) (by omega)
      · rw [if_neg (fun z => q ((n_lt (by omega) (by omega)).mp z)), if_neg (fun z => q (key.mp ((n_lt (by omega) (by omega)).mp z)))]
        exact ⟨_, rfl, rfl⟩
theorem op_enough {f m : fr_N} (hr : RR f m) (a b : Int32) : OK (fX7_enough a b f) (fX8_enough a b m) := by
  obtain ⟨B, k, H, t, T, h1, h2, h3, h4, h5⟩ := id hr
  refine OQ.ok ?_ hr
  unfold fX7_enough fX8_enough
  refine Q_told h1 fun hb => ?_
  obtain ⟨v2, v3, v4, v5, v6⟩ := h1.1.2.2.2.2.2.2.2.2.2.1 hb
  refine Q_year fun y y1 y2 hy => ?_
  refine Q_in (i := 1) (j := 400) rfl rfl rfl rfl fun j j1 j2 hj => ?_
  subst hy hj
  refine Q_lay h1 y1 y2 fun f' m' L hD ho a5 a6 => ?_
  have hdy := dy_bd (B 0) y
  have hrd := rd_le B y L (dy (B 0) y)
  unfold fX3_readingDays fX8_readings
  rw [hD.2.2.2.1.1, hD.2.2.2.2.1.1, show fX3_readingDays_4 f' 2000 (nI (dy (B 0) y)) 0 1 = _ from F_readings hD (Nat.le_refl _) 2000 0 (by omega) (by omega), show fX8_readings_4 m' 2000 (nI (dy (B 0) y)) 0 1 = _ from M_readings hD (Nat.le_refl _) 2000 0 (by omega) (by omega), sp_bd, sp_bd]
  obtain ⟨v, q1, q2⟩ := both_enough (F_law hD (by omega)) (hD.m1 (i := 3) (by omega)) ⟨by omega, v4⟩ (show rd B y L (dy (B 0) y) ≤ 366 by omega) j2 2000 1 (by omega) (by omega) (by omega)
  exact ⟨v, _, _, q1, q2, SF.rf, SM.rf⟩
/-! long numbers -/
theorem l_add {x y : Int64} (h1 : -(2 ^ 62) ≤ x.toInt ∧ x.toInt ≤ 2 ^ 62) (h2 : -(2 ^ 62) < y.toInt ∧ y.toInt < 2 ^ 62) : (x + y).toInt = x.toInt + y.toInt := by
  rw [Int64.toInt_add]
  exact Int.bmod_eq_of_le (by omega) (by omega)
theorem l_sub {x y : Int64} (h1 : -(2 ^ 62) ≤ x.toInt ∧ x.toInt ≤ 2 ^ 62) (h2 : -(2 ^ 62) < y.toInt ∧ y.toInt < 2 ^ 62) : (x - y).toInt = x.toInt - y.toInt := by
  rw [Int64.toInt_sub]
  exact Int.bmod_eq_of_le (by omega) (by omega)
theorem both_read {f m : fr_N} {B : Nat → Nat} {y : Nat} {L : LL} (h : LD f m B y L) (h4 : B 4 ≤ 9) {t : Int64} (ht : 0 ≤ t.toInt ∧ t.toInt ≤ 2 ^ 61) : ∀ (k j : Nat) (s u : Int64), j ≤ dy (B 0) y → dy (B 0) y - j < k → 0 ≤ s.toInt → s.toInt ≤ 9 * j → u.toInt = t.toInt - s.toInt → ∃ v, fX3_dayOfReading_5 f k t s (nI (j + 1)) = some v ∧ fX8_read_68 k u (nI (j + 1)) m = some (v, m)
  | 0, _, _, _, _, hk, _, _, _ => absurd hk (by omega)
  | k + 1, j, s, u, hj, hk, s1, s2, hu => by
    have hb := dy_bd (B 0) y
    have hr := rk_bd h (j + 1)
    rw [fX3_dayOfReading_5, fX8_read_68, h.2.2.2.1.1, h.2.2.2.2.1.1]
    by_cases hje : j = dy (B 0) y
    · rw [if_pos ((n_lt (by omega) (by omega)).mpr (by omega)), if_pos ((n_lt (by omega) (by omega)).mpr (by omega))]
      exact ⟨_, rfl, rfl⟩
    · rw [if_neg (fun z => by have := (n_lt (by omega) (by omega)).mp z; omega), if_neg (fun z => by have := (n_lt (by omega) (by omega)).mp z; omega), F_isReading h (by omega), sp_bd, M_rank h (by omega), sp_bd, F_law h (by omega), h.m1 (by omega)]
      have key : ∀ w : Int64, 0 ≤ w.toInt → w.toInt ≤ 9 → ∃ v, fX3_dayOfReading_41 (fX3_dayOfReading_5 f k) f t (nI (j + 1)) w s = some v ∧ fX8_read_100 (fX8_read_68 k) (nI (j + 1)) w u m = some (v, m) := by
        intro w w1 w2
        have e1 : (s + w).toInt = s.toInt + w.toInt := l_add (by omega) (by omega)
        have e2 : (u - w).toInt = u.toInt - w.toInt := l_sub (by omega) (by omega)
        unfold fX3_dayOfReading_41 fX8_read_100
        rw [nI_1]
        by_cases q : (s + w).toInt < t.toInt
        · rw [if_pos ((sp_cmp_lt _ _).mpr q), if_pos ((sp_cmp_gt _ _).mpr (by show (0 : Int) < _; omega))]
          exact both_read h h4 ht k (j + 1) (s + w) (u - w) (by omega) (by omega) (by omega) (by omega) (by omega)
        · rw [if_neg (fun z => q ((sp_cmp_lt _ _).mp z)), if_neg (fun z => q (by have : (0 : Int) < _ := (sp_cmp_gt _ _).mp z; omega))]
          exact ⟨_, rfl, rfl⟩
      by_cases q : rk B y L (j + 1) ≤ 3
      · rw [decide_eq_true q, if_pos rfl, if_neg (show ¬ (3 : Int32) < nI (rk B y L (j + 1)) from fun z => by have := (n_lt (a := 3) (by omega) (by omega)).mp z; omega)]
        exact key _ (by rw [sp_wide, nI_toInt (by omega)]; omega) (by rw [sp_wide, nI_toInt (by omega)]; omega)
      · rw [decide_eq_false q, if_neg Bool.false_ne_true, if_pos (show (3 : Int32) < nI (rk B y L (j + 1)) from (n_lt (a := 3) (by omega) (by omega)).mpr (by omega))]
        exact key 0 (by decide) (by decide)
theorem Int_mul_bd {a b c d : Int} (h0 : 0 ≤ a) (h1 : a ≤ c) (h2 : 0 ≤ b) (h3 : b ≤ d) : 0 ≤ a * b ∧ a * b ≤ c * d := ⟨Int.mul_nonneg h0 h2, Int.mul_le_mul h1 h3 h2 (by omega)⟩
theorem op_read {f m : fr_N} (hr : RR f m) (a b c : Int32) : OK (fX7_read a b c f) (fX8_read a b c m) := by
  obtain ⟨B, k, H, t, T, h1, h2, h3, h4, h5⟩ := id hr
  refine OQ.ok ?_ hr
  unfold fX7_read fX8_read
  refine Q_told h1 fun hb => ?_
  obtain ⟨v2, v3, v4, v5, v6⟩ := h1.1.2.2.2.2.2.2.2.2.2.1 hb
  have m3 : m 1 3 = nI (B 3) := h1.2.2.2 3 (by omega)
  refine Q_year fun y y1 y2 hy => ?_
  rw [h1.2.1.2.2.2.1 3 (by omega), m3]
  refine Q_in (i := 1) (j := B 3) rfl (by rw [nI_toInt (by omega)]) rfl (by rw [sp_wide, nI_toInt (by omega)]) fun j j1 j2 hj => ?_
  subst hy hj
  by_cases hc : (1 : Int32) ≤ c
  · rw [if_pos hc, if_pos hc]
    have hc1 : 1 ≤ c.toInt := (fa_le 1 c).mp hc
    have hc2 : c.toInt < 2 ^ 31 := c.toInt_lt
    refine Q_lay h1 y1 y2 fun f' m' L hD ho a5 a6 => ?_
    have hdy := dy_bd (B 0) y
    rw [F_law hD (by omega), hD.m1 (by omega)]
    unfold fX3_dayOfReading
    have e1 : (Int32.toInt64 c - 1).toInt = c.toInt - 1 := by
      rw [l_sub (by rw [sp_wide]; omega) (by decide), sp_wide]; rfl
    have e2 := Int_mul_bd (a := c.toInt - 1) (b := (B 3 : Int)) (c := 2 ^ 31) (d := 150) (by omega) (by omega) (by omega) (by omega)
    have e3 : ((Int32.toInt64 c - 1) * Int32.toInt64 (nI (B 3))).toInt = (c.toInt - 1) * (B 3 : Int) := by
      rw [Int64.toInt_mul, e1, sp_wide, nI_toInt (by omega)]
      exact Int.bmod_eq_of_le (by omega) (by omega)
    have e4 : ((Int32.toInt64 c - 1) * Int32.toInt64 (nI (B 3)) + Int32.toInt64 (nI j)).toInt = (c.toInt - 1) * (B 3 : Int) + j := by
      rw [l_add (by rw [e3]; omega) (by rw [sp_wide, nI_toInt (by omega)]; omega), e3, sp_wide, nI_toInt (by omega)]
    obtain ⟨v, q1, q2⟩ := both_read hD v6 (t := (Int32.toInt64 c - 1) * Int32.toInt64 (nI (B 3)) + Int32.toInt64 (nI j)) (by rw [e4]; omega) 2000 0 0 ((Int32.toInt64 c - 1) * Int32.toInt64 (nI (B 3)) + Int32.toInt64 (nI j)) (by omega) (by omega) (by decide) (by decide) (by rw [show (0 : Int64).toInt = 0 from rfl]; omega)
    rw [show fX3_dayOfReading_5 f' 2000 _ 0 1 = _ from q1, sp_bd]
    exact ⟨v, _, _, rfl, q2, SF.rf, SM.rf⟩
  · rw [if_neg hc, if_neg hc]
    exact OQ.same
