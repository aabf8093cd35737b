/-! who sings, duties, fairness -/
theorem op_sings {f m : fr_N} (hr : RR f m) (a b c : Int32) : OK (fX7_sings a b c f) (fX8_sings a b c m) := by
  obtain ⟨B, k, H, t, T, h1, h2, h3, h4, h5⟩ := id hr
  refine OQ.ok ?_ hr
  unfold fX7_sings fX8_sings
  refine Q_told h1 fun hb => ?_
  by_cases hc : c < 0
  · have hc' : ¬ 0 ≤ c := fun z => by
      rw [fa_le] at z
      rw [fa_lt] at hc
      omega
    rw [if_pos hc, if_neg hc', F_isDay h1, sp_bd]
    split <;> exact OQ.same
  · have hc' : 0 ≤ c := by
      rw [fa_le]
      rw [fa_lt] at hc
      omega
    rw [if_neg hc, if_pos hc']
    refine Q_day h1 fun y d f' m' L y1 y2 ha d1 d2 hd hl hD a5 a6 => ?_
    subst ha hd
    obtain ⟨x, hx, rfl⟩ := nI_of (x := c) hc
    have hS4 := sv_bd (rk_bd hD d)
    have v5 := hD.1.2.2.2.2.1
    rw [hl, sp_bd, F_services hD ⟨d1, d2⟩, sp_bd, M_services hD ⟨d1, d2⟩, sp_bd]
    by_cases hxs : x < sv (rk B y L d)
    · obtain ⟨f2, m2, b1, b2, b3, b4, b5, b6⟩ := both_go hD (lw := B 5) (E := d) v5 d2
      obtain ⟨td, s, t1, t2, t3, t4⟩ := b4 d1
      obtain ⟨q1, q2, q3⟩ := t4 x hxs
      rw [if_neg (fun z => by have := (n_le (by omega) (by omega)).mp z; omega), if_pos ((n_lt (by omega) (by omega)).mpr hxs), if_pos (show nI x < 4 from (n_lt (b := 4) (by omega) (by omega)).mpr (by omega)), F_law hD (by omega), hD.m1 (by omega), b1, b2, sp_bd, sp_bd, sp_ck (by omega) (by omega), sp_ck (by omega) (by omega), sp_ck (by omega) (by omega), nI_clamp (by omega), q1, q2]
      by_cases h0 : td x = 0
      · rw [if_pos ((nh_iff (by omega)).mpr h0), h0]
        exact ⟨_, _, _, rfl, rfl, a5.trans b5.sf, a6.trans b6.sm⟩
      · rw [if_neg (fun z => h0 ((nh_iff (by omega)).mp z)), show nh (td x) = nI (td x - 1) from if_neg h0, show nx (td x) = nI (td x - 1) from if_neg h0]
        exact ⟨_, _, _, rfl, rfl, a5.trans b5.sf, a6.trans b6.sm⟩
    · rw [if_pos ((n_le (by omega) (by omega)).mpr (by omega)), if_neg (fun z => hxs ((n_lt (by omega) (by omega)).mp z))]
      exact ⟨_, _, _, rfl, rfl, a5, a6⟩
theorem op_duties {f m : fr_N} (hr : RR f m) (a b c : Int32) : OK (fX7_duties a b c f) (fX8_duties a b c m) := by
  obtain ⟨B, k, H, t, T, h1, h2, h3, h4, h5⟩ := id hr
  refine OQ.ok ?_ hr
  unfold fX7_duties fX8_duties
  refine Q_choir h1 fun x hx ha => ?_
  subst ha
  unfold fX7_duties_22
  rw [F_isDay h1, sp_bd, F_isYear, sp_bd]
  unfold fX8_hasDay
  rw [M_isYear, sp_bd]
  have h8 := h1.1.2.2.2.2.2.2.2.1
  by_cases hy : 1 ≤ b.toInt ∧ b.toInt ≤ 999
  · obtain ⟨y, e1, e2, rfl⟩ := sp_year hy
    have hb := dy_bd (B 0) y
    obtain ⟨f', m', a1, a2, a3, a4, a5, a6⟩ := both_lay0 h1.1 h1.2.1 h1.2.2.2 ⟨e1, e2⟩
    rw [decide_eq_true hy, if_pos rfl, if_pos rfl, a2, sp_bd, sp_in, sp_bd, sp_wide, sp_wide, sp_wide, a3.2.2.2.2.1.1, sp_bd2, nI_toInt (n := dy (B 0) y) (by omega), nI_toInt (n := y) (by omega), Int.toNat_natCast]
    have go : ∀ E, c = nI E → E ≤ dy (B 0) y → OQ f m (fX7_duties_34 (nI x) (nI y) c f) (fr_bd (fX8_laysRota (m' 1 5) c m') fun n10 => fr_ck (nI x) 5 (some (n10 12 (Int32.toNatClampNeg (nI x)), n10))) := by
      intro E hE hE2
      subst hE
      obtain ⟨f2, m2, b1, b2, ⟨hs', la, lb, ms, dl, r1, r2, r3, r4, r5, r6, r7, r8⟩, b4, b5, b6⟩ := both_go a3 (lw := B 5) (E := E) a3.1.2.2.2.2.1 hE2
      unfold fX7_duties_34
      rw [a1, sp_bd, F_law a3 (by omega), a3.m1 (by omega), b1, b2, sp_bd, sp_bd, sp_ck (by omega) (by omega), sp_ck (by omega) (by omega), nI_clamp (by omega), (r1 x (by omega)).1, (r1 x (by omega)).2.1]
      exact ⟨_, _, _, rfl, rfl, a5.trans b5.sf, a6.trans b6.sm⟩
    by_cases hd : (0 : Int32).toInt ≤ c.toInt ∧ c.toInt ≤ (dy (B 0) y : Int)
    · obtain ⟨E, q1, q2⟩ := sp_of (n := dy (B 0) y) hd.1 hd.2
      rw [show decide ((0 : Int32).toInt ≤ c.toInt ∧ c.toInt ≤ (dy (B 0) y : Int)) = true from decide_eq_true hd, if_pos (show true = true from rfl)]
      by_cases hc : c = 0
      · rw [if_pos hc]
        exact go E q2 q1
      · have h1' : 1 ≤ c.toInt := by
          have z0 : (0 : Int) ≤ c.toInt := hd.1
          have z1 : ¬ c.toInt = 0 := fun z => hc ((fa_eq c 0).mpr z)
          omega
        rw [if_neg hc, show decide ((1 ≤ (y : Int) ∧ (y : Int) ≤ 999) ∧ 1 ≤ c.toInt ∧ c.toInt ≤ (dy (B 0) y : Int)) = true from decide_eq_true ⟨by omega, h1', hd.2⟩, if_pos rfl]
        exact go E q2 q1
    · have hc : ¬ c = 0 := fun z => hd (by rw [z]; exact ⟨Int.le_refl _, by show (0 : Int) ≤ _; omega⟩)
      rw [show decide ((0 : Int32).toInt ≤ c.toInt ∧ c.toInt ≤ (dy (B 0) y : Int)) = false from decide_eq_false hd, if_neg hc, show decide ((1 ≤ (y : Int) ∧ (y : Int) ≤ 999) ∧ 1 ≤ c.toInt ∧ c.toInt ≤ (dy (B 0) y : Int)) = false from decide_eq_false (fun z => hd ⟨by show (0 : Int) ≤ _; omega, z.2.2⟩), if_neg Bool.false_ne_true, if_neg Bool.false_ne_true]
      exact ⟨_, _, _, rfl, rfl, SF.rf, a6⟩
  · rw [decide_eq_false hy, show decide ((1 ≤ b.toInt ∧ b.toInt ≤ 999) ∧ 1 ≤ c.toInt ∧ c.toInt ≤ (dy (B 0) b.toInt.toNat : Int)) = false from decide_eq_false (fun z => hy z.1), if_neg Bool.false_ne_true, if_neg Bool.false_ne_true, if_neg Bool.false_ne_true, sp_bd2, if_neg Bool.false_ne_true]
    split <;> exact OQ.same
theorem both_gap {f m : fr_N} {B : Nat → Nat} {y : Nat} {L : LL} (hD : LD f m B y L) {s : Nat} (hs : s < 10000) {hs' : Nat → Nat} (h1 : ∀ c, c < 5 → f 49 c = nI (hs' c) ∧ m 12 c = nI (hs' c) ∧ hs' c ≤ s) : ∀ (k j p q : Nat), j ≤ B 8 → B 8 - j < k → q ≤ p → p < 10000 → ∃ g, g < 10000 ∧ fX5_gap_16 f k (nI p) (nI q) (nI j) = some (nI g) ∧ fX8_unfair_26 k (nI p) (nI q) (nI j) m = some (nI g, m)
  | 0, _, _, _, _, hk, _, _ => absurd hk (by omega)
  | k + 1, j, p, q, hj, hk, hpq, hp => by
    have h8 := hD.1.2.2.2.2.2.2.2.1
    rw [fX5_gap_16, fX8_unfair_26, hD.2.1.2.2.1, hD.m1 (by omega)]
    by_cases he : j = B 8
    · have le : nI (B 8) ≤ nI j := (n_le (by omega) (by omega)).mpr (by omega)
      rw [if_pos le, if_pos le, pk_sub hpq]
      exact ⟨p - q, by omega, rfl, rfl⟩
    · have nle : ¬ nI (B 8) ≤ nI j := fun z => by have := (n_le (by omega) (by omega)).mp z; omega
      obtain ⟨c1, c2, c3⟩ := h1 j (by omega)
      unfold fX8_unfair_60
      rw [if_neg nle, if_neg nle, sp_ck (by omega) (by omega), sp_ck (by omega) (by omega), sp_ck (by omega) (by omega), sp_ck (by omega) (by omega), sp_ck (by omega) (by omega), sp_ck (by omega) (by omega), nI_clamp (by omega), c1, c2, nI_1]
      by_cases e1 : p < hs' j
      · rw [if_pos (show nI p < nI (hs' j) from (n_lt (by omega) (by omega)).mpr e1), if_neg (show ¬ nI (hs' j) ≤ nI p from fun z => by have := (n_le (by omega) (by omega)).mp z; omega)]
        by_cases e2 : hs' j < q
        · exact absurd e2 (by omega)
        · rw [if_neg (show ¬ nI (hs' j) < nI q from fun z => e2 ((n_lt (by omega) (by omega)).mp z)), sp_ck (by omega) (by omega), if_pos (show nI q ≤ nI (hs' j) from (n_le (by omega) (by omega)).mpr (by omega))]
          exact both_gap hD hs h1 k (j + 1) (hs' j) q (by omega) (by omega) (by omega) (by omega)
      · rw [if_neg (show ¬ nI p < nI (hs' j) from fun z => e1 ((n_lt (by omega) (by omega)).mp z)), if_pos (show nI (hs' j) ≤ nI p from (n_le (by omega) (by omega)).mpr (by omega))]
        by_cases e2 : hs' j < q
        · rw [if_pos (show nI (hs' j) < nI q from (n_lt (by omega) (by omega)).mpr e2), if_neg (show ¬ nI q ≤ nI (hs' j) from fun z => by have := (n_le (by omega) (by omega)).mp z; omega)]
          exact both_gap hD hs h1 k (j + 1) p (hs' j) (by omega) (by omega) (by omega) (by omega)
        · rw [if_neg (show ¬ nI (hs' j) < nI q from fun z => e2 ((n_lt (by omega) (by omega)).mp z)), if_pos (show nI q ≤ nI (hs' j) from (n_le (by omega) (by omega)).mpr (by omega))]
          exact both_gap hD hs h1 k (j + 1) p q (by omega) (by omega) (by omega) (by omega)
theorem both_unfair {f m : fr_N} {B : Nat → Nat} {y : Nat} {L : LL} (hD : LD f m B y L) (hb : 0 < B 8) {lw : Nat} (hl : lw ≤ 2) : ∃ f' m' g, fX5_go (nI lw) (nI (dy (B 0) y)) f = some f' ∧ fX5_gap f' = some (nI g) ∧ fX8_unfair (nI lw) m = some (nI g, m') ∧ g < 10000 ∧ KF f f' ∧ KM m m' ∧ LD f' m' B y L := by
  have hdy := dy_bd (B 0) y
  have h8 := hD.1.2.2.2.2.2.2.2.1
  obtain ⟨v2, -⟩ := hD.1.2.2.2.2.2.2.2.2.2.1 hb
  have hss := ss_le hD (dy (B 0) y)
  obtain ⟨f2, m2, b1, b2, ⟨hs', la, lb, ms, dl, r1, r2, r3, r4, r5, r6, r7, r8⟩, b4, b5, b6⟩ := both_go hD hl (Nat.le_refl _)
  have hD2 := hD.rota b5 b6
  obtain ⟨c1, c2, -, -, -, -, c7⟩ := r1 0 (by omega)
  obtain ⟨g', g1', g2', g3'⟩ := both_gap hD2 (s := ss B y L (dy (B 0) y)) (by omega) (hs' := hs') (fun c hc => ⟨(r1 c hc).1, (r1 c hc).2.1, (r1 c hc).2.2.2.2.2.2⟩) 2000 1 (hs' 0) (hs' 0) (by omega) (by omega) (by omega) (by omega)
  refine ⟨f2, m2, g', b1, ?_, ?_, g1', b5, b6, hD2⟩
  · unfold fX5_gap
    rw [c1]
    exact g2'
  · unfold fX8_unfair
    rw [hD.2.2.2.2.1.1, b2, sp_bd, c2]
    exact g3'
theorem op_fair {f m : fr_N} (hr : RR f m) (a : Int32) : OK (fX7_fair a f) (fX8_fair a m) := by
  obtain ⟨B, k, H, t, T, h1, h2, h3, h4, h5⟩ := id hr
  refine OQ.ok ?_ hr
  unfold fX7_fair fX8_fair
  refine Q_told h1 fun hb => ?_
  refine Q_year fun y y1 y2 hy => ?_
  subst hy
  refine Q_lay h1 y1 y2 fun f' m' L hD ho a5 a6 => ?_
  obtain ⟨f2, m2, g, b1, b2, b3, b4, b5, b6, b7⟩ := both_unfair hD hb hD.1.2.2.2.2.1
  rw [F_law hD (by omega), hD.m1 (by omega), hD.2.2.2.1.1, b1, sp_bd, b2, sp_bd, b3, sp_bd2]
  exact ⟨_, _, _, rfl, rfl, b5.sf, b6.sm⟩
theorem bb_ne {p : Nat} (h : p < 4) : ¬ nI p = (-1000000 : Int32) := by
  have h' : p = 0 ∨ p = 1 ∨ p = 2 ∨ p = 3 := by omega
  rcases h' with rfl | rfl | rfl | rfl <;> decide
theorem both_best {B : Nat → Nat} {y : Nat} {L : LL} (hb : 0 < B 8) : ∀ (k j p g : Nat) (f m : fr_N), LD f m B y L → j ≤ 3 → 3 - j < k → g < 10000 → p < 4 → OQ f m (fX7_best_44 k (nI p) (nI g) (nI j) f) (fX8_best_38 k (nI p) (nI g) (nI j) m)
  | 0, _, _, _, _, _, _, _, hk, _, _ => absurd hk (by omega)
  | k + 1, j, p, g, f, m, hD, hj, hk, hg, hp => by
    rw [fX7_best_44, fX8_best_38]
    by_cases he : j = 3
    · subst he
      rw [if_pos (show fr_tb2 5 < nI 3 by decide), if_pos (show (3 : Int32) ≤ nI 3 by decide)]
      exact OQ.same
    · obtain ⟨f2, m2, g2, b1, b2, b3, b4, b5, b6, b7⟩ := both_unfair hD hb (lw := j) (by omega)
      unfold fX8_best_64 fX7_best_90
      rw [if_neg (show ¬ fr_tb2 5 < nI j from fun z => by have := (n_lt (a := 2) (by omega) (by omega)).mp z; omega), if_neg (show ¬ (3 : Int32) ≤ nI j from fun z => by have := (n_le (a := 3) (by omega) (by omega)).mp z; omega), hD.2.2.2.1.1, b1, sp_bd, if_neg (bb_ne hp), b2, sp_bd, sp_bd, b3, sp_bd2, nI_1]
      refine OQ.behind b5.sf b6.sm ?_
      by_cases e : nI g ≤ nI g2
      · rw [if_pos e, if_pos e, if_pos e]
        exact both_best hb k (j + 1) p g f2 m2 b7 (by omega) (by omega) hg hp
      · rw [if_neg e, if_neg e, if_neg e]
        exact both_best hb k (j + 1) j g2 f2 m2 b7 (by omega) (by omega) b4 (by omega)
theorem op_best {f m : fr_N} (hr : RR f m) (a : Int32) : OK (fX7_best a f) (fX8_best a m) := by
  obtain ⟨B, k, H, t, T, h1, h2, h3, h4, h5⟩ := id hr
  refine OQ.ok ?_ hr
  unfold fX7_best fX8_best
  refine Q_told h1 fun hb => ?_
  refine Q_year fun y y1 y2 hy => ?_
  subst hy
  refine Q_lay h1 y1 y2 fun f' m' L hD ho a5 a6 => ?_
  obtain ⟨f2, m2, g, b1, b2, b3, b4, b5, b6, b7⟩ := both_unfair hD hb (lw := 0) (by omega)
  rw [show fX8_unfair 0 m' = _ from b3, sp_bd2]
  have e : fX7_best_44 2000 (-1000000) 0 (fr_tb1 5) f' = fX7_best_44 1999 0 (nI g) 1 f2 := by
    rw [fX7_best_44, if_neg (show ¬ fr_tb2 5 < fr_tb1 5 by decide), hD.2.2.2.1.1, show fX5_go (fr_tb1 5) (nI (dy (B 0) y)) f' = _ from b1, sp_bd, if_pos (show (-1000000 : Int32) = -1000000 from rfl)]
    unfold fX7_best_90
    rw [b2, sp_bd]
    rfl
  have same : ∀ (k k' j : Nat) (p q : Int32) (n : fr_N), j ≤ 3 → 3 - j < k → 3 - j < k' → fX7_best_44 k p q (nI j) n = fX7_best_44 k' p q (nI j) n := by
    intro k
    induction k with
    | zero => intro k' j p q n h1 h2; omega
    | succ k ih =>
      intro k' j p q n h1 h2 h3
      obtain ⟨k2, rfl⟩ : ∃ k2, k' = k2 + 1 := ⟨k' - 1, by omega⟩
      rw [fX7_best_44, fX7_best_44]
      unfold fX7_best_90
      by_cases he : j = 3
      · subst he
        rw [if_pos (show fr_tb2 5 < nI 3 by decide), if_pos (show fr_tb2 5 < nI 3 by decide)]
      · simp only [nI_1, ih k2 (j + 1) _ _ _ (by omega) (by omega) (by omega)]
  rw [e, show fX7_best_44 1999 0 (nI g) 1 f2 = fX7_best_44 2000 0 (nI g) 1 f2 from same 1999 2000 1 0 (nI g) f2 (by omega) (by omega) (by omega)]
  exact OQ.behind b5.sf b6.sm (both_best hb 2000 1 0 g f2 m2 b7 (by omega) (by omega) b4 (by omega))
