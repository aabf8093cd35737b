/-! the rota of a day, of days; its questions -/
theorem nh_neg {x : Nat} (h : x < 1000) : nh x = -1 ↔ nx x = -1000000 := by rw [nh_iff h, nx_iff h]
theorem both_deal {B : Nat → Nat} {y : Nat} {L : LL} {lw d s0 S : Nat} (hl : lw ≤ 2) (hd : 1 ≤ d ∧ d ≤ dy (B 0) y) (hS : sv (rk B y L d) = S) (hs0 : s0 + 4 < 10000) : ∀ (k x : Nat) (f m : fr_N), LD f m B y L → RT f m (s0 + x) → TD f m x → x ≤ S → S - x < k → ∃ f' m', fX5_dealOut_21 k (nI lw) (nI d) (nI S) (nI x) f = some f' ∧ (∀ k39 X2, fX8_laysRota_47 k39 k (nI lw) X2 (nI d) (nI x) m = k39 (nI lw) X2 (nI (d + 1)) m') ∧ RT f' m' (s0 + S) ∧ TD f' m' S ∧ KF f f' ∧ KM m m'
  | 0, _, _, _, _, _, _, _, hk => absurd hk (by omega)
  | k + 1, x, f, m, hD, hR, hT, hx, hk => by
    have hb := dy_bd (B 0) y
    have h8 := hD.1.2.2.2.2.2.2.2.1
    have hS4 := sv_bd (rk_bd hD d)
    rw [hS] at hS4
    have hM := M_services hD hd
    rw [hS] at hM
    by_cases he : x = S
    · refine ⟨f, m, ?_, fun k39 X2 => ?_, by rw [← he]; exact hR, by rw [← he]; exact hT, fun _ _ => rfl, ⟨fun _ _ _ _ _ => rfl, fun _ _ _ => rfl⟩⟩
      · rw [fX5_dealOut_21, if_pos ((n_le (by omega) (by omega)).mpr (by omega))]
      · rw [fX8_laysRota_47, hM, sp_bd, if_pos ((n_le (by omega) (by omega)).mpr (by omega)), nI_1]
    · have nle : ¬ nI S ≤ nI x := fun z => by have := (n_le (by omega) (by omega)).mp z; omega
      have go : ∀ t, t ≤ 5 → ∃ f' m', fX5_dealOut_54 (fX5_dealOut_21 k) (nI lw) (nI d) (nI S) (nI x) (nh t) f = some f' ∧ (∀ k39 X2, fX8_laysRota_89 k39 (fX8_laysRota_47 k39 k) (nI lw) X2 (nI d) (nI x) (nx t) m = k39 (nI lw) X2 (nI (d + 1)) m') ∧ RT f' m' (s0 + S) ∧ TD f' m' S ∧ KF f f' ∧ KM m m' := by
        intro t ht
        obtain ⟨f1, m1, a1, a2, a3, a4, a5, a6⟩ := both_give hR hT (by omega) (by omega) ht
        obtain ⟨f2, m2, b1, b2, b3, b4, b5, b6⟩ := both_deal hl hd hS hs0 k (x + 1) f1 m1 (hD.rota a5 a6) a3 a4 (by omega) (by omega)
        refine ⟨f2, m2, ?_, fun k39 X2 => ?_, b3, b4, a5.trans b5, a6.trans b6⟩
        · unfold fX5_dealOut_54
          rw [sp_ck (by omega) (by omega), sp_lt, nI_clamp (by omega), a1, sp_bd, nI_1]
          exact b1
        · rw [a2]
          exact b2 k39 X2
      obtain ⟨td, s, t1, t2, t3, t4⟩ := id hT
      obtain ⟨x1, c1, c2, c3⟩ := both_choose (d := d) (sg := nI s) (x3 := nI x) (stt := true) (e := fun c => !s.testBit c) hD hR (by omega) hl (by omega) (fun c hc => by
          rw [bit_get s t2 c hc]
          cases s.testBit c <;> decide) (fun _ c hc => by
          obtain ⟨z, z1, z2⟩ := M_had5 (m := m) (td := td) (c := c) (x := x) (by omega) hc (fun i hi => ⟨(t4 i hi).2.1, (t4 i hi).2.2⟩) 2000 0 false (by omega) (by omega)
          rw [show fX8_had (nI c) (nI x) m = some z from z1, Bool.not_not]
          congr 1
          have q : z = true ↔ s.testBit c = true := by
            rw [z2, t3 c hc]
            constructor
            · rintro (q | ⟨i, _, q2, q3⟩)
              · exact absurd q (by decide)
              · exact ⟨i, q2, q3⟩
            · rintro ⟨i, q2, q3⟩
              exact Or.inr ⟨i, by omega, q2, q3⟩
          exact Bool.eq_iff_iff.mpr q) (fun q => absurd q (by decide)) 2000 0 0 (by omega) (by omega) (by omega)
      obtain ⟨x2, e1, e2, e3⟩ := both_choose (d := d) (sg := 0) (x3 := nI x) (stt := false) (e := fun _ => true) hD hR (by omega) hl (by omega) (fun c hc => ⟨fun _ => rfl, fun _ => (bit_get 0 (by omega) c hc).mpr (Nat.zero_testBit c)⟩) (fun q => absurd q (by decide)) (fun _ _ _ => rfl) 2000 0 0 (by omega) (by omega) (by omega)
      by_cases h0 : nh x1 = -1
      · have h0' := (nh_neg (by omega)).mp h0
        obtain ⟨f', m', g1, g2, g3⟩ := go x2 (by omega)
        refine ⟨f', m', ?_, fun k39 X2 => ?_, g3⟩
        · rw [fX5_dealOut_21, if_neg nle, t1]
          unfold fX5_choose
          rw [show fX5_choose_6 f 2000 (nI lw) (nI d) (nI s) (-1) 0 = _ from c1, sp_bd, if_pos h0, show fX5_choose_6 f 2000 (nI lw) (nI d) 0 (-1) 0 = _ from e1, sp_bd]
          exact g1
        · rw [fX8_laysRota_47, hM, sp_bd, if_neg nle]
          unfold fX8_choose
          rw [show fX8_choose_7 m 2000 (nI lw) (nI d) (nI x) true (-1000000) 0 = _ from c2, sp_bd, if_pos h0', show fX8_choose_7 m 2000 (nI lw) (nI d) (nI x) false (-1000000) 0 = _ from e2, sp_bd]
          exact g2 k39 X2
      · have h0' := fun z => h0 ((nh_neg (by omega)).mpr z)
        obtain ⟨f', m', g1, g2, g3⟩ := go x1 (by omega)
        refine ⟨f', m', ?_, fun k39 X2 => ?_, g3⟩
        · rw [fX5_dealOut_21, if_neg nle, t1]
          unfold fX5_choose
          rw [show fX5_choose_6 f 2000 (nI lw) (nI d) (nI s) (-1) 0 = _ from c1, sp_bd, if_neg h0]
          exact g1
        · rw [fX8_laysRota_47, hM, sp_bd, if_neg nle]
          unfold fX8_choose
          rw [show fX8_choose_7 m 2000 (nI lw) (nI d) (nI x) true (-1000000) 0 = _ from c2, sp_bd, if_neg h0']
          exact g2 k39 X2
def ss (B : Nat → Nat) (y : Nat) (L : LL) (n : Nat) : Nat := fb_sm (fun i => sv (rk B y L (i + 1))) n
theorem ss_le {f m : fr_N} {B : Nat → Nat} {y : Nat} {L : LL} (h : LD f m B y L) (n : Nat) : ss B y L n ≤ n * 4 := fb_sm_bound fun k _ => (sv_bd (rk_bd h (k + 1))).2
theorem RT.up7 {f m : fr_N} {s : Nat} (v : Int32) (h : RT f m s) : RT (fr_up f 48 7 v) m s := by
  obtain ⟨hs', la, lb, ms, dl, h1, h2, h3, h4, h5, h6, h7, h8⟩ := h
  refine ⟨hs', la, lb, ms, dl, fun c hc => ?_, h2, ?_, h4, ?_, h6, h7, h8⟩
  · rw [sp_up_cell _ _ _ (show (49 : Nat) ≠ 48 by omega), sp_up_cell _ _ _ (show (50 : Nat) ≠ 48 by omega)]; exact h1 c hc
  · rw [sp_up_slot _ _ _ (by omega)]; exact h3
  · rw [sp_up_slot _ _ _ (by omega)]; exact h5
theorem both_days {B : Nat → Nat} {y : Nat} {L : LL} {lw E : Nat} (hl : lw ≤ 2) (hE : E ≤ dy (B 0) y) : ∀ (k j : Nat) (f m : fr_N), LD f m B y L → RT f m (ss B y L j) → (1 ≤ j → TD f m (sv (rk B y L j))) → j ≤ E → E - j < k → ∃ f' m', fX5_go_28 k (nI lw) (nI E) (nI (j + 1)) f = some f' ∧ fX8_laysRota_39 k (nI lw) (nI E) (nI (j + 1)) m = some m' ∧ RT f' m' (ss B y L E) ∧ (1 ≤ E → TD f' m' (sv (rk B y L E))) ∧ KF f f' ∧ KM m m'
  | 0, _, _, _, _, _, _, _, hk => absurd hk (by omega)
  | k + 1, j, f, m, hD, hR, hT, hj, hk => by
    have hb := dy_bd (B 0) y
    rw [fX5_go_28, fX8_laysRota_39]
    by_cases he : j = E
    · have lt : nI E < nI (j + 1) := (n_lt (by omega) (by omega)).mpr (by omega)
      rw [if_pos lt, if_pos lt]
      exact ⟨f, m, rfl, rfl, by rw [← he]; exact hR, fun h => by rw [← he]; exact hT (by omega), fun _ _ => rfl, ⟨fun _ _ _ _ _ => rfl, fun _ _ _ => rfl⟩⟩
    · have nlt : ¬ nI E < nI (j + 1) := fun z => by have := (n_lt (by omega) (by omega)).mp z; omega
      rw [if_neg nlt, if_neg nlt]
      unfold fX5_dealOut
      have hK : KF f (fr_up f 48 7 0) := fun c hc => sp_up_cell _ _ _ (by omega)
      have hD0 := hD.rota hK (show KM m m from ⟨fun _ _ _ _ _ => rfl, fun _ _ _ => rfl⟩)
      have hS4 := sv_bd (rk_bd hD (j + 1))
      have hss := ss_le hD j
      obtain ⟨f1, m1, a1, a2, a3, a4, a5, a6⟩ := both_deal (lw := lw) (d := j + 1) (s0 := ss B y L j) hl (by omega) rfl (by omega) 2000 0 (fr_up f 48 7 0) m hD0 (hR.up7 0) ⟨fun _ => 0, 0, sp_up_same _ _ _ _, by omega, fun c hc => by rw [Nat.zero_testBit]; exact ⟨fun q => absurd q (by decide), fun ⟨i, q, _⟩ => absurd q (by omega)⟩, fun i hi => absurd hi (by omega)⟩ (by omega) (by omega)
      rw [sp_lt, F_services hD0 (by omega), sp_bd, if_neg (show ¬ (4 : Int32) < nI (sv (rk B y L (j + 1))) from fun z => by have := (n_lt (a := 4) (by omega) (by omega)).mp z; omega), show fX5_dealOut_21 2000 (nI lw) (nI (j + 1)) (nI (sv (rk B y L (j + 1)))) 0 (fr_up f 48 7 0) = _ from a1, sp_bd, show fX8_laysRota_47 (fX8_laysRota_39 k) 2000 (nI lw) (nI E) (nI (j + 1)) 0 m = _ from a2 _ _, nI_1]
      obtain ⟨f2, m2, b1, b2, b3, b4, b5, b6⟩ := both_days hl hE k (j + 1) f1 m1 (hD.rota (hK.trans a5) a6) a3 (fun _ => a4) (by omega) (by omega)
      exact ⟨f2, m2, b1, b2, b3, b4, (hK.trans a5).trans b5, a6.trans b6⟩
theorem M_rota2 {lw E : Int32} : ∀ (k j : Nat) (m : fr_N), j ≤ 5 → 5 - j < k → (∀ c, c < j → m 12 c = 0 ∧ m 13 c = 0) → ∃ m', fX8_laysRota_2 k lw E (nI j) m = fX8_laysRota_39 2000 lw E 1 m' ∧ (∀ c, c < 5 → m' 12 c = 0 ∧ m' 13 c = 0) ∧ m' 0 25 = 0 ∧ m' 0 26 = 0 ∧ KM m m'
  | 0, _, _, _, hk, _ => absurd hk (by omega)
  | k + 1, j, m, hj, hk, h0 => by
    rw [fX8_laysRota_2]
    by_cases he : j = 5
    · subst he
      rw [if_pos (show (5 : Int32) ≤ nI 5 by decide), sp_lt, sp_lt]
      refine ⟨_, rfl, fun c hc => ?_, ?_, ?_, ⟨fun c e1 e2 e3 e4 => ?_, fun i e1 e2 => ?_⟩⟩
      · rw [sp_up_cell _ _ _ (show (12 : Nat) ≠ 0 by omega), sp_up_cell _ _ _ (show (12 : Nat) ≠ 0 by omega), sp_up_cell _ _ _ (show (13 : Nat) ≠ 0 by omega), sp_up_cell _ _ _ (show (13 : Nat) ≠ 0 by omega)]
        exact h0 c hc
      · rw [sp_up_slot _ _ _ (by omega), sp_up_same]
      · rw [sp_up_same]
      · rw [sp_up_cell _ _ _ e1, sp_up_cell _ _ _ e1]
      · rw [sp_up_slot _ _ _ e2, sp_up_slot _ _ _ e1]
    · rw [if_neg (show ¬ (5 : Int32) ≤ nI j from fun z => by have := (n_le (a := 5) (by omega) (by omega)).mp z; omega), sp_ck (by omega) (by omega), sp_lt, sp_ck (by omega) (by omega), sp_lt, nI_clamp (by omega), nI_1]
      obtain ⟨m', g1, g2, g3, g4, g5⟩ := M_rota2 (lw := lw) (E := E) k (j + 1) (fr_up (fr_up m 12 j 0) 13 j 0) (by omega) (by omega) (fun c hc => by
        rw [sp_up_cell _ _ _ (show (12 : Nat) ≠ 13 by omega)]
        by_cases e : c = j
        · subst e; rw [sp_up_same, sp_up_same]; exact ⟨rfl, rfl⟩
        · rw [sp_up_slot _ _ _ e, sp_up_slot _ _ _ e, sp_up_cell _ _ _ (by omega)]; exact h0 c (by omega))
      refine ⟨m', g1, g2, g3, g4, ⟨fun c e1 e2 e3 e4 => ?_, fun i e1 e2 => ?_⟩⟩
      · rw [g5.1 c e1 e2 e3 e4, sp_up_cell _ _ _ e3, sp_up_cell _ _ _ e2]
      · rw [g5.2 i e1 e2, sp_up_cell _ _ _ (by omega), sp_up_cell _ _ _ (by omega)]
theorem both_go {f m : fr_N} {B : Nat → Nat} {y : Nat} {L : LL} (hD : LD f m B y L) {lw E : Nat} (hl : lw ≤ 2) (hE : E ≤ dy (B 0) y) : ∃ f' m', fX5_go (nI lw) (nI E) f = some f' ∧ fX8_laysRota (nI lw) (nI E) m = some m' ∧ RT f' m' (ss B y L E) ∧ (1 ≤ E → TD f' m' (sv (rk B y L E))) ∧ KF f f' ∧ KM m m' := by
  have hb := dy_bd (B 0) y
  unfold fX5_go fJ7_fill_53178_49 fJ7_fill_53178_50 fX8_laysRota
  obtain ⟨n1, g1, g2, g3, -⟩ := gF_spec 49 5 (by omega) 0 2000 0 f (by omega) (by omega)
  obtain ⟨n2, k1, k2, k3, -⟩ := gF_spec 50 5 (by omega) 0 2000 0 n1 (by omega) (by omega)
  obtain ⟨m', a1, a2, a3, a4, a5⟩ := M_rota2 (lw := nI lw) (E := nI E) 2000 0 m (by omega) (by omega) (fun c hc => absurd hc (by omega))
  rw [gF_49, show gF 49 5 2000 0 0 5 f = _ from g1, sp_bd, gF_50, show gF 50 5 2000 0 0 5 n1 = _ from k1, sp_bd, sp_lt, sp_lt, show fX8_laysRota_2 2000 (nI lw) (nI E) 0 m = _ from a1]
  have hK : KF f (fr_up (fr_up n2 48 5 0) 48 6 0) := fun c hc => by
    rw [sp_up_cell _ _ _ (by omega), sp_up_cell _ _ _ (by omega), k2 c (by omega), g2 c (by omega)]
  obtain ⟨f2, m2, b1, b2, b3, b4, b5, b6⟩ := both_days (B := B) (y := y) (L := L) hl hE 2000 0 (fr_up (fr_up n2 48 5 0) 48 6 0) m' (hD.rota hK a5) ⟨fun _ => 0, fun _ => 0, fun _ => 0, 0, 0, fun c hc => by
      rw [sp_up_cell _ _ _ (show (49 : Nat) ≠ 48 by omega), sp_up_cell _ _ _ (show (49 : Nat) ≠ 48 by omega), sp_up_cell _ _ _ (show (50 : Nat) ≠ 48 by omega), sp_up_cell _ _ _ (show (50 : Nat) ≠ 48 by omega), k2 49 (by omega), g3 c (by omega) hc, k3 c (by omega) hc, (a2 c hc).1, (a2 c hc).2]
      exact ⟨rfl, rfl, rfl, rfl, Nat.zero_le _, Nat.zero_le _, Nat.zero_le _⟩, fun _ _ _ _ => Iff.rfl, sp_up_same _ _ _ _, a4, by rw [sp_up_slot _ _ _ (by omega), sp_up_same]; rfl, a3, by omega, by omega⟩ (fun h => absurd h (by omega)) (by omega) (by omega)
  exact ⟨f2, m2, b1, b2, b3, b4, hK.trans b5, a5.trans b6⟩
/-! the year -/
theorem F_sumServices {f m : fr_N} {B : Nat → Nat} {y : Nat} {L : LL} (h : LD f m B y L) : ∀ (k j : Nat), j ≤ dy (B 0) y → dy (B 0) y - j < k → fX3_servicesOfAllDays_4 f k (nI (ss B y L j)) (nI (j + 1)) = some (nI (ss B y L (dy (B 0) y)))
  | 0, _, _, hk => absurd hk (by omega)
  | k + 1, j, hj, hk => by
    have hb := dy_bd (B 0) y
    rw [fX3_servicesOfAllDays_4, h.2.2.2.1.1]
    by_cases he : j = dy (B 0) y
    · rw [if_pos ((n_lt (by omega) (by omega)).mpr (by omega)), ← he]
    · rw [if_neg (fun z => by have := (n_lt (by omega) (by omega)).mp z; omega), F_services h (by omega), sp_bd, nI_add, nI_1]
      exact F_sumServices h k (j + 1) (by omega) (by omega)
theorem M_sundays {f m : fr_N} {B : Nat → Nat} {y : Nat} {L : LL} (h : LD f m B y L) : ∀ (k j : Nat), j ≤ dy (B 0) y → dy (B 0) y - j < k → fX8_sundays_4 m k (nI ((st B y + j + 6) / 7 - (st B y + 6) / 7)) (nI (j + 1)) = some (nI ((st B y + dy (B 0) y + 6) / 7 - (st B y + 6) / 7))
  | 0, _, _, hk => absurd hk (by omega)
  | k + 1, j, hj, hk => by
    have hb := dy_bd (B 0) y
    have hst := st_lt B y
    rw [fX8_sundays_4, h.2.2.2.2.1.1]
    by_cases he : j = dy (B 0) y
    · rw [if_pos ((n_lt (by omega) (by omega)).mpr (by omega)), ← he]
    · rw [if_neg (fun z => by have := (n_lt (by omega) (by omega)).mp z; omega), M_weekday h.2.2.2.2.1.2 hst (by omega), sp_bd, n_z, nI_1, nI_1]
      have ih := M_sundays h k (j + 1) (by omega) (by omega)
      have hw : wk (st B y) (j + 1) = (st B y + j) % 7 := by unfold wk; congr 1
      by_cases q : (st B y + j) % 7 = 0
      · rw [if_pos (by rw [hw, q]; rfl), show (st B y + j + 6) / 7 - (st B y + 6) / 7 + 1 = (st B y + (j + 1) + 6) / 7 - (st B y + 6) / 7 by omega]; exact ih
      · rw [if_neg (fun z => q (by have := (n_0 (by omega)).mp z; omega)), show (st B y + j + 6) / 7 - (st B y + 6) / 7 = (st B y + (j + 1) + 6) / 7 - (st B y + 6) / 7 by omega]; exact ih
theorem both_sundays {f m : fr_N} {B : Nat → Nat} {y : Nat} {L : LL} (h : LD f m B y L) : ∃ v, fX2_sundays f = some v ∧ fX8_sundays m = some v := by
  have hb := dy_bd (B 0) y
  have hst := st_lt B y
  have hsf := sf_bd (st B y) 1
  have e1 := M_sundays h 2000 0 (by omega) (by omega)
  rw [show (st B y + 0 + 6) / 7 - (st B y + 6) / 7 = 0 by omega] at e1
  refine ⟨_, ?_, e1⟩
  unfold fX2_sundays
  rw [show fX2_sundayFrom 1 f = _ from F_sundayFrom (d := 1) h.2.2.2.1.2.1 hst (by omega), sp_bd, h.2.2.2.1.1, pk_sub (by omega), show (7 : Int32) = nI 7 from rfl, pk_div (by omega) (by omega) (by omega), nI_1]
  congr 2
  have : sf (st B y) 1 = 1 + (7 - st B y % 7) % 7 := rfl
  omega
theorem op_year {f m : fr_N} (hr : RR f m) (a b : Int32) : OK (fX7_year a b f) (fX8_year a b m) := by
  obtain ⟨B, k, H, t, T, h1, h2, h3, h4, h5⟩ := id hr
  refine OQ.ok ?_ hr
  unfold fX7_year fX8_year
  refine Q_told h1 fun hb => ?_
  refine Q_year fun y y1 y2 hy => ?_
  refine Q_in (i := 0) (j := 8) rfl rfl rfl rfl fun j j1 j2 hj => ?_
  subst hy hj
  refine Q_lay h1 y1 y2 fun f' m' L hD ho a5 a6 => ?_
  have v6 := hD.1.2.2.2.2.2.1
  have v5 := hD.1.2.2.2.2.1
  have hdy := dy_bd (B 0) y
  have ne : ∀ i j : Nat, i < 100 → j < 100 → i ≠ j → ¬ nI i = nI j := fun i j hi hj h z => h ((nI_eq (by omega) (by omega)).mp z)
  obtain ⟨f2, m2, b1, b2, ⟨hs', la, lb, ms, dl, r1, r2, r3, r4, r5, r6, r7, r8⟩, b4, b5, b6⟩ := both_go hD (lw := B 5) (E := dy (B 0) y) v5 (Nat.le_refl _)
  rw [hD.2.2.2.1.1, hD.2.2.2.1.2.1, hD.2.2.2.1.2.2.1, hD.2.2.2.1.2.2.2, hD.2.2.2.2.1.1, hD.2.2.2.2.1.2, F_law hD (by omega), hD.m1 (by omega), b1, b2, sp_bd, sp_bd]
  rcases (show j = 0 ∨ j = 1 ∨ j = 2 ∨ j = 3 ∨ j = 4 ∨ j = 5 ∨ j = 6 ∨ j = 7 ∨ j = 8 by omega) with rfl | rfl | rfl | rfl | rfl | rfl | rfl | rfl | rfl
  · rw [if_pos (show nI 0 = 0 from rfl), if_pos (show nI 0 = 0 from rfl)]
    exact OQ.same
  · rw [if_neg (show ¬ nI 1 = 0 from ne 1 0 (by omega) (by omega) (by omega)), if_neg (show ¬ nI 1 = 0 from ne 1 0 (by omega) (by omega) (by omega)), if_pos (show nI 1 = 1 from rfl), if_pos (show nI 1 = 1 from rfl)]
    exact OQ.same
  · rw [if_neg (show ¬ nI 2 = 0 from ne 2 0 (by omega) (by omega) (by omega)), if_neg (show ¬ nI 2 = 0 from ne 2 0 (by omega) (by omega) (by omega)), if_neg (show ¬ nI 2 = 1 from ne 2 1 (by omega) (by omega) (by omega)), if_neg (show ¬ nI 2 = 1 from ne 2 1 (by omega) (by omega) (by omega)), if_pos (show nI 2 = 2 from rfl), if_pos (show nI 2 = 2 from rfl), M_moon hD.1 hD.2.2.1 ⟨y1, y2⟩, sp_bd]
    exact OQ.same
  · rw [if_neg (show ¬ nI 3 = 0 from ne 3 0 (by omega) (by omega) (by omega)), if_neg (show ¬ nI 3 = 0 from ne 3 0 (by omega) (by omega) (by omega)), if_neg (show ¬ nI 3 = 1 from ne 3 1 (by omega) (by omega) (by omega)), if_neg (show ¬ nI 3 = 1 from ne 3 1 (by omega) (by omega) (by omega)), if_neg (show ¬ nI 3 = 2 from ne 3 2 (by omega) (by omega) (by omega)), if_neg (show ¬ nI 3 = 2 from ne 3 2 (by omega) (by omega) (by omega)), if_pos (show nI 3 = 3 from rfl), if_pos (show nI 3 = 3 from rfl), M_spring hD.1 hD.2.2.1 hD.2.2.2.2.1 ⟨y1, y2⟩, sp_bd]
    exact OQ.same
  · obtain ⟨v, q1, q2⟩ := both_sundays hD
    rw [if_neg (show ¬ nI 4 = 0 from ne 4 0 (by omega) (by omega) (by omega)), if_neg (show ¬ nI 4 = 0 from ne 4 0 (by omega) (by omega) (by omega)), if_neg (show ¬ nI 4 = 1 from ne 4 1 (by omega) (by omega) (by omega)), if_neg (show ¬ nI 4 = 1 from ne 4 1 (by omega) (by omega) (by omega)), if_neg (show ¬ nI 4 = 2 from ne 4 2 (by omega) (by omega) (by omega)), if_neg (show ¬ nI 4 = 2 from ne 4 2 (by omega) (by omega) (by omega)), if_neg (show ¬ nI 4 = 3 from ne 4 3 (by omega) (by omega) (by omega)), if_neg (show ¬ nI 4 = 3 from ne 4 3 (by omega) (by omega) (by omega)), if_pos (show nI 4 = 4 from rfl), if_pos (show nI 4 = 4 from rfl), q1, q2, sp_bd, sp_bd]
    exact OQ.same
  · rw [if_neg (show ¬ nI 5 = 0 from ne 5 0 (by omega) (by omega) (by omega)), if_neg (show ¬ nI 5 = 0 from ne 5 0 (by omega) (by omega) (by omega)), if_neg (show ¬ nI 5 = 1 from ne 5 1 (by omega) (by omega) (by omega)), if_neg (show ¬ nI 5 = 1 from ne 5 1 (by omega) (by omega) (by omega)), if_neg (show ¬ nI 5 = 2 from ne 5 2 (by omega) (by omega) (by omega)), if_neg (show ¬ nI 5 = 2 from ne 5 2 (by omega) (by omega) (by omega)), if_neg (show ¬ nI 5 = 3 from ne 5 3 (by omega) (by omega) (by omega)), if_neg (show ¬ nI 5 = 3 from ne 5 3 (by omega) (by omega) (by omega)), if_neg (show ¬ nI 5 = 4 from ne 5 4 (by omega) (by omega) (by omega)), if_neg (show ¬ nI 5 = 4 from ne 5 4 (by omega) (by omega) (by omega)), if_pos (show nI 5 = 5 from rfl), if_pos (show nI 5 = 5 from rfl)]
    unfold fX3_howMany fX8_manyHeld
    rw [show fX3_howMany_4 f' 2000 1 0 0 = _ from F_howMany hD (w := 1) (by omega) 2000 0 (by omega) (by omega), sp_bd, show fX3_howMany_4 f' 2000 2 0 0 = _ from F_howMany hD (w := 2) (by omega) 2000 0 (by omega) (by omega), sp_bd, show fX8_manyHeld_4 m' 2000 false 0 0 = _ from M_many12 hD 2000 0 (by omega) (by omega), sp_bd, nI_add, held_12]
    exact OQ.same
  · rw [if_neg (show ¬ nI 6 = 0 from ne 6 0 (by omega) (by omega) (by omega)), if_neg (show ¬ nI 6 = 0 from ne 6 0 (by omega) (by omega) (by omega)), if_neg (show ¬ nI 6 = 1 from ne 6 1 (by omega) (by omega) (by omega)), if_neg (show ¬ nI 6 = 1 from ne 6 1 (by omega) (by omega) (by omega)), if_neg (show ¬ nI 6 = 2 from ne 6 2 (by omega) (by omega) (by omega)), if_neg (show ¬ nI 6 = 2 from ne 6 2 (by omega) (by omega) (by omega)), if_neg (show ¬ nI 6 = 3 from ne 6 3 (by omega) (by omega) (by omega)), if_neg (show ¬ nI 6 = 3 from ne 6 3 (by omega) (by omega) (by omega)), if_neg (show ¬ nI 6 = 4 from ne 6 4 (by omega) (by omega) (by omega)), if_neg (show ¬ nI 6 = 4 from ne 6 4 (by omega) (by omega) (by omega)), if_neg (show ¬ nI 6 = 5 from ne 6 5 (by omega) (by omega) (by omega)), if_neg (show ¬ nI 6 = 5 from ne 6 5 (by omega) (by omega) (by omega)), if_pos (show nI 6 = 6 from rfl), if_pos (show nI 6 = 6 from rfl)]
    unfold fX3_howMany fX8_manyHeld
    rw [show fX3_howMany_4 f' 2000 3 0 0 = _ from F_howMany hD (w := 3) (by omega) 2000 0 (by omega) (by omega), sp_bd, show fX8_manyHeld_4 m' 2000 true 0 0 = _ from M_many3 hD 2000 0 (by omega) (by omega), sp_bd]
    exact OQ.same
  · rw [if_neg (show ¬ nI 7 = 0 from ne 7 0 (by omega) (by omega) (by omega)), if_neg (show ¬ nI 7 = 0 from ne 7 0 (by omega) (by omega) (by omega)), if_neg (show ¬ nI 7 = 1 from ne 7 1 (by omega) (by omega) (by omega)), if_neg (show ¬ nI 7 = 1 from ne 7 1 (by omega) (by omega) (by omega)), if_neg (show ¬ nI 7 = 2 from ne 7 2 (by omega) (by omega) (by omega)), if_neg (show ¬ nI 7 = 2 from ne 7 2 (by omega) (by omega) (by omega)), if_neg (show ¬ nI 7 = 3 from ne 7 3 (by omega) (by omega) (by omega)), if_neg (show ¬ nI 7 = 3 from ne 7 3 (by omega) (by omega) (by omega)), if_neg (show ¬ nI 7 = 4 from ne 7 4 (by omega) (by omega) (by omega)), if_neg (show ¬ nI 7 = 4 from ne 7 4 (by omega) (by omega) (by omega)), if_neg (show ¬ nI 7 = 5 from ne 7 5 (by omega) (by omega) (by omega)), if_neg (show ¬ nI 7 = 5 from ne 7 5 (by omega) (by omega) (by omega)), if_neg (show ¬ nI 7 = 6 from ne 7 6 (by omega) (by omega) (by omega)), if_neg (show ¬ nI 7 = 6 from ne 7 6 (by omega) (by omega) (by omega)), if_pos (show nI 7 = 7 from rfl), if_pos (show nI 7 = 7 from rfl)]
    unfold fX3_servicesOfAllDays
    rw [show fX3_servicesOfAllDays_4 f' 2000 0 1 = _ from F_sumServices hD 2000 0 (by omega) (by omega), sp_bd, r6]
    exact ⟨_, _, _, rfl, rfl, SF.rf, b6.sm⟩
  · rw [if_neg (show ¬ nI 8 = 0 from ne 8 0 (by omega) (by omega) (by omega)), if_neg (show ¬ nI 8 = 0 from ne 8 0 (by omega) (by omega) (by omega)), if_neg (show ¬ nI 8 = 1 from ne 8 1 (by omega) (by omega) (by omega)), if_neg (show ¬ nI 8 = 1 from ne 8 1 (by omega) (by omega) (by omega)), if_neg (show ¬ nI 8 = 2 from ne 8 2 (by omega) (by omega) (by omega)), if_neg (show ¬ nI 8 = 2 from ne 8 2 (by omega) (by omega) (by omega)), if_neg (show ¬ nI 8 = 3 from ne 8 3 (by omega) (by omega) (by omega)), if_neg (show ¬ nI 8 = 3 from ne 8 3 (by omega) (by omega) (by omega)), if_neg (show ¬ nI 8 = 4 from ne 8 4 (by omega) (by omega) (by omega)), if_neg (show ¬ nI 8 = 4 from ne 8 4 (by omega) (by omega) (by omega)), if_neg (show ¬ nI 8 = 5 from ne 8 5 (by omega) (by omega) (by omega)), if_neg (show ¬ nI 8 = 5 from ne 8 5 (by omega) (by omega) (by omega)), if_neg (show ¬ nI 8 = 6 from ne 8 6 (by omega) (by omega) (by omega)), if_neg (show ¬ nI 8 = 6 from ne 8 6 (by omega) (by omega) (by omega)), if_neg (show ¬ nI 8 = 7 from ne 8 7 (by omega) (by omega) (by omega)), if_neg (show ¬ nI 8 = 7 from ne 8 7 (by omega) (by omega) (by omega)), r3, r4]
    exact ⟨_, _, _, rfl, rfl, b5.sf, b6.sm⟩
