/-! book -/
def D0 (i : Nat) : Nat := if 69 ≤ i ∧ i ≤ 78 ∧ (i - 69) % 2 = 0 then 1 else 0
def bk (n0 : fr_N) : Option (Int32 × fr_N) := fr_lt (fr_up n0 0 8 0) fun n5 => fr_lt (fr_up n5 0 12 0) fun n7 => fr_bd (fX8_reads n7) fun n11 => fr_bd (fX8_readsAll n11) fun n14 => fr_lt (fr_up n14 0 7 0) fun n15 => if (n15 0 12) ≤ 0 then fr_bd (fX8_copies_54_53 0 0 n15) fun n20 => fr_lt (fr_up n20 0 3 0) fun n21 => some ((n21 1 6), n21) else fr_lt (fr_up n15 0 14 (n15 0 12)) fun n23 => some (((-1000100 : Int32) - (n23 0 13)), n23)
theorem M_clear : ∀ (k j : Nat) (m : fr_N), j ≤ 79 → 79 - j < k → (∀ i, i < j → m 2 i = nI (D0 i)) → ∃ m', fX8_book_2 k (nI j) m = bk m' ∧ MB (m' 2) 0 D0 ∧ ∀ c, c ≠ 2 → m' c = m c
  | 0, _, _, _, hk, _ => absurd hk (by omega)
  | k + 1, j, m, hj, hk, h => by
    rw [fX8_book_2]
    by_cases he : j = 79
    · subst he
      rw [if_pos (show (79 : Int32) ≤ nI 79 by decide)]
      exact ⟨m, rfl, fun i hi => by rw [Nat.zero_add]; exact h i hi, fun _ _ => rfl⟩
    · have go : ∀ b : Bool, fr_b b = nI (D0 j) → ∃ m', fX8_book_41 (fX8_book_2 k) (nI j) b (nI j) m = bk m' ∧ MB (m' 2) 0 D0 ∧ ∀ c, c ≠ 2 → m' c = m c := by
        intro b hb
        unfold fX8_book_41
        rw [sp_ck (by omega) (by omega), sp_lt, nI_clamp (by omega), nI_1]
        obtain ⟨m', g1, g2, g3⟩ := M_clear k (j + 1) (fr_up m 2 j (fr_b b)) (by omega) (by omega) (fun i hi => by
          by_cases e : i = j
          · subst e; rw [sp_up_same, hb]
          · rw [sp_up_slot _ _ _ e]; exact h i (by omega))
        exact ⟨m', g1, g2, fun c hc => by rw [g3 c hc, sp_up_cell _ _ _ hc]⟩
      rw [if_neg (show ¬ (79 : Int32) ≤ nI j from fun z => by have := (n_le (a := 79) (by omega) (by omega)).mp z; omega), sp_in, sp_bd, sp_wide, nI_toInt (by omega)]
      by_cases h69 : 69 ≤ j
      · rw [decide_eq_true (show (69 : Int64).toInt ≤ (j : Int) ∧ (j : Int) ≤ (78 : Int64).toInt from ⟨by show (69 : Int) ≤ _; omega, by show _ ≤ (78 : Int); omega⟩), if_pos rfl, show nI j - 69 = nI (j - 69) from pk_sub (b := 69) h69, show (2 : Int32) = nI 2 from rfl, sp_rem (by omega) (by omega) (by omega)]
        by_cases e : (j - 69) % 2 = 0
        · rw [if_pos (show nI ((j - 69) % 2) = 0 by rw [e]; rfl)]
          exact go true (by unfold D0; rw [if_pos ⟨h69, by omega, e⟩]; rfl)
        · rw [if_neg (show ¬ nI ((j - 69) % 2) = 0 from fun z => e ((n_0 (by omega)).mp z))]
          exact go false (by unfold D0; rw [if_neg (fun z => e z.2.2)]; rfl)
      · rw [decide_eq_false (show ¬ ((69 : Int64).toInt ≤ (j : Int) ∧ (j : Int) ≤ (78 : Int64).toInt) from fun z => by have : (69 : Int) ≤ _ := z.1; omega), if_neg Bool.false_ne_true]
        exact go false (by unfold D0; rw [if_neg (fun z => h69 z.1)]; rfl)
theorem F_empty {n : fr_N} : ∃ n', fX1_empty_35 n = some n' ∧ n' 35 1 = 0 ∧ n' 35 2 = 0 ∧ (∀ c, c < 5 → n' 41 c = 1 ∧ n' 42 c = 0) ∧ ∀ c, (c < 35 ∨ 42 < c) → n' c = n c := by
  unfold fX1_empty_35 fJ7_fill_53178_41 fJ7_fill_53178_42
  rw [sp_lt, sp_lt, sp_lt, sp_lt]
  obtain ⟨n1, g1, g2, g3, -⟩ := gF_spec 41 5 (by omega) 1 2000 0 (fr_up (fr_up (fr_up (fr_up n 35 0 (fr_b false)) 35 1 0) 35 2 0) 35 3 0) (by omega) (by omega)
  obtain ⟨n2, k1, k2, k3, -⟩ := gF_spec 42 5 (by omega) 0 2000 0 n1 (by omega) (by omega)
  rw [gF_41, show gF 41 5 2000 1 0 5 _ = _ from g1, sp_bd, gF_42, show gF 42 5 2000 0 0 5 n1 = _ from k1, sp_bd]
  refine ⟨n2, rfl, ?_, ?_, fun c hc => ⟨?_, k3 c (by omega) hc⟩, fun c hc => ?_⟩
  · rw [k2 35 (by omega), g2 35 (by omega), sp_up_slot _ _ _ (by omega), sp_up_slot _ _ _ (by omega), sp_up_same]
  · rw [k2 35 (by omega), g2 35 (by omega), sp_up_slot _ _ _ (by omega), sp_up_same]
  · rw [k2 41 (by omega)]; exact g3 c (by omega) hc
  · rw [k2 c (by omega), g2 c (by omega), sp_up_cell _ _ _ (by omega), sp_up_cell _ _ _ (by omega), sp_up_cell _ _ _ (by omega), sp_up_cell _ _ _ (by omega)]
theorem VP_0 : VP D0 := by
  have z : ∀ i, i < 69 → D0 i = 0 := fun i hi => if_neg (by omega)
  unfold VP
  rw [z 0 (by omega), z 1 (by omega), z 2 (by omega), z 5 (by omega), z 6 (by omega), z 7 (by omega)]
  refine ⟨fun i => ?_, by omega, by omega, by omega, by omega, by omega, by omega, fun x hx => absurd hx (by omega), fun x hx => absurd hx (by omega)⟩
  unfold D0
  split <;> omega
theorem op_book {f m : fr_N} (hr : RR f m) : OK (fX7_book f) (fX8_book m) := by
  obtain ⟨B, k, H, t, T, h1, h2, h3, h4, h5⟩ := id hr
  obtain ⟨hv, hF, hT, hM⟩ := id h1
  have h160 := h2.1
  unfold fX7_book fX8_book
  obtain ⟨m1, a1, a2, a3⟩ := M_clear 2000 0 m (by omega) (by omega) (fun i hi => absurd hi (by omega))
  rw [show fX8_book_2 2000 0 m = _ from a1, zAll, sp_lt, sp_lt, sp_lt]
  obtain ⟨f1, b1, b2, b3, b4, b5⟩ := F_empty (n := fr_up (fr_up (fr_up f 34 2 0) 34 4 0) 34 5 0)
  rw [b1, sp_bd]
  unfold bk
  rw [sp_lt, sp_lt]
  have eF : EF f f1 := fun c hc => by
    rw [b5 c (by omega), sp_up_cell _ _ _ (by omega), sp_up_cell _ _ _ (by omega), sp_up_cell _ _ _ (by omega)]
  have e34 : f1 34 2 = nI 0 := by rw [b5 34 (by omega), sp_up_slot _ _ _ (by omega), sp_up_slot _ _ _ (by omega), sp_up_same]; rfl
  have xm : XM m1 (fr_up (fr_up m1 0 8 0) 0 12 0) := (XM.up (by omega)).trans (XM.up (by omega))
  have em : EM m (fr_up (fr_up m1 0 8 0) 0 12 0) := (EM.of2 a3).trans xm.em
  have r2 : R2 f1 (fr_up (fr_up m1 0 8 0) 0 12 0) t T := h2.kept (fun c e1 e2 => eF c (by omega)) (em.1 6 (by omega) (by omega)) (em.2 7 (by omega))
  obtain ⟨m2, c1, c2, c3⟩ := M_reads (p := 0) r2 (by omega) (sp_up_same _ _ _ _) (by rw [sp_up_slot _ _ _ (by omega), sp_up_same]; rfl)
  rw [c1, sp_bd]
  have z : ∀ i, i < 69 → D0 i = 0 := fun i hi => if_neg (by omega)
  have hDR : DR f1 m2 0 D0 := by
    refine ⟨by rw [z 6 (by omega)]; exact b2, by rw [z 7 (by omega)]; exact b3, fun i hi => absurd hi (by omega), fun i hi => absurd hi (by rw [z 6 (by omega)]; omega), fun i hi => absurd hi (by rw [z 7 (by omega)]; omega), fun c hc => ?_, ?_⟩
    · have e1 : D0 (69 + 2 * c) = 1 := if_pos (by omega)
      have e2 : D0 (69 + 2 * c + 1) = 0 := if_neg (by omega)
      rw [e1, e2]
      exact b4 c hc
    · rw [c3.1 2 (by omega), xm.1 2 (by omega)]; exact a2
  have hRN : RN f1 m2 t T 0 := ⟨r2.read XF.rf c3, e34, c2⟩
  rcases RES.behind eF (em.trans c3.em) (T_head hRN hDR VP_0 (z 6 (by omega)) (z 7 (by omega))) with ⟨f3, m3, D, d1, d2, d3, d4, d5, d6, d7, d8, d9⟩ | ⟨f3, m3, d1, d2, d3, d4, d5⟩
  · rw [d1, d2, sp_bd2, sp_bd, sp_lt, if_pos rfl, sp_lt, sp_up_slot _ _ _ (show (12 : Nat) ≠ 7 by omega), d3, if_pos (show (0 : Int32) ≤ 0 by decide)]
    obtain ⟨f4, y1, y2, y3, y4⟩ := gB_spec (n := fr_up f3 1 1 0) (d := 3) (s := 35) (by omega) d4 (d6.kept fun c e1 e2 => sp_up_cell _ _ _ (by omega))
    obtain ⟨m4, w1, w2, w3, -⟩ := gC_spec 2 1 79 79 0 0 (by omega) (by omega) (by omega) ⟨by omega, by omega⟩ 2000 0 (fr_up m3 0 7 0) (by omega) (by omega)
    unfold fX8_copies_54_53
    rw [show fX1_become_3_35 (fr_up f3 1 1 0) = some f4 from y1, sp_bd, sp_lt, gC_1, show gC 2 1 79 79 2000 0 0 0 (fr_up m3 0 7 0) = some m4 from w1, sp_bd, sp_lt]
    have hM4 : MB (m4 1) 0 D := fun i hi => by
      rw [Nat.zero_add, w3 i (by omega) (by omega), sp_up_cell _ _ _ (by omega), show 0 + (i - 0) = i by omega]
      have := d7 i hi
      rw [Nat.zero_add] at this
      exact this
    have kF : ∀ c, (c < 1 ∨ (1 < c ∧ c < 3) ∨ (10 < c ∧ c < 34) ∨ 42 < c) → c ≠ 43 → fr_up f4 43 4 0 c = f c := fun c e1 e2 => by
      rw [sp_up_cell _ _ _ e2, y4 c (by omega), sp_up_cell _ _ _ (by omega), d8 c (by omega)]
    have kM : ∀ c, 3 ≤ c → fr_up m4 0 3 0 c = m c := fun c e1 => by
      rw [sp_up_cell _ _ _ (by omega), w2 c (by omega), sp_up_cell _ _ _ (by omega), d9.1 c (by omega) (by omega)]
    have e1 : fr_up f4 43 4 0 3 1 = nI (D 6) := by rw [sp_up_cell _ _ _ (by omega)]; exact y2.1
    have e2 : fr_up m4 0 3 0 1 6 = nI (D 6) := by
      rw [sp_up_cell _ _ _ (by omega)]
      have := hM4 6 (by omega)
      rwa [Nat.zero_add] at this
    rw [e1, e2]
    refine ⟨_, _, _, rfl, rfl, D, 0, fun _ _ => 0, 0, fun _ => 0, ⟨d4, y2.kept fun c e1 e2 => sp_up_cell _ _ _ (by omega), ?_, ?_⟩, ⟨by omega, ?_, ?_, fun i hi => absurd hi (by omega)⟩, ⟨by omega, sp_up_same _ _ _ _, sp_up_same _ _ _ _, fun j hj => absurd hj (by omega)⟩, ⟨h4.1.kept (fun c e1 e2 => kF c (by omega) (by omega)) (kM 5 (by omega)) (kM 4 (by omega)), h4.2.kept (fun c e1 e2 => kF c (by omega) (by omega)) (kM 5 (by omega)) (kM 4 (by omega))⟩, ?_⟩
    · rw [sp_up_cell _ _ _ (by omega), y3, decide_eq_true d5]; rfl
    · rw [sp_up_cell _ _ _ (by omega)]; exact hM4
    · rw [sp_up_cell _ _ _ (by omega), y4 1 (by omega), sp_up_same]; rfl
    · rw [sp_up_slot _ _ _ (by omega), w2 0 (by omega), sp_up_same]; rfl
    · rw [kF 0 (by omega) (by omega), sp_up_slot _ _ _ (by omega), w2 0 (by omega), sp_up_slot _ _ _ (by omega), d9.2 14 (by omega)]
      exact h5
  · obtain ⟨e, pl, q1, q2, q3, q4, q5, q6, q7⟩ := id d3
    rw [d1, d2, sp_bd2, sp_bd, sp_lt, if_neg Bool.false_ne_true, sp_lt, sp_lt, sp_up_slot _ _ _ (show (12 : Nat) ≠ 7 by omega), q5, if_neg (show ¬ nI e ≤ 0 from fun z => by have := (n_le (b := 0) (by omega) (by omega)).mp z; omega), sp_lt]
    have e1 : fr_up (fr_up f3 1 1 0) 0 7 (fr_up f3 1 1 0 34 4) 34 5 = nI pl := by rw [sp_up_cell _ _ _ (by omega), sp_up_cell _ _ _ (by omega)]; exact q6
    have e2 : fr_up (fr_up m3 0 7 0) 0 14 (nI e) 0 13 = nI pl := by rw [sp_up_slot _ _ _ (by omega), sp_up_slot _ _ _ (by omega)]; exact q7
    have e3 : fr_up f3 1 1 0 34 4 = nI e := by rw [sp_up_cell _ _ _ (by omega)]; exact q4
    rw [e1, e2, e3]
    have kF : ∀ c, (1 < c ∧ c < 34 ∨ 42 < c) → fr_up (fr_up f3 1 1 0) 0 7 (nI e) c = f c := fun c hc => by
      rw [sp_up_cell _ _ _ (by omega), sp_up_cell _ _ _ (by omega), d4 c (by omega)]
    have kM : ∀ c, (c = 1 ∨ 3 ≤ c) → fr_up (fr_up m3 0 7 0) 0 14 (nI e) c = m c := fun c hc => by
      rw [sp_up_cell _ _ _ (by omega), sp_up_cell _ _ _ (by omega), d5.1 c (by omega) (by omega)]
    refine ⟨_, _, _, rfl, rfl, B, k, H, 0, fun _ => 0, h1.kept (fun c e1 e2 => kF c (by omega)) (kM 1 (by omega)), ⟨by omega, ?_, ?_, fun i hi => absurd hi (by omega)⟩, h3.kept (fun c e1 e2 => kF c (by omega)) (kM 3 (by omega)) ?_, ⟨h4.1.kept (fun c e1 e2 => kF c (by omega)) (kM 5 (by omega)) (kM 4 (by omega)), h4.2.kept (fun c e1 e2 => kF c (by omega)) (kM 5 (by omega)) (kM 4 (by omega))⟩, ?_⟩
    · rw [sp_up_cell _ _ _ (by omega), sp_up_same]; rfl
    · rw [sp_up_slot _ _ _ (by omega), sp_up_same]; rfl
    · rw [sp_up_slot _ _ _ (by omega), sp_up_slot _ _ _ (by omega), d5.2 3 (by omega)]
    · rw [sp_up_same, sp_up_same]
