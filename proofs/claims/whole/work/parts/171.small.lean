/-! SMALL FUNCTIONS of both sides -/
theorem sp_hasFeast {n : fr_N} {F : Nat} (h : n 3 1 = nI F) (hF : F < 1000) (x : Int32) : fX1_hasFeast_3 x n = some (decide (0 ≤ x.toInt ∧ x.toInt < (F : Int))) := by
  unfold fX1_hasFeast_3
  rw [h]
  by_cases h1 : x < 0
  · rw [if_pos h1, decide_eq_false]
    rw [fa_lt] at h1
    have : x.toInt < 0 := h1
    omega
  · rw [if_neg h1]
    rw [fa_lt] at h1
    have h1 : ¬ x.toInt < 0 := h1
    by_cases h2 : nI F ≤ x
    · rw [if_pos h2, decide_eq_false]
      rw [fa_le, nI_toInt (by omega)] at h2
      omega
    · rw [if_neg h2, decide_eq_true]
      rw [fa_le, nI_toInt (by omega)] at h2
      omega
theorem sp_hasChoir {n : fr_N} {C : Nat} (h : n 3 3 = nI C) (hC : C < 1000) (x : Int32) : fX1_hasChoir_3 x n = some (decide (0 ≤ x.toInt ∧ x.toInt < (C : Int))) := by
  unfold fX1_hasChoir_3
  rw [h]
  by_cases h1 : x < 0
  · rw [if_pos h1, decide_eq_false]
    rw [fa_lt] at h1
    have : x.toInt < 0 := h1
    omega
  · rw [if_neg h1]
    rw [fa_lt] at h1
    have h1 : ¬ x.toInt < 0 := h1
    by_cases h2 : nI C ≤ x
    · rw [if_pos h2, decide_eq_false]
      rw [fa_le, nI_toInt (by omega)] at h2
      omega
    · rw [if_neg h2, decide_eq_true]
      rw [fa_le, nI_toInt (by omega)] at h2
      omega
theorem sp_n1 {F : Nat} (hF : F < 1000) : (nI F - 1).toInt = (F : Int) - 1 := by
  have := pk_sub_toInt (a := F) (b := 1) (by omega) (by omega)
  exact this
theorem sp_isFeast {n : fr_N} {F : Nat} (h : n 1 6 = nI F) (hF : F < 1000) (x : Int32) : fX8_isFeast x n = some (decide (0 ≤ x.toInt ∧ x.toInt < (F : Int))) := by
  unfold fX8_isFeast
  rw [h, sp_in, sp_wide, sp_wide, sp_n1 hF]
  show some (decide _) = some (decide _)
  congr 1
  apply decide_eq_decide.mpr
  show (0 : Int) ≤ _ ∧ _ ↔ _
  omega
theorem sp_isChoir {n : fr_N} {C : Nat} (h : n 1 8 = nI C) (hC : C < 1000) (x : Int32) : fX8_isChoir x n = some (decide (0 ≤ x.toInt ∧ x.toInt < (C : Int))) := by
  unfold fX8_isChoir
  rw [h, sp_in, sp_wide, sp_wide, sp_n1 hC]
  show some (decide _) = some (decide _)
  congr 1
  apply decide_eq_decide.mpr
  show (0 : Int) ≤ _ ∧ _ ↔ _
  omega
theorem sp_isBook {n : fr_N} {C : Nat} (h : n 1 8 = nI C) (hC : C < 1000) : fX8_isBook n = some (decide (0 < C)) := by
  unfold fX8_isBook
  rw [h]
  by_cases h1 : nI C ≤ 0
  · rw [if_pos h1, decide_eq_false]
    rw [fa_le, nI_toInt (by omega)] at h1
    have : (C : Int) ≤ 0 := h1
    omega
  · rw [if_neg h1, decide_eq_true]
    rw [fa_le, nI_toInt (by omega)] at h1
    have : ¬ (C : Int) ≤ 0 := h1
    omega
/-- a number of a range, asked of a number that is known to lie in it -/
theorem sp_at {x : Int32} {F : Nat} (h : 0 ≤ x.toInt ∧ x.toInt < (F : Int)) : ∃ j, j < F ∧ x = nI j := by
  obtain ⟨j, hj, rfl⟩ := nI_of (x := x) (by rw [fa_lt]; show ¬ x.toInt < 0; omega)
  have h2 := h.2
  rw [nI_toInt hj] at h2
  exact ⟨j, by omega, rfl⟩
theorem sp_mark {n : fr_N} {F f w : Nat} (h : n 3 1 = nI F) (hF : F ≤ 12) (hf : f < F) (hw : w ≤ 3) : fX1_mark_3 (nI f) (nI w) n = some (n 5 (4 * f + w)) := by
  unfold fX1_mark_3
  rw [sp_hasFeast h (by omega), sp_bd, decide_eq_true (by rw [nI_toInt (by omega)]; omega), if_pos rfl, sp_within, sp_bd, decide_eq_true, if_pos rfl]
  · have e : nI f * 4 + nI w = nI (4 * f + w) := by
      rw [show (4 : Int32) = nI 4 from rfl, pk_mul, nI_add]
      congr 1
      omega
    rw [e, sp_ck (by omega) (by omega), nI_clamp (by omega)]
  · rw [nI_toInt (by omega)]
    show (0 : Int) ≤ _ ∧ _ ≤ (3 : Int)
    omega
theorem sp_mof {n : fr_N} {f w : Nat} (hf : f < 12) (hw : w ≤ 3) : fX8_of (nI f) (nI w) n = some (n 1 (9 + 4 * f + w)) := by
  unfold fX8_of
  have e : (9 : Int32) + (4 : Int32) * nI f + nI w = nI (9 + 4 * f + w) := by
    rw [show (4 : Int32) = nI 4 from rfl, show (9 : Int32) = nI 9 from rfl, pk_mul, nI_add, nI_add]
  rw [e, sp_ck (by omega) (by omega), nI_clamp (by omega)]
/-- what a feast may be -/
def cB (a b c d : Int) : Prop := (0 ≤ a ∧ a ≤ 3) ∧ ((a < 2 → 0 ≤ b ∧ b ≤ 99) ∧ (2 ≤ a → 1 ≤ b ∧ b ≤ 365)) ∧ (1 ≤ c ∧ c ≤ 5) ∧ 1 ≤ d ∧ d ≤ 6
theorem sp_least {a : Int32} (h : 0 ≤ a.toInt ∧ a.toInt ≤ 3) : fX1_leastN a = some (if a.toInt < 2 then 0 else 1) := by
  obtain ⟨j, hj, rfl⟩ := sp_of (n := 3) h.1 h.2
  rw [nI_toInt (by omega)]
  rcases (show j = 0 ∨ j = 1 ∨ j = 2 ∨ j = 3 by omega) with rfl | rfl | rfl | rfl <;> rfl
theorem sp_greatest {a : Int32} (h : 0 ≤ a.toInt ∧ a.toInt ≤ 3) : fX1_greatestN a = some (if a.toInt < 2 then 99 else 365) := by
  obtain ⟨j, hj, rfl⟩ := sp_of (n := 3) h.1 h.2
  rw [nI_toInt (by omega)]
  rcases (show j = 0 ∨ j = 1 ∨ j = 2 ∨ j = 3 by omega) with rfl | rfl | rfl | rfl <;> rfl
theorem sp_canBe (a b c d : Int32) : ∃ z : Bool, fX1_canBe a b c d = some z ∧ (z = true ↔ cB a.toInt b.toInt c.toInt d.toInt) := by
  unfold fX1_canBe
  rw [sp_within, sp_bd]
  by_cases h1 : (0 : Int32).toInt ≤ a.toInt ∧ a.toInt ≤ (3 : Int32).toInt
  · have h1' : 0 ≤ a.toInt ∧ a.toInt ≤ 3 := h1
    rw [decide_eq_true h1, if_pos rfl, sp_least h1', sp_bd, sp_greatest h1', sp_bd, sp_within, sp_bd]
    by_cases h2 : (if a.toInt < 2 then (0 : Int32) else 1).toInt ≤ b.toInt ∧ b.toInt ≤ (if a.toInt < 2 then (99 : Int32) else 365).toInt
    · have h2' : (a.toInt < 2 → 0 ≤ b.toInt ∧ b.toInt ≤ 99) ∧ (2 ≤ a.toInt → 1 ≤ b.toInt ∧ b.toInt ≤ 365) := by
        by_cases h3 : a.toInt < 2
        · rw [if_pos h3, if_pos h3] at h2
          exact ⟨fun _ => h2, fun h => absurd h (by omega)⟩
        · rw [if_neg h3, if_neg h3] at h2
          exact ⟨fun h => absurd h h3, fun _ => h2⟩
      rw [decide_eq_true h2, if_pos rfl, sp_within, sp_bd]
      by_cases h4 : (1 : Int32).toInt ≤ c.toInt ∧ c.toInt ≤ (5 : Int32).toInt
      · rw [decide_eq_true h4, if_pos rfl, sp_within, sp_bd]
        by_cases h5 : (1 : Int32).toInt ≤ d.toInt ∧ d.toInt ≤ (6 : Int32).toInt
        · rw [decide_eq_true h5, if_pos rfl]
          exact ⟨true, rfl, fun _ => ⟨h1', h2', h4, h5⟩, fun _ => rfl⟩
        · rw [decide_eq_false h5, if_neg (by decide)]
          exact ⟨false, rfl, fun h => absurd h (by decide), fun h => absurd h.2.2.2 h5⟩
      · rw [decide_eq_false h4, if_neg (by decide)]
        exact ⟨false, rfl, fun h => absurd h (by decide), fun h => absurd h.2.2.1 h4⟩
    · rw [decide_eq_false h2, if_neg (by decide)]
      refine ⟨false, rfl, fun h => absurd h (by decide), fun h => absurd ?_ h2⟩
      by_cases h3 : a.toInt < 2
      · rw [if_pos h3, if_pos h3]
        exact h.2.1.1 h3
      · rw [if_neg h3, if_neg h3]
        exact h.2.1.2 (by omega)
  · rw [decide_eq_false h1, if_neg (by decide)]
    exact ⟨false, rfl, fun h => absurd h (by decide), fun h => absurd h.1 h1⟩
theorem sp_isN (a b : Int32) : fX8_isN a b = some (decide ((a.toInt < 2 → 0 ≤ b.toInt ∧ b.toInt ≤ 99) ∧ (2 ≤ a.toInt → 1 ≤ b.toInt ∧ b.toInt ≤ 365))) := by
  unfold fX8_isN
  by_cases h : (2 : Int32) ≤ a
  · rw [if_pos h, sp_in, sp_bd, sp_wide]
    have h' : 2 ≤ a.toInt := (fa_le 2 a).mp h
    show some (decide _) = some (decide _)
    congr 1
    apply decide_eq_decide.mpr
    exact ⟨fun z => ⟨fun q => absurd q (by omega), fun _ => z⟩, fun z => z.2 h'⟩
  · rw [if_neg h, sp_in, sp_bd, sp_wide]
    have h' : ¬ 2 ≤ a.toInt := fun z => h ((fa_le 2 a).mpr z)
    show some (decide _) = some (decide _)
    congr 1
    apply decide_eq_decide.mpr
    exact ⟨fun z => ⟨fun _ => z, fun q => absurd q h'⟩, fun z => z.1 (by omega)⟩
/-! rows copied by the reference -/
def gC (s d Ns Nd : Nat) : Nat → Int32 → Int32 → Int32 → fr_N → Option fr_N
  | 0, _, _, _, _ => none
  | k + 1, x1, x3, x4, n0 => if (79 : Int32) ≤ x4 then some n0 else fr_ck (x1 + x4) Ns (fr_ck (x3 + x4) Nd (fr_lt (fr_up n0 d (Int32.toNatClampNeg (x3 + x4)) (n0 s (Int32.toNatClampNeg (x1 + x4)))) fun n4 => ((gC s d Ns Nd k) x1 x3 (x4 + (1 : Int32)) n4)))
theorem gC_spec (s d Ns Nd a b : Nat) (hsd : s ≠ d) (ha : a + 79 ≤ Ns) (hb : b + 79 ≤ Nd) (hN : Ns < 10000 ∧ Nd < 10000) : ∀ (k j : Nat) (n : fr_N), j ≤ 79 → 79 - j < k →
    ∃ n', gC s d Ns Nd k (nI a) (nI b) (nI j) n = some n' ∧ (∀ c, c ≠ d → n' c = n c) ∧ (∀ i, b + j ≤ i → i < b + 79 → n' d i = n s (a + (i - b))) ∧ ∀ i, (i < b + j ∨ b + 79 ≤ i) → n' d i = n d i
  | 0, _, _, _, hk => absurd hk (by omega)
  | k + 1, j, n, hj, hk => by
    rw [gC]
    by_cases h : j = 79
    · subst h
      rw [if_pos (by rw [fa_le]; exact Int.le_refl _)]
      exact ⟨n, rfl, fun _ _ => rfl, fun i h1 h2 => absurd h1 (by omega), fun _ _ => rfl⟩
    · rw [if_neg (by rw [fa_le, nI_toInt (by omega)]; show ¬ (79 : Int) ≤ _; omega), nI_add, nI_add, sp_ck (by omega) (by omega), sp_ck (by omega) (by omega), sp_lt, nI_1, nI_clamp (by omega), nI_clamp (by omega)]
      obtain ⟨n', h1, h2, h3, h4⟩ := gC_spec s d Ns Nd a b hsd ha hb hN k (j + 1) (fr_up n d (b + j) (n s (a + j))) (by omega) (by omega)
      refine ⟨n', h1, fun c hc => by rw [h2 c hc, sp_up_cell n _ _ hc], fun i h5 h6 => ?_, fun i h5 => ?_⟩
      · by_cases h7 : i = b + j
        · subst h7
          rw [h4 _ (by omega), sp_up_same]
          congr 1
          omega
        · rw [h3 i (by omega) h6, sp_up_cell n _ _ hsd]
      · rw [h4 i (by omega), sp_up_slot n d _ (by omega)]
theorem gC_1 : ∀ k, fX8_copies_54_53_3 k = gC 2 1 79 79 k
  | 0 => rfl
  | k + 1 => by funext x1 x3 x4 n; rw [fX8_copies_54_53_3, gC, gC_1 k]
theorem gC_2 : ∀ k, fX8_copies_55_53_3 k = gC 3 1 1264 79 k
  | 0 => rfl
  | k + 1 => by funext x1 x3 x4 n; rw [fX8_copies_55_53_3, gC, gC_2 k]
theorem gC_3 : ∀ k, fX8_copies_53_55_3 k = gC 1 3 79 1264 k
  | 0 => rfl
  | k + 1 => by funext x1 x3 x4 n; rw [fX8_copies_53_55_3, gC, gC_3 k]
theorem gC_4 : ∀ k, fX8_copies_53_56_3 k = gC 1 4 79 158 k
  | 0 => rfl
  | k + 1 => by funext x1 x3 x4 n; rw [fX8_copies_53_56_3, gC, gC_4 k]
theorem gC_5 : ∀ k, fX8_copies_56_53_3 k = gC 4 1 158 79 k
  | 0 => rfl
  | k + 1 => by funext x1 x3 x4 n; rw [fX8_copies_56_53_3, gC, gC_5 k]
/-! rows filled -/
def gF (c N : Nat) : Nat → Int32 → Int32 → Int32 → fr_N → Option fr_N
  | 0, _, _, _, _ => none
  | k + 1, x1, x2, x3, n0 => if x3 ≤ x2 then some n0 else fr_ck x2 N (fr_lt (fr_up n0 c (Int32.toNatClampNeg x2) x1) fun n3 => ((gF c N k) x1 (x2 + (1 : Int32)) x3 n3))
theorem gF_spec (c N : Nat) (hN : N < 1000) (v : Int32) : ∀ (k j : Nat) (n : fr_N), j ≤ N → N - j < k → ∃ n', gF c N k v (nI j) (nI N) n = some n' ∧ (∀ e, e ≠ c → n' e = n e) ∧ (∀ i, j ≤ i → i < N → n' c i = v) ∧ ∀ i, i < j → n' c i = n c i
  | 0, _, _, _, hk => absurd hk (by omega)
  | k + 1, j, n, hj, hk => by
    rw [gF]
    by_cases h : j = N
    · subst h
      rw [if_pos (by rw [fa_le]; exact Int.le_refl _)]
      exact ⟨n, rfl, fun _ _ => rfl, fun i h1 h2 => absurd h1 (by omega), fun _ _ => rfl⟩
    · rw [if_neg (by rw [fa_le, nI_toInt (by omega), nI_toInt (by omega)]; omega), sp_ck (by omega) (by omega), sp_lt, nI_1, nI_clamp (by omega)]
      obtain ⟨n', h1, h2, h3, h4⟩ := gF_spec c N hN v k (j + 1) (fr_up n c j v) (by omega) (by omega)
      refine ⟨n', h1, fun e he => by rw [h2 e he, sp_up_cell n _ _ he], fun i h5 h6 => ?_, fun i h5 => ?_⟩
      · by_cases h7 : i = j
        · subst h7
          rw [h4 _ (by omega), sp_up_same]
        · exact h3 i (by omega) h6
      · rw [h4 i (by omega), sp_up_slot n c _ (by omega)]
theorem gF_41 : ∀ k, fJ7_fill_53178_41_5 k = gF 41 5 k
  | 0 => rfl
  | k + 1 => by funext x1 x3 x4 n; rw [fJ7_fill_53178_41_5, gF, gF_41 k]
theorem gF_42 : ∀ k, fJ7_fill_53178_42_5 k = gF 42 5 k
  | 0 => rfl
  | k + 1 => by funext x1 x3 x4 n; rw [fJ7_fill_53178_42_5, gF, gF_42 k]
theorem gF_16 : ∀ k, fJ7_fill_53178_16_5 k = gF 16 367 k
  | 0 => rfl
  | k + 1 => by funext x1 x3 x4 n; rw [fJ7_fill_53178_16_5, gF, gF_16 k]
theorem gF_49 : ∀ k, fJ7_fill_53178_49_5 k = gF 49 5 k
  | 0 => rfl
  | k + 1 => by funext x1 x3 x4 n; rw [fJ7_fill_53178_49_5, gF, gF_49 k]
theorem gF_50 : ∀ k, fJ7_fill_53178_50_5 k = gF 50 5 k
  | 0 => rfl
  | k + 1 => by funext x1 x3 x4 n; rw [fJ7_fill_53178_50_5, gF, gF_50 k]
