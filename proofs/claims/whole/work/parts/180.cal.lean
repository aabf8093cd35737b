/-! THE CALENDAR: both sides' numbers, in plain ones -/
def lp (l y : Nat) : Bool := decide ((l = 1 ∧ y % 4 = 0) ∨ (l = 2 ∧ y % 4 = 0 ∧ (y % 100 ≠ 0 ∨ y % 400 = 0)))
def dy (l y : Nat) : Nat := if lp l y = true then 366 else 365
/-- days of the years ahead of y -/
def sy (l : Nat) : Nat → Nat
  | 0 => 0
  | 1 => 0
  | y + 2 => sy l (y + 1) + dy l (y + 1)
def la (l y : Nat) : Nat := if l = 0 then 0 else if l = 1 then (y - 1) / 4 else (y - 1) / 4 - (y - 1) / 100 + (y - 1) / 400
theorem lp_iff {l y : Nat} : lp l y = true ↔ ((l = 1 ∧ y % 4 = 0) ∨ (l = 2 ∧ y % 4 = 0 ∧ (y % 100 ≠ 0 ∨ y % 400 = 0))) := decide_eq_true_iff
theorem dy_cases (l y : Nat) : (lp l y = true ∧ dy l y = 366) ∨ (¬ lp l y = true ∧ dy l y = 365) := by
  unfold dy
  by_cases h : lp l y = true
  · exact Or.inl ⟨h, if_pos h⟩
  · exact Or.inr ⟨h, if_neg h⟩
theorem sy_la (l : Nat) (hl : l ≤ 2) : ∀ y, 1 ≤ y → sy l y = (y - 1) * 365 + la l y
  | 0, h => absurd h (by omega)
  | 1, _ => by
    unfold la
    rcases (show l = 0 ∨ l = 1 ∨ l = 2 by omega) with rfl | rfl | rfl <;> rfl
  | y + 2, _ => by
    have ih := sy_la l hl (y + 1) (by omega)
    rw [sy, ih]
    rcases (show l = 0 ∨ l = 1 ∨ l = 2 by omega) with rfl | rfl | rfl
    · have e1 : la 0 (y + 1) = 0 := rfl
      have e2 : la 0 (y + 2) = 0 := rfl
      rcases dy_cases 0 (y + 1) with ⟨h1, h2⟩ | ⟨h1, h2⟩
      · have := lp_iff.mp h1
        omega
      · omega
    · have e1 : la 1 (y + 1) = (y + 1 - 1) / 4 := rfl
      have e2 : la 1 (y + 2) = (y + 2 - 1) / 4 := rfl
      rcases dy_cases 1 (y + 1) with ⟨h1, h2⟩ | ⟨h1, h2⟩
      · have := lp_iff.mp h1
        omega
      · have h3 : ¬ (y + 1) % 4 = 0 := fun h => h1 (lp_iff.mpr (Or.inl ⟨rfl, h⟩))
        omega
    · have e1 : la 2 (y + 1) = (y + 1 - 1) / 4 - (y + 1 - 1) / 100 + (y + 1 - 1) / 400 := rfl
      have e2 : la 2 (y + 2) = (y + 2 - 1) / 4 - (y + 2 - 1) / 100 + (y + 2 - 1) / 400 := rfl
      rcases dy_cases 2 (y + 1) with ⟨h1, h2⟩ | ⟨h1, h2⟩
      · have := lp_iff.mp h1
        omega
      · have h3 : ¬ ((y + 1) % 4 = 0 ∧ ((y + 1) % 100 ≠ 0 ∨ (y + 1) % 400 = 0)) := fun h => h1 (lp_iff.mpr (Or.inr ⟨rfl, h⟩))
        omega
def st (B : Nat → Nat) (y : Nat) : Nat := (B 2 + sy (B 0) y) % 7
def dd (l y d : Nat) : Nat := if lp l y = true ∧ 60 ≤ d then d + 1 else d
def mo (B : Nat → Nat) (y : Nat) : Nat := dd (B 0) y (80 + (19 * (y % 19) + B 1) % 30)
def wk (s d : Nat) : Nat := (s + d - 1) % 7
def sf (s d : Nat) : Nat := d + (7 - wk s d) % 7
def sg (B : Nat → Nat) (y : Nat) : Nat := sf (st B y) (mo B y + 1)
theorem sy_le (l y : Nat) : sy l y ≤ 366 * y := by
  induction y using sy.induct with
  | case1 => simp [sy]
  | case2 => simp [sy]
  | case3 y ih =>
    rw [sy]
    have : dy l (y + 1) ≤ 366 := by unfold dy; split <;> omega
    omega
/-! the class's calendar -/
theorem F_daysOf {l y : Nat} (hl : l ≤ 2) (hy : y < 1000) : fX2_daysOf (nI l) (nI y) = some (nI (dy l y)) := by
  have z1 : fX2_daysOf_42 true = some (nI 366) := rfl
  have z2 : fX2_daysOf_42 false = some (nI 365) := rfl
  unfold fX2_daysOf fX2_daysOf_11
  rw [z1, z2, show (4 : Int32) = nI 4 from rfl, show (100 : Int32) = nI 100 from rfl, show (400 : Int32) = nI 400 from rfl, sp_rem (by omega) (by omega) (by omega), sp_rem (by omega) (by omega) (by omega), sp_rem (by omega) (by omega) (by omega)]
  rw [show (0 : Int32) = nI 0 from rfl]
  simp only [nI_eq (show y % 4 < 2 ^ 31 by omega) (show 0 < 2 ^ 31 by omega), nI_eq (show y % 100 < 2 ^ 31 by omega) (show 0 < 2 ^ 31 by omega), nI_eq (show y % 400 < 2 ^ 31 by omega) (show 0 < 2 ^ 31 by omega)]
  rcases dy_cases l y with ⟨h1, h2⟩ | ⟨h1, h2⟩
  · have h3 := lp_iff.mp h1
    rw [h2]
    rcases (show l = 0 ∨ l = 1 ∨ l = 2 by omega) with rfl | rfl | rfl
    · omega
    · rw [if_pos (show nI 1 = 1 from rfl), if_pos (by omega)]
    · rw [if_neg (show ¬ nI 2 = 1 by decide), if_pos (show nI 2 = 2 from rfl), if_pos (by omega)]
      by_cases h4 : y % 100 = 0
      · rw [if_pos h4, if_pos (by omega)]
      · rw [if_neg h4]
  · have h3 := fun h => h1 (lp_iff.mpr h)
    rw [h2]
    rcases (show l = 0 ∨ l = 1 ∨ l = 2 by omega) with rfl | rfl | rfl
    · rw [if_neg (show ¬ nI 0 = 1 by decide), if_neg (show ¬ nI 0 = 2 by decide)]
    · have h5 : ¬ y % 4 = 0 := fun h => h3 (Or.inl ⟨rfl, h⟩)
      rw [if_pos (show nI 1 = 1 from rfl), if_neg h5, if_neg (show ¬ nI 1 = 2 by decide)]
    · have h5 : ¬ (y % 4 = 0 ∧ (y % 100 ≠ 0 ∨ y % 400 = 0)) := fun h => h3 (Or.inr ⟨rfl, h⟩)
      rw [if_neg (show ¬ nI 2 = 1 by decide), if_pos (show nI 2 = 2 from rfl)]
      by_cases h4 : y % 4 = 0
      · rw [if_pos h4, if_pos (by omega), if_neg (by omega)]
      · rw [if_neg h4]
theorem F_leaps {l y : Nat} (hl : l ≤ 2) (h1 : 1 ≤ y) (hy : y < 1000) : fX2_leapYearsAhead (nI l) (nI y) = some (nI (la l y)) := by
  unfold fX2_leapYearsAhead la
  rw [show nI y - 1 = nI (y - 1) from pk_sub (b := 1) h1, show (4 : Int32) = nI 4 from rfl, show (100 : Int32) = nI 100 from rfl, show (400 : Int32) = nI 400 from rfl, pk_div (by omega) (by omega) (by omega), pk_div (by omega) (by omega) (by omega), pk_div (by omega) (by omega) (by omega), pk_sub (by omega), nI_add]
  rcases (show l = 0 ∨ l = 1 ∨ l = 2 by omega) with rfl | rfl | rfl
  · rfl
  · rw [if_neg (show ¬ nI 1 = 0 by decide), if_pos (show nI 1 = 1 from rfl)]
    rfl
  · rw [if_neg (show ¬ nI 2 = 0 by decide), if_neg (show ¬ nI 2 = 1 by decide)]
    rfl
theorem F_isLeap {n : fr_N} {l y : Nat} (h : n 12 0 = nI (dy l y)) : fX2_isLeap n = some (lp l y) := by
  unfold fX2_isLeap
  rw [h]
  rcases dy_cases l y with ⟨h1, h2⟩ | ⟨h1, h2⟩
  · rw [h2, h1]; rfl
  · rw [h2, Bool.eq_false_iff.mpr h1]; rfl
theorem F_dayOfDate {n : fr_N} {l y : Nat} (h : n 12 0 = nI (dy l y)) {d : Nat} (hd : d < 1000) : fX2_dayOfDate (nI d) n = some (nI (dd l y d)) := by
  unfold fX2_dayOfDate dd
  rw [F_isLeap h, sp_bd]
  by_cases h1 : lp l y = true
  · rw [if_pos h1]
    by_cases h2 : 60 ≤ d
    · rw [if_neg (by rw [fa_lt, nI_toInt (by omega)]; show ¬ _ < (60 : Int); omega), if_pos ⟨h1, h2⟩, nI_1]
    · rw [if_pos (by rw [fa_lt, nI_toInt (by omega)]; show _ < (60 : Int); omega), if_neg (fun z => h2 z.2)]
  · rw [if_neg h1, if_neg (fun z => h1 z.1)]
theorem F_weekday {n : fr_N} {s d : Nat} (h : n 12 1 = nI s) (hs : s < 7) (hd : 1 ≤ d ∧ d < 1000) : fX2_weekday (nI d) n = some (nI (wk s d)) := by
  unfold fX2_weekday wk
  rw [h, nI_add, show nI (s + d) - 1 = nI (s + d - 1) from pk_sub (b := 1) (by omega), show (7 : Int32) = nI 7 from rfl, sp_rem (by omega) (by omega) (by omega)]
theorem F_sundayFrom {n : fr_N} {s d : Nat} (h : n 12 1 = nI s) (hs : s < 7) (hd : 1 ≤ d ∧ d < 1000) : fX2_sundayFrom (nI d) n = some (nI (sf s d)) := by
  unfold fX2_sundayFrom sf
  have hw : wk s d < 7 := Nat.mod_lt _ (by omega)
  rw [F_weekday h hs hd, sp_bd, show (7 : Int32) = nI 7 from rfl, pk_sub (by omega), sp_rem (by omega) (by omega) (by omega), nI_add]
theorem mo_bd (B : Nat → Nat) (y : Nat) : 80 ≤ mo B y ∧ mo B y ≤ 110 := by
  unfold mo dd
  have : (19 * (y % 19) + B 1) % 30 < 30 := Nat.mod_lt _ (by omega)
  split <;> omega
theorem sf_bd (s d : Nat) : d ≤ sf s d ∧ sf s d ≤ d + 6 := by
  unfold sf
  have : (7 - wk s d) % 7 < 7 := Nat.mod_lt _ (by omega)
  omega
theorem st_lt (B : Nat → Nat) (y : Nat) : st B y < 7 := Nat.mod_lt _ (by omega)
/-- the class's calendar stands at a year -/
def CF (n : fr_N) (B : Nat → Nat) (y : Nat) : Prop := n 12 0 = nI (dy (B 0) y) ∧ n 12 1 = nI (st B y) ∧ n 12 2 = nI (mo B y) ∧ n 12 3 = nI (sg B y)
theorem F_turnTo {n : fr_N} {B : Nat → Nat} {y : Nat} (hv : VB B) (hF : FB n 3 B) (hy : 1 ≤ y ∧ y < 1000) : ∃ n', fX2_turnTo (nI y) n = some n' ∧ CF n' B y ∧ ∀ c, c ≠ 12 → n' c = n c := by
  have l0 : n 4 0 = nI (B 0) := hF.2.2.2.1 0 (by omega)
  have l1 : n 4 1 = nI (B 1) := hF.2.2.2.1 1 (by omega)
  have l2 : n 4 2 = nI (B 2) := hF.2.2.2.1 2 (by omega)
  have v0 := hv.2.1
  have v1 := hv.2.2.1
  have v2 := hv.2.2.2.1
  have hsy := sy_la (B 0) v0 y hy.1
  have hb := sy_le (B 0) y
  unfold fX2_turnTo
  rw [l0, F_daysOf v0 hy.2, sp_bd, sp_lt, F_leaps v0 hy.1 hy.2, sp_bd, sp_up_cell n _ _ (show (4 : Nat) ≠ 12 by omega), l2]
  have e1 : nI (B 2) + (nI y - 1) * 365 + nI (la (B 0) y) = nI (B 2 + sy (B 0) y) := by
    rw [show nI y - 1 = nI (y - 1) from pk_sub (b := 1) hy.1, show (365 : Int32) = nI 365 from rfl, pk_mul, nI_add, nI_add]
    congr 1
    omega
  rw [e1, show (7 : Int32) = nI 7 from rfl, sp_rem (by omega) (by omega) (by omega), sp_lt]
  have e2 : (80 : Int32) + fr_rem ((19 : Int32) * fr_rem (nI y) 19 + (fr_up (fr_up n 12 0 (nI (dy (B 0) y))) 12 1 (nI ((B 2 + sy (B 0) y) % 7)) 4 1)) 30 = nI (80 + (19 * (y % 19) + B 1) % 30) := by
    rw [sp_up_cell _ _ _ (show (4 : Nat) ≠ 12 by omega), sp_up_cell _ _ _ (show (4 : Nat) ≠ 12 by omega), l1, show (19 : Int32) = nI 19 from rfl, show (80 : Int32) = nI 80 from rfl, show (30 : Int32) = nI 30 from rfl, sp_rem (by omega) (by omega) (by omega), pk_mul, nI_add, sp_rem (by omega) (by omega) (by omega), nI_add]
  have hmod : (19 * (y % 19) + B 1) % 30 < 30 := Nat.mod_lt _ (by omega)
  rw [e2, F_dayOfDate (l := B 0) (y := y) (by rw [sp_up_slot _ _ _ (by omega), sp_up_same]) (by omega), sp_bd, sp_lt, sp_up_same, nI_1]
  have hm := mo_bd B y
  rw [show dd (B 0) y (80 + (19 * (y % 19) + B 1) % 30) = mo B y from rfl, F_sundayFrom (s := st B y) (by rw [sp_up_slot _ _ _ (by omega), sp_up_same]; rfl) (st_lt B y) (by omega), sp_bd, sp_lt]
  refine ⟨_, rfl, ⟨?_, ?_, ?_, ?_⟩, fun c hc => ?_⟩
  · rw [sp_up_slot _ _ _ (by omega), sp_up_slot _ _ _ (by omega), sp_up_slot _ _ _ (by omega), sp_up_same]
  · rw [sp_up_slot _ _ _ (by omega), sp_up_slot _ _ _ (by omega), sp_up_same]; rfl
  · rw [sp_up_slot _ _ _ (by omega), sp_up_same]
  · rw [sp_up_same]; rfl
  · rw [sp_up_cell _ _ _ hc, sp_up_cell _ _ _ hc, sp_up_cell _ _ _ hc, sp_up_cell _ _ _ hc]
/-! the reference's calendar -/
theorem M_isLeap {m : fr_N} {l y : Nat} (h : m 1 0 = nI l) (hl : l ≤ 2) (hy : y < 1000) : fX8_isLeap (nI y) m = some (lp l y) := by
  unfold fX8_isLeap fX8_isLeap_16 fX8_isLeap_39 lp
  rw [h, show (4 : Int32) = nI 4 from rfl, show (100 : Int32) = nI 100 from rfl, show (400 : Int32) = nI 400 from rfl, sp_rem (by omega) (by omega) (by omega), sp_rem (by omega) (by omega) (by omega), sp_rem (by omega) (by omega) (by omega), show (0 : Int32) = nI 0 from rfl]
  simp only [nI_eq (show y % 4 < 2 ^ 31 by omega) (show 0 < 2 ^ 31 by omega), nI_eq (show y % 100 < 2 ^ 31 by omega) (show 0 < 2 ^ 31 by omega), nI_eq (show y % 400 < 2 ^ 31 by omega) (show 0 < 2 ^ 31 by omega)]
  rcases (show l = 0 ∨ l = 1 ∨ l = 2 by omega) with rfl | rfl | rfl
  · rw [if_neg (show ¬ nI 0 = 1 by decide), if_neg (show ¬ nI 0 = 2 by decide), decide_eq_false (by omega)]
  · rw [if_pos (show nI 1 = 1 from rfl), if_neg (show ¬ nI 1 = 2 by decide)]
    by_cases h4 : y % 4 = 0
    · rw [if_pos h4, decide_eq_true (by omega)]
    · rw [if_neg h4, decide_eq_false (by omega)]
  · rw [if_neg (show ¬ nI 2 = 1 by decide), if_pos (show nI 2 = 2 from rfl)]
    by_cases h4 : y % 4 = 0
    · rw [if_pos h4]
      by_cases h1 : y % 100 = 0
      · rw [if_pos h1]
        by_cases h40 : y % 400 = 0
        · rw [if_pos h40, decide_eq_true (by omega)]
        · rw [if_neg h40, decide_eq_false (by omega)]
      · rw [if_neg h1, decide_eq_true (by omega)]
    · rw [if_neg h4, if_neg (by omega), decide_eq_false (by omega)]
theorem M_dayOfDate {m : fr_N} {l y : Nat} (h : m 1 0 = nI l) (hl : l ≤ 2) (hy : y < 1000) {d : Nat} (hd : d < 1000) : fX8_dayOfDate (nI y) (nI d) m = some (nI (dd l y d)) := by
  unfold fX8_dayOfDate dd
  have e0 : nI d + 0 = nI d := by rw [show (0 : Int32) = nI 0 from rfl, nI_add]; rfl
  rw [M_isLeap h hl hy, sp_bd, e0]
  by_cases h1 : lp l y = true
  · rw [if_pos h1]
    by_cases h2 : 60 ≤ d
    · rw [if_neg (by rw [fa_lt, nI_toInt (by omega)]; show ¬ _ < (60 : Int); omega), if_pos ⟨h1, h2⟩, nI_1]
    · rw [if_pos (by rw [fa_lt, nI_toInt (by omega)]; show _ < (60 : Int); omega), if_neg (fun z => h2 z.2)]
  · rw [if_neg h1, if_neg (fun z => h1 z.1)]
theorem M_opens30 {m : fr_N} {l f0 y : Nat} (h : m 1 0 = nI l) (hl : l ≤ 2) (hy : 1 ≤ y ∧ y < 1000) (hf : f0 ≤ 6) : ∀ (k j : Nat), 1 ≤ j → j ≤ y → y - j < k → fX8_opens_30 k (nI y) (nI (f0 + sy l j)) (nI j) m = some (fr_up m 0 21 (nI ((f0 + sy l y) % 7)))
  | 0, _, _, _, hk => absurd hk (by omega)
  | k + 1, j, hj, hjy, hk => by
    rw [fX8_opens_30]
    have hb := sy_le l j
    by_cases hjy2 : j = y
    · subst hjy2
      rw [if_pos (by rw [fa_le]; exact Int.le_refl _), sp_lt, show (7 : Int32) = nI 7 from rfl, sp_rem (by omega) (by omega) (by omega)]
    · rw [if_neg (by rw [fa_le, nI_toInt (by omega), nI_toInt (by omega)]; omega), M_isLeap h hl (by omega), sp_bd]
      obtain ⟨i, rfl⟩ : ∃ i, j = i + 1 := ⟨j - 1, by omega⟩
      have ih := M_opens30 h hl hy hf k (i + 2) (by omega) (by omega) (by omega)
      rw [sy, ← Nat.add_assoc] at ih
      rcases dy_cases l (i + 1) with ⟨h1, h2⟩ | ⟨h1, h2⟩
      · rw [if_pos h1, show (366 : Int32) = nI 366 from rfl, nI_add, nI_1, ← h2]
        exact ih
      · rw [if_neg h1, show (365 : Int32) = nI 365 from rfl, nI_add, nI_1, ← h2]
        exact ih
/-- the reference's calendar stands at a year -/
def CM (m : fr_N) (B : Nat → Nat) (y : Nat) : Prop := m 0 20 = nI (dy (B 0) y) ∧ m 0 21 = nI (st B y)
theorem M_opens {m : fr_N} {B : Nat → Nat} {y : Nat} (hv : VB B) (hM : MB (m 1) 0 B) (hy : 1 ≤ y ∧ y < 1000) : ∃ m', fX8_opens (nI y) m = some m' ∧ CM m' B y ∧ (∀ c, c ≠ 0 → m' c = m c) ∧ ∀ j, j ≠ 20 → j ≠ 21 → m' 0 j = m 0 j := by
  have l0 : m 1 0 = nI (B 0) := hM 0 (by omega)
  have l2 : m 1 2 = nI (B 2) := hM 2 (by omega)
  have v0 := hv.2.1
  have v2 := hv.2.2.2.1
  have key : ∀ s0 : Int32, s0 = nI (dy (B 0) y) → ∃ m', fX8_opens_18 (nI y) s0 m = some m' ∧ CM m' B y ∧ (∀ c, c ≠ 0 → m' c = m c) ∧ ∀ j, j ≠ 20 → j ≠ 21 → m' 0 j = m 0 j := by
    intro s0 hs
    unfold fX8_opens_18
    rw [sp_lt, sp_up_cell m _ _ (show (1 : Nat) ≠ 0 by omega), l2]
    have := M_opens30 (m := fr_up m 0 20 s0) (l := B 0) (f0 := B 2) (y := y) (by rw [sp_up_cell _ _ _ (by omega)]; exact l0) v0 hy v2 2000 1 (by omega) hy.1 (by omega)
    rw [show nI (B 2) = nI (B 2 + sy (B 0) 1) from rfl, show (1 : Int32) = nI 1 from rfl, this]
    refine ⟨_, rfl, ⟨?_, ?_⟩, fun c hc => ?_, fun j h1 h2 => ?_⟩
    · rw [sp_up_slot _ _ _ (by omega), sp_up_same, hs]
    · rw [sp_up_same]; rfl
    · rw [sp_up_cell _ _ _ hc, sp_up_cell _ _ _ hc]
    · rw [sp_up_slot _ _ _ h2, sp_up_slot _ _ _ h1]
  unfold fX8_opens
  rw [M_isLeap l0 v0 hy.2, sp_bd]
  rcases dy_cases (B 0) y with ⟨h1, h2⟩ | ⟨h1, h2⟩
  · rw [if_pos h1]
    exact key 366 (by rw [h2]; rfl)
  · rw [if_neg h1]
    exact key 365 (by rw [h2]; rfl)
theorem M_weekday {m : fr_N} {s d : Nat} (h : m 0 21 = nI s) (hs : s < 7) (hd : 1 ≤ d ∧ d < 1000) : fX8_weekdayOf (nI d) m = some (nI (wk s d)) := by
  unfold fX8_weekdayOf wk
  rw [h, nI_add, show nI (s + d) - 1 = nI (s + d - 1) from pk_sub (b := 1) (by omega), show (7 : Int32) = nI 7 from rfl, sp_rem (by omega) (by omega) (by omega)]
theorem M_sunday {m : fr_N} {s d : Nat} (h : m 0 21 = nI s) (hs : s < 7) (hd : 1 ≤ d ∧ d < 1000) : fX8_sunday (nI d) m = some (nI (sf s d)) := by
  unfold fX8_sunday sf
  have hw : wk s d < 7 := Nat.mod_lt _ (by omega)
  rw [M_weekday h hs hd, sp_bd, show (7 : Int32) = nI 7 from rfl, pk_sub (by omega), sp_rem (by omega) (by omega) (by omega), nI_add]
theorem M_moon {m : fr_N} {B : Nat → Nat} {y : Nat} (hv : VB B) (hM : MB (m 1) 0 B) (hy : 1 ≤ y ∧ y < 1000) : fX8_moon (nI y) m = some (nI (mo B y)) := by
  have l0 : m 1 0 = nI (B 0) := hM 0 (by omega)
  have l1 : m 1 1 = nI (B 1) := hM 1 (by omega)
  have v1 := hv.2.2.1
  have hmod : (19 * (y % 19) + B 1) % 30 < 30 := Nat.mod_lt _ (by omega)
  unfold fX8_moon mo
  rw [l1, show (19 : Int32) = nI 19 from rfl, show (80 : Int32) = nI 80 from rfl, show (30 : Int32) = nI 30 from rfl, sp_rem (by omega) (by omega) (by omega), pk_mul, nI_add, sp_rem (by omega) (by omega) (by omega), nI_add, M_dayOfDate l0 hv.2.1 hy.2 (by omega), sp_bd]
theorem M_spring {m : fr_N} {B : Nat → Nat} {y : Nat} (hv : VB B) (hM : MB (m 1) 0 B) (hC : CM m B y) (hy : 1 ≤ y ∧ y < 1000) : fX8_spring (nI y) m = some (nI (sg B y)) := by
  have hm := mo_bd B y
  unfold fX8_spring sg
  rw [M_moon hv hM hy, sp_bd, nI_1, M_sunday hC.2 (st_lt B y) (by omega), sp_bd]
