/-! THE PURE PART: numbers -/
theorem sp_bd {α β : Type} {x : α} {k : α → Option β} : fr_bd (some x) k = k x := rfl
theorem sp_bd2 {α β : Type} {x : α} {n : fr_N} {k : α → fr_N → Option β} : fr_bd2 (some (x, n)) k = k x n := rfl
theorem sp_lt {α β : Type} {x : α} {k : α → β} : fr_lt x k = k x := rfl
theorem sp_within (x a b : Int32) : fX7_within x a b = some (decide (a.toInt ≤ x.toInt ∧ x.toInt ≤ b.toInt)) := by
  unfold fX7_within
  by_cases h1 : x < a
  · rw [if_pos h1]
    rw [fa_lt] at h1
    rw [decide_eq_false (by omega)]
  · rw [if_neg h1]
    rw [fa_lt] at h1
    by_cases h2 : b < x
    · rw [if_pos h2]
      rw [fa_lt] at h2
      rw [decide_eq_false (by omega)]
    · rw [if_neg h2]
      rw [fa_lt] at h2
      rw [decide_eq_true (by omega)]
theorem sp_cmp_lt (x y : Int64) : lg_cmp x y < 0 ↔ x.toInt < y.toInt := by
  unfold lg_cmp
  by_cases h1 : x > y
  · rw [if_pos h1]
    have h2 := (fa_lt64 y x).mp h1
    exact ⟨fun h' => absurd h' (by decide), fun h' => absurd h' (by omega)⟩
  · rw [if_neg h1]
    have h2 : ¬ y.toInt < x.toInt := fun h => h1 ((fa_lt64 y x).mpr h)
    by_cases h3 : x = y
    · rw [if_pos h3]
      subst h3
      exact ⟨fun h' => absurd h' (by decide), fun h' => absurd h' (by omega)⟩
    · rw [if_neg h3]
      have h4 : ¬ x.toInt = y.toInt := fun h => h3 ((fa_eq64 x y).mpr h)
      exact ⟨fun _ => by omega, fun _ => by decide⟩
theorem sp_cmp_gt (x y : Int64) : 0 < lg_cmp x y ↔ y.toInt < x.toInt := by
  unfold lg_cmp
  by_cases h1 : x > y
  · rw [if_pos h1]
    exact ⟨fun _ => (fa_lt64 y x).mp h1, fun _ => by decide⟩
  · rw [if_neg h1]
    have h2 : ¬ y.toInt < x.toInt := fun h => h1 ((fa_lt64 y x).mpr h)
    by_cases h3 : x = y
    · rw [if_pos h3]
      exact ⟨fun h' => absurd h' (by decide), fun h' => absurd h' h2⟩
    · rw [if_neg h3]
      exact ⟨fun h' => absurd h' (by decide), fun h' => absurd h' h2⟩
theorem sp_in (x a b : Int64) : fX8_in x a b = some (decide (a.toInt ≤ x.toInt ∧ x.toInt ≤ b.toInt)) := by
  unfold fX8_in
  by_cases h1 : lg_cmp x a < 0
  · rw [if_pos h1]
    rw [sp_cmp_lt] at h1
    rw [decide_eq_false (by omega)]
  · rw [if_neg h1]
    rw [sp_cmp_lt] at h1
    by_cases h2 : 0 < lg_cmp x b
    · rw [if_pos h2]
      rw [sp_cmp_gt] at h2
      rw [decide_eq_false (by omega)]
    · rw [if_neg h2]
      rw [sp_cmp_gt] at h2
      rw [decide_eq_true (by omega)]
theorem sp_wide (x : Int32) : (Int32.toInt64 x).toInt = x.toInt := Int32.toInt_toInt64 x
theorem sp_nI {n : Nat} (h : n < 2 ^ 31) : (nI n).toInt = (n : Int) := nI_toInt h
theorem sp_lit (n : Nat) : (OfNat.ofNat n : Int32) = nI n := fa_lit n
theorem sp_ck {α : Type} {n N : Nat} {k : Option α} (h : n < N) (hN : N < 2 ^ 31) : fr_ck (nI n) N k = k := fr_ck_pos (vp_in_nI h hN)
theorem sp_rem {a d : Nat} (ha : a < 2 ^ 31) (h0 : 0 < d) (hd : d < 2 ^ 31) : fr_rem (nI a) (nI d) = nI (a % d) := pk_rem ha h0 hd
theorem sp_of {x : Int32} {n : Nat} (h0 : 0 ≤ x.toInt) (h : x.toInt ≤ (n : Int)) : ∃ j : Nat, j ≤ n ∧ x = nI j := by
  obtain ⟨j, hj, rfl⟩ := nI_of (x := x) (by rw [fa_lt]; show ¬ x.toInt < 0; omega)
  rw [nI_toInt hj] at h
  exact ⟨j, by omega, rfl⟩
/-- a slot told anew, read -/
theorem sp_row_same (n : fr_N) (c : Nat) (f : Nat → Int32) : fr_row n c f c = f := if_pos rfl
theorem sp_row_ne (n : fr_N) {c d : Nat} (f : Nat → Int32) (h : d ≠ c) : fr_row n c f d = n d := if_neg h
theorem sp_up_same (n : fr_N) (c j : Nat) (x : Int32) : fr_up n c j x c j = x := by unfold fr_up; rw [sp_row_same]; exact if_pos rfl
theorem sp_up_slot (n : fr_N) (c : Nat) {i j : Nat} (x : Int32) (h : i ≠ j) : fr_up n c j x c i = n c i := by unfold fr_up; rw [sp_row_same]; exact if_neg h
theorem sp_up_cell (n : fr_N) {c d : Nat} (j : Nat) (x : Int32) (h : d ≠ c) : fr_up n c j x d = n d := sp_row_ne n _ h
theorem sp_up_at (n : fr_N) (c j : Nat) (x : Int32) (d i : Nat) : fr_up n c j x d i = if d = c ∧ i = j then x else n d i := by
  by_cases hd : d = c
  · subst hd
    by_cases hi : i = j
    · subst hi; rw [sp_up_same, if_pos ⟨rfl, rfl⟩]
    · rw [sp_up_slot n d x hi, if_neg (fun h => hi h.2)]
  · rw [sp_up_cell n j x hd, if_neg (fun h => hd h.1)]
theorem sp_cp_same (n : fr_N) (c0 c1 k : Nat) {j : Nat} (h : j < k) : fr_cp n c0 c1 0 0 k c1 j = n c0 j := by
  unfold fr_cp
  rw [sp_row_same, pk_cpy_in (Nat.zero_le _) (by omega)]
  congr 1
  omega
theorem sp_cp_cell (n : fr_N) (c0 : Nat) {c1 d : Nat} (s t k : Nat) (h : d ≠ c1) : fr_cp n c0 c1 s t k d = n d := sp_row_ne n _ h
