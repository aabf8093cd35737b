/-! ACTS: what the class keeps of one, what the reference notes -/
theorem sp_keep13 {n : fr_N} {k : Nat} (hk : k < 16) (h : n 43 4 = nI k) (s x w v : Int32) : ∃ n', fX0_keep_13 s x w v n = some n' ∧ (∀ c, (c < 43 ∨ 47 < c) → n' c = n c) ∧ n' 43 4 = nI (k + 1) ∧ (n' 44 k = s ∧ n' 45 k = x ∧ n' 46 k = w ∧ n' 47 k = v) ∧ ∀ j, j < k → n' 44 j = n 44 j ∧ n' 45 j = n 45 j ∧ n' 46 j = n 46 j ∧ n' 47 j = n 47 j := by
  have hc : ∀ {α : Type} (o : Option α), fr_ck (nI k) 16 o = o := fun o => sp_ck hk (by omega)
  unfold fX0_keep_13
  simp only [sp_lt, sp_up_at, h, hc, nI_clamp (show k < 2 ^ 31 by omega), Nat.reduceEqDiff, false_and, if_false, nI_1]
  refine ⟨_, rfl, fun c hc => ?_, ?_, ⟨?_, ?_, ?_, ?_⟩, fun j hj => ⟨?_, ?_, ?_, ?_⟩⟩
  · rw [sp_up_cell _ _ _ (by omega), sp_up_cell _ _ _ (by omega), sp_up_cell _ _ _ (by omega), sp_up_cell _ _ _ (by omega), sp_up_cell _ _ _ (by omega)]
  · rw [sp_up_same]
  all_goals simp [sp_up_at]
  all_goals omega
theorem sp_forget (n : fr_N) : ∃ n', fX0_forgetOldest n = some n' ∧ (∀ c, (c < 43 ∨ 47 < c) → n' c = n c) ∧ n' 43 4 = nI 15 ∧ ∀ j, j < 15 → n' 44 j = n 44 (j + 1) ∧ n' 45 j = n 45 (j + 1) ∧ n' 46 j = n 46 (j + 1) ∧ n' 47 j = n 47 (j + 1) := by
  have hcp : ∀ (n : fr_N) (c d j : Nat), fr_cp n c c 1 0 15 d j = if d = c ∧ j < 15 then n c (j + 1) else n d j := by
    intro n c d j
    unfold fr_cp
    by_cases hd : d = c
    · subst hd
      rw [sp_row_same]
      by_cases hj : j < 15
      · rw [pk_cpy_in (Nat.zero_le _) (by omega), if_pos ⟨rfl, hj⟩]
        congr 1
        omega
      · rw [pk_cpy_out (by omega), if_neg (fun h => hj h.2)]
    · rw [sp_row_ne _ _ hd, if_neg (fun h => hd h.1)]
  unfold fX0_forgetOldest
  simp only [sp_lt]
  refine ⟨_, rfl, fun c hc => ?_, ?_, fun j hj => ⟨?_, ?_, ?_, ?_⟩⟩
  · rw [sp_up_cell _ _ _ (by omega), sp_cp_cell _ _ _ _ _ (by omega), sp_cp_cell _ _ _ _ _ (by omega), sp_cp_cell _ _ _ _ _ (by omega), sp_cp_cell _ _ _ _ _ (by omega)]
  · rw [sp_up_same]; rfl
  all_goals simp [sp_up_at, hcp, hj]
/-- the class's rows of acts behind a new one -/
def KP (f f' : fr_N) (k : Nat) (s x w v : Int32) : Prop := (∀ c, (c < 43 ∨ 47 < c) → f' c = f c) ∧
  (k < 16 → f' 43 4 = nI (k + 1) ∧ (f' 44 k = s ∧ f' 45 k = x ∧ f' 46 k = w ∧ f' 47 k = v) ∧ ∀ j, j < k → f' 44 j = f 44 j ∧ f' 45 j = f 45 j ∧ f' 46 j = f 46 j ∧ f' 47 j = f 47 j) ∧
  (k = 16 → f' 43 4 = nI 16 ∧ (f' 44 15 = s ∧ f' 45 15 = x ∧ f' 46 15 = w ∧ f' 47 15 = v) ∧ ∀ j, j < 15 → f' 44 j = f 44 (j + 1) ∧ f' 45 j = f 45 (j + 1) ∧ f' 46 j = f 46 (j + 1) ∧ f' 47 j = f 47 (j + 1))
theorem sp_keep {n : fr_N} {k : Nat} (hk : k ≤ 16) (h : n 43 4 = nI k) (s x w v : Int32) : ∃ n', fX0_keep s x w v n = some n' ∧ KP n n' k s x w v := by
  unfold fX0_keep
  rw [h]
  by_cases hk2 : k < 16
  · rw [if_pos (by rw [fa_lt, nI_toInt (by omega)]; show _ < (16 : Int); omega)]
    obtain ⟨n', h1, h2, h3, h4, h5⟩ := sp_keep13 hk2 h s x w v
    exact ⟨n', h1, h2, fun _ => ⟨h3, h4, h5⟩, fun h => absurd h (by omega)⟩
  · rw [if_neg (by rw [fa_lt, nI_toInt (by omega)]; show ¬ _ < (16 : Int); omega)]
    obtain ⟨n1, g1, g2, g3, g4⟩ := sp_forget n
    rw [g1, sp_bd]
    obtain ⟨n', h1, h2, h3, h4, h5⟩ := sp_keep13 (show 15 < 16 by omega) g3 s x w v
    refine ⟨n', h1, fun c hc => (h2 c hc).trans (g2 c hc), fun h => absurd h hk2, fun _ => ⟨h3, h4, fun j hj => ?_⟩⟩
    obtain ⟨a1, a2, a3, a4⟩ := h5 j hj
    obtain ⟨b1, b2, b3, b4⟩ := g4 j hj
    exact ⟨a1.trans b1, a2.trans b2, a3.trans b3, a4.trans b4⟩
/-- the reference's rows behind a new one -/
def NP (m m' : fr_N) (k : Nat) : Prop := (∀ c, c ≠ 0 → c ≠ 3 → m' c = m c) ∧ (∀ j, j ≠ 3 → m' 0 j = m 0 j) ∧
  (k < 16 → m' 0 3 = nI (k + 1) ∧ (∀ i, i < 79 * k → m' 3 i = m 3 i) ∧ ∀ i, i < 79 → m' 3 (79 * k + i) = m 1 i) ∧
  (k = 16 → m' 0 3 = nI 16 ∧ (∀ i, i < 79 * 15 → m' 3 i = m 3 (i + 79)) ∧ ∀ i, i < 79 → m' 3 (79 * 15 + i) = m 1 i)
theorem sp_notes49 {m : fr_N} {k : Nat} (hk : k < 16) (h : m 0 3 = nI k) : ∃ m', fX8_notes_49 m = some m' ∧ (∀ c, c ≠ 0 → c ≠ 3 → m' c = m c) ∧ (∀ j, j ≠ 3 → m' 0 j = m 0 j) ∧ m' 0 3 = nI (k + 1) ∧ (∀ i, i < 79 * k → m' 3 i = m 3 i) ∧ ∀ i, i < 79 → m' 3 (79 * k + i) = m 1 i := by
  unfold fX8_notes_49 fX8_copies_53_55
  rw [h, gC_3, show (79 : Int32) = nI 79 from rfl, pk_mul, show (0 : Int32) = nI 0 from rfl]
  obtain ⟨n', h1, h2, h3, h4⟩ := gC_spec 1 3 79 1264 0 (79 * k) (by omega) (by omega) (by omega) ⟨by omega, by omega⟩ 2000 0 m (by omega) (by omega)
  rw [h1, sp_bd, sp_lt, h2 0 (by omega), h, nI_1]
  refine ⟨_, rfl, fun c hc1 hc2 => by rw [sp_up_cell _ _ _ hc1, h2 c hc2], fun j hj => by rw [sp_up_slot _ _ _ hj, h2 0 (by omega)], sp_up_same _ _ _ _, fun i hi => by rw [sp_up_cell _ _ _ (by omega), h4 i (by omega)], fun i hi => ?_⟩
  rw [sp_up_cell _ _ _ (by omega), h3 _ (by omega) (by omega)]
  congr 1
  omega
theorem sp_notes11 {m0 : fr_N} : ∀ (k j : Nat) (m : fr_N), j ≤ 1185 → 1185 - j < k → (∀ c, c ≠ 3 → m c = m0 c) → (∀ i, i < j → m 3 i = m0 3 (i + 79)) → (∀ i, j ≤ i → m 3 i = m0 3 i) →
    ∃ m1, fX8_notes_11 k (nI j) m = fX8_notes_49 (fr_up m1 0 3 (m1 0 3 - 1)) ∧ (∀ c, c ≠ 3 → m1 c = m0 c) ∧ (∀ i, i < 1185 → m1 3 i = m0 3 (i + 79))
  | 0, _, _, _, hk, _, _, _ => absurd hk (by omega)
  | k + 1, j, m, hj, hk, h1, h2, h3 => by
    rw [fX8_notes_11]
    by_cases h : j = 1185
    · subst h
      rw [if_pos (by rw [fa_le]; exact Int.le_refl _), sp_lt]
      exact ⟨m, rfl, h1, h2⟩
    · rw [if_neg (by rw [fa_le, nI_toInt (by omega)]; show ¬ (1185 : Int) ≤ _; omega), show (79 : Int32) = nI 79 from rfl, nI_add, sp_ck (by omega) (by omega), sp_ck (by omega) (by omega), sp_lt, nI_1, nI_clamp (by omega), nI_clamp (by omega)]
      refine sp_notes11 k (j + 1) _ (by omega) (by omega) (fun c hc => by rw [sp_up_cell _ _ _ hc, h1 c hc]) (fun i hi => ?_) (fun i hi => by rw [sp_up_slot _ _ _ (by omega), h3 i (by omega)])
      by_cases hij : i = j
      · subst hij
        rw [sp_up_same, h3 _ (by omega)]
      · rw [sp_up_slot _ _ _ hij, h2 i (by omega)]
theorem sp_notes {m : fr_N} {k : Nat} (hk : k ≤ 16) (h : m 0 3 = nI k) : ∃ m', fX8_notes m = some m' ∧ NP m m' k := by
  unfold fX8_notes
  rw [h]
  by_cases hk2 : k = 16
  · subst hk2
    rw [if_pos (show nI 16 = 16 from rfl)]
    obtain ⟨m1, g1, g2, g3⟩ := sp_notes11 (m0 := m) 2000 0 m (by omega) (by omega) (fun _ _ => rfl) (fun i hi => absurd hi (by omega)) (fun _ _ => rfl)
    rw [show (0 : Int32) = nI 0 from rfl, g1]
    have e : m1 0 3 - 1 = nI 15 := by rw [g2 0 (by omega), h]; rfl
    rw [e]
    obtain ⟨m', h1, h2, h3, h4, h5, h6⟩ := sp_notes49 (m := fr_up m1 0 3 (nI 15)) (k := 15) (by omega) (sp_up_same _ _ _ _)
    refine ⟨m', h1, fun c hc1 hc2 => by rw [h2 c hc1 hc2, sp_up_cell _ _ _ hc1, g2 c hc2], fun j hj => by rw [h3 j hj, sp_up_slot _ _ _ hj, g2 0 (by omega)], fun h => absurd h (by omega), fun _ => ⟨h4, fun i hi => ?_, fun i hi => ?_⟩⟩
    · rw [h5 i hi, sp_up_cell _ _ _ (by omega), g3 i (by omega)]
    · rw [h6 i hi, sp_up_cell _ _ _ (by omega), g2 1 (by omega)]
  · rw [if_neg (by rw [show (16 : Int32) = nI 16 from rfl, nI_eq (by omega) (by omega)]; exact hk2)]
    obtain ⟨m', h1, h2, h3, h4, h5, h6⟩ := sp_notes49 (m := m) (show k < 16 by omega) h
    exact ⟨m', h1, h2, h3, fun _ => ⟨h4, h5, h6⟩, fun h => absurd h hk2⟩
/-- a new act: the chain of books goes on -/
theorem R3.act {f m f1 m1 f' m' : fr_N} {B B' : Nat → Nat} {k : Nat} {H : Nat → Nat → Nat} {s x w v : Int32} (h : R3 f m B k H) (hB : VB B) (hM : MB (m 1) 0 B) (hf : KP f f1 k s x w v) (hm : NP m m1 k) (hu : UA s x w v B' B) (ef : ∀ c, 43 ≤ c → c ≤ 47 → f' c = f1 c) (em : m' 3 = m1 3) (em0 : m' 0 3 = m1 0 3) : ∃ k' H', R3 f' m' B' k' H' := by
  obtain ⟨hk, h1, h2, h3⟩ := h
  obtain ⟨-, hf1, hf2⟩ := hf
  obtain ⟨-, -, hm1, hm2⟩ := hm
  by_cases hk2 : k < 16
  · obtain ⟨a1, a2, a3⟩ := hf1 hk2
    obtain ⟨b1, b2, b3⟩ := hm1 hk2
    refine ⟨k + 1, fun j => if j = k then B else H j, by omega, by rw [ef 43 (by omega) (by omega)]; exact a1, by rw [em0]; exact b1, fun j hj => ?_⟩
    rw [ef 44 (by omega) (by omega), ef 45 (by omega) (by omega), ef 46 (by omega) (by omega), ef 47 (by omega) (by omega), em]
    dsimp only
    by_cases hjk : j = k
    · subst hjk
      rw [if_pos rfl, if_neg (by omega), a2.1, a2.2.1, a2.2.2.1, a2.2.2.2]
      refine ⟨hB, fun i hi => ?_, hu⟩
      rw [b3 i hi]
      have := hM i hi
      rwa [Nat.zero_add] at this
    · obtain ⟨c1, c2, c3, c4⟩ := a3 j (by omega)
      obtain ⟨d1, d2, d3⟩ := h3 j (by omega)
      rw [if_neg hjk, c1, c2, c3, c4, if_pos (by omega)]
      refine ⟨d1, fun i hi => by rw [b2 _ (by omega)]; exact d2 i hi, ?_⟩
      by_cases hj1 : j + 1 = k
      · rw [if_pos hj1]
        rw [if_neg (by omega)] at d3
        exact d3
      · rw [if_neg hj1]
        rw [if_pos (by omega)] at d3
        exact d3
  · have hk3 : k = 16 := by omega
    subst hk3
    obtain ⟨a1, a2, a3⟩ := hf2 rfl
    obtain ⟨b1, b2, b3⟩ := hm2 rfl
    refine ⟨16, fun j => if j = 15 then B else H (j + 1), by omega, by rw [ef 43 (by omega) (by omega)]; exact a1, by rw [em0]; exact b1, fun j hj => ?_⟩
    rw [ef 44 (by omega) (by omega), ef 45 (by omega) (by omega), ef 46 (by omega) (by omega), ef 47 (by omega) (by omega), em]
    dsimp only
    by_cases hjk : j = 15
    · subst hjk
      rw [if_pos rfl, if_neg (by omega), a2.1, a2.2.1, a2.2.2.1, a2.2.2.2]
      refine ⟨hB, fun i hi => ?_, hu⟩
      rw [b3 i hi]
      have := hM i hi
      rwa [Nat.zero_add] at this
    · obtain ⟨c1, c2, c3, c4⟩ := a3 j (by omega)
      obtain ⟨d1, d2, d3⟩ := h3 (j + 1) (by omega)
      rw [if_neg hjk, c1, c2, c3, c4, if_pos (by omega)]
      refine ⟨d1, fun i hi => ?_, ?_⟩
      · rw [b2 _ (by omega), show 79 * j + i + 79 = 79 * (j + 1) + i by omega]
        exact d2 i hi
      · by_cases hj1 : j + 1 = 15
        · rw [if_pos hj1]
          rw [if_neg (by omega)] at d3
          exact d3
        · rw [if_neg hj1]
          rw [if_pos (by omega)] at d3
          exact d3
