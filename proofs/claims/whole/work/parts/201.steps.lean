/-! one step of both readers -/
def RN (f m : fr_N) (t : Nat) (T : Nat → Nat) (p : Nat) : Prop := R2 f m t T ∧ f 34 2 = nI p ∧ TS m t T p
def FA (f m : fr_N) : Prop := ∃ e pl, 0 < e ∧ e ≤ 3 ∧ pl ≤ 160 ∧ f 34 4 = nI e ∧ m 0 12 = nI e ∧ f 34 5 = nI pl ∧ m 0 13 = nI pl
theorem FA.dead {f m : fr_N} (h : FA f m) : ¬ m 0 12 = 0 := by
  obtain ⟨e, pl, h1, h2, -, -, h4, -⟩ := h
  rw [h4]
  exact fun z => by have := (n_0 (by omega)).mp z; omega
theorem FA.kept {f m f' m' : fr_N} (h : FA f m) (e : f' 34 = f 34) (e2 : m' 0 = m 0) : FA f' m' := by
  unfold FA
  rw [e, e2]
  exact h
theorem F_fail {f : fr_N} {p : Nat} (h : f 34 2 = nI p) (e : Int32) : ∃ f', fX4_fails e f = some (false, f') ∧ f' 34 4 = e ∧ f' 34 5 = nI p ∧ XF f f' := by
  unfold fX4_fails
  rw [sp_lt, sp_lt, sp_up_slot _ _ _ (show (2 : Nat) ≠ 4 by omega), h]
  exact ⟨_, rfl, by rw [sp_up_slot _ _ _ (by omega), sp_up_same], sp_up_same _ _ _ _, XF.up.trans XF.up⟩
theorem M_bad {m : fr_N} {p : Nat} (h : m 0 12 = 0) (h9 : m 0 9 = nI p) (e : Int32) : ∃ m', fX8_bad e m = some m' ∧ m' 0 12 = e ∧ m' 0 13 = nI p ∧ XM m m' := by
  unfold fX8_bad
  rw [if_pos h, sp_lt, sp_lt, sp_up_slot _ _ _ (show (9 : Nat) ≠ 12 by omega), h9]
  exact ⟨_, rfl, by rw [sp_up_slot _ _ _ (by omega), sp_up_same], sp_up_same _ _ _ _, (XM.up (by omega)).trans (XM.up (by omega))⟩
theorem D_bad {m : fr_N} (h : ¬ m 0 12 = 0) (e : Int32) : fX8_bad e m = some m := by unfold fX8_bad; rw [if_neg h]
theorem D_goes {m : fr_N} (h : ¬ m 0 12 = 0) : fX8_goesOn m = some m := by unfold fX8_goesOn; rw [if_neg h]
theorem D_isLetter {m : fr_N} (h : ¬ m 0 12 = 0) (c : Int32) : fX8_isLetter c m = some false := by unfold fX8_isLetter; rw [if_neg h]
theorem D_letter {m : fr_N} (h : ¬ m 0 12 = 0) (c : Int32) : fX8_letter c m = some m := by
  unfold fX8_letter fX8_letter_13
  rw [D_isLetter h, sp_bd, if_neg Bool.false_ne_true, D_bad h, sp_bd, D_goes h, sp_bd]
theorem D_36 {m : fr_N} (h : ¬ m 0 12 = 0) (a c : Int32) : fX8_number_36 a c m = some (a, m) := by
  unfold fX8_number_36 fX8_number_51 fX8_number_85
  rw [if_neg h, D_goes h, sp_bd, if_neg h, D_goes h, sp_bd]
theorem D_number {m : fr_N} (h : ¬ m 0 12 = 0) (a b c : Int32) : fX8_number a b c m = some (a, m) := by
  unfold fX8_number
  rw [sp_in, sp_bd, D_bad h, sp_bd, D_bad h, sp_bd, D_36 h]
  split
  · split <;> rfl
  · rfl
theorem M_goes {f m : fr_N} {t : Nat} {T : Nat → Nat} {q : Nat} (h2 : R2 f m t T) (h12 : m 0 12 = 0) (h8 : m 0 8 = nI q) (hq : q ≤ t) : ∃ m', fX8_goesOn m = some m' ∧ TS m' t T q ∧ XM m m' := by
  obtain ⟨m', g1, g2⟩ := M_reads h2 hq h12 h8
  unfold fX8_goesOn
  rw [if_pos h12, g1, sp_bd]
  exact ⟨m', rfl, g2⟩
theorem F_sign {f m : fr_N} {t : Nat} {T : Nat → Nat} {p c : Nat} (h2 : R2 f m t T) (hp : f 34 2 = nI p) (hpt : p ≤ t) (hc : c < 256) : (p < t ∧ T p = c ∧ fX4_sign (nI c) f = some (true, fr_up f 34 2 (nI (p + 1)))) ∨ (¬ (p < t ∧ T p = c) ∧ ∃ f', fX4_sign (nI c) f = some (false, f') ∧ f' 34 4 = 1 ∧ f' 34 5 = nI p ∧ XF f f') := by
  have h160 := h2.1
  obtain ⟨f', g1, g2⟩ := F_fail hp 1
  unfold fX4_sign
  rw [hp, F_at h2 (by omega), sp_bd, g1, sp_bd2, sp_lt, nI_1]
  by_cases hpt2 : p < t
  · have hT := (h2.2.2.2 p hpt2).2.2
    rw [if_pos hpt2]
    by_cases e : T p = c
    · rw [if_pos (show nI (T p) = nI c by rw [e])]
      exact Or.inl ⟨hpt2, e, rfl⟩
    · rw [if_neg (show ¬ nI (T p) = nI c from fun z => e ((nI_eq (by omega) (by omega)).mp z))]
      exact Or.inr ⟨fun z => e z.2, f', rfl, g2⟩
  · rw [if_neg hpt2, if_neg (show ¬ (-1000000 : Int32) = nI c from fun z => by
      rw [fa_eq, nI_toInt (by omega)] at z
      have : (-1000000 : Int) = c := z
      omega)]
    exact Or.inr ⟨fun z => hpt2 z.1, f', rfl, g2⟩
theorem M_isLetter {m : fr_N} {t : Nat} {T : Nat → Nat} {p c : Nat} (hT : ∀ i, i < t → T i < 256) (h : TS m t T p) (hc : 97 ≤ c ∧ c ≤ 122) : fX8_isLetter (nI c) m = some (decide (p < t ∧ T p = c)) ∧ (p < t ∧ T p = c → m 0 8 = nI (p + 1)) := by
  obtain ⟨h12, h9, hp, hc'⟩ := h
  unfold fX8_isLetter
  rw [if_pos h12]
  rcases hc' with ⟨q1, q2⟩ | ⟨q1, q2, q3, q4, q5, q6⟩ | ⟨q1, q2, q4, q5, q6⟩ | ⟨q1, q2, q3, q4, q5, q6⟩ | ⟨d, q1, q2, q3, q4, q5, q6⟩
  · rw [q2, if_neg (show ¬ (0 : Int32) = 1 by decide), decide_eq_false (by omega)]
    exact ⟨rfl, fun z => absurd z.1 (by omega)⟩
  · have := hT p q1
    rw [q4, if_pos rfl, q5]
    by_cases e : T p = c
    · rw [if_pos (show nI (T p) = nI c by rw [e]), decide_eq_true ⟨q1, e⟩]
      exact ⟨rfl, fun _ => q6⟩
    · rw [if_neg (show ¬ nI (T p) = nI c from fun z => e ((nI_eq (by omega) (by omega)).mp z)), decide_eq_false (fun z => e z.2)]
      exact ⟨rfl, fun _ => q6⟩
  · rw [q4, if_neg (show ¬ (3 : Int32) = 1 by decide), decide_eq_false (fun z => by omega)]
    exact ⟨rfl, fun _ => q6⟩
  · rw [q6, if_neg (show ¬ (4 : Int32) = 1 by decide), decide_eq_false (fun z => by omega)]
    exact ⟨rfl, fun z => absurd z.2 (by omega)⟩
  · have hd := q3 0 (by omega)
    rw [Nat.add_zero] at hd
    have hd1 := hd.1
    have hd2 := hd.2
    rcases q6 with ⟨-, q7, -⟩ | ⟨-, q7⟩
    · rw [q7, if_neg (show ¬ (2 : Int32) = 1 by decide), decide_eq_false (fun z => by omega)]
      exact ⟨rfl, fun z => absurd z.2 (by omega)⟩
    · rw [q7, if_neg (show ¬ (4 : Int32) = 1 by decide), decide_eq_false (fun z => by omega)]
      exact ⟨rfl, fun z => absurd z.2 (by omega)⟩
theorem RN.bytes {f m : fr_N} {t : Nat} {T : Nat → Nat} {p : Nat} (h : RN f m t T p) : ∀ i, i < t → T i < 256 := fun i hi => (h.1.2.2.2 i hi).2.2
/-- a step's two outcomes -/
def ST (f m : fr_N) (t : Nat) (T : Nat → Nat) (a : Option (Bool × fr_N)) (b : Option fr_N) : Prop :=
  (∃ p f' m', a = some (true, f') ∧ b = some m' ∧ RN f' m' t T p ∧ XF f f' ∧ XM m m') ∨ (∃ f' m', a = some (false, f') ∧ b = some m' ∧ FA f' m' ∧ XF f f' ∧ XM m m')
theorem both_sign {f m : fr_N} {t : Nat} {T : Nat → Nat} {p c : Nat} (h : RN f m t T p) (hc : 97 ≤ c ∧ c ≤ 122) : ST f m t T (fX4_sign (nI c) f) (fX8_letter (nI c) m) := by
  obtain ⟨h2, hp, hTS⟩ := id h
  obtain ⟨l1, l2⟩ := M_isLetter h.bytes hTS hc
  have h160 := h2.1
  unfold fX8_letter fX8_letter_13
  rw [l1, sp_bd]
  rcases F_sign h2 hp hTS.2.2.1 (show c < 256 by omega) with ⟨q1, q2, q3⟩ | ⟨q1, f', q2, q3, q4, q5⟩
  · obtain ⟨m', g1, g2, g3⟩ := M_goes h2 hTS.1 (l2 ⟨q1, q2⟩) (show p + 1 ≤ t by omega)
    rw [decide_eq_true ⟨q1, q2⟩, if_pos rfl, g1, sp_bd, q3]
    exact Or.inl ⟨p + 1, _, _, rfl, rfl, ⟨h2.read XF.up g3, sp_up_same _ _ _ _, g2⟩, XF.up, g3⟩
  · obtain ⟨m', g1, g2, g3, g4⟩ := M_bad hTS.1 hTS.2.1 1
    rw [decide_eq_false q1, if_neg Bool.false_ne_true, g1, sp_bd, D_goes (by rw [g2]; decide), sp_bd, q2]
    exact Or.inr ⟨_, _, rfl, rfl, ⟨1, p, by omega, by omega, by have := hTS.2.2.1; omega, q3, g2, q4, g3⟩, q5, g4⟩
/-- the figures at p, as both see them -/
theorem TS.figures {m : fr_N} {t : Nat} {T : Nat → Nat} {p : Nat} (h : TS m t T p) : ∃ c, p + c ≤ t ∧ (∀ i, i < c → dg (T (p + i))) ∧ (p + c = t ∨ ¬ dg (T (p + c))) ∧ ((1 ≤ c ∧ c ≤ 3 ∧ m 0 10 = 2 ∧ m 0 11 = nI (dv T p c) ∧ m 0 8 = nI (p + c)) ∨ ((c = 0 ∨ 3 < c) ∧ ¬ m 0 10 = 2)) := by
  obtain ⟨h12, h9, hp, hc'⟩ := h
  have z : ∀ (q : p = t ∨ ¬ dg (T p)) (w : ¬ m 0 10 = 2), ∃ c, p + c ≤ t ∧ (∀ i, i < c → dg (T (p + i))) ∧ (p + c = t ∨ ¬ dg (T (p + c))) ∧ ((1 ≤ c ∧ c ≤ 3 ∧ m 0 10 = 2 ∧ m 0 11 = nI (dv T p c) ∧ m 0 8 = nI (p + c)) ∨ ((c = 0 ∨ 3 < c) ∧ ¬ m 0 10 = 2)) :=
    fun q w => ⟨0, hp, fun i hi => absurd hi (by omega), q, Or.inr ⟨Or.inl rfl, w⟩⟩
  rcases hc' with ⟨q1, q2⟩ | ⟨q1, q2, q3, q4, q5, q6⟩ | ⟨q1, q2, q4, q5, q6⟩ | ⟨q1, q2, q3, q4, q5, q6⟩ | ⟨d, q1, q2, q3, q4, q5, q6⟩
  · exact z (Or.inl q1) (by rw [q2]; decide)
  · exact z (Or.inr (fun w => by have := w.2; omega)) (by rw [q4]; decide)
  · exact z (Or.inr (fun w => by have := w.1; have := w.2; omega)) (by rw [q4]; decide)
  · exact z (Or.inr q2) (by rw [q6]; decide)
  · refine ⟨d, q2, q3, q4, ?_⟩
    rcases q6 with ⟨q7, q8, q9⟩ | ⟨q7, q8⟩
    · exact Or.inl ⟨q1, q7, q8, q9, q5⟩
    · exact Or.inr ⟨Or.inr q7, by rw [q8]; decide⟩
theorem F_bare5 {f m : fr_N} {t : Nat} {T : Nat → Nat} {p c : Nat} {lo hi : Int32} (h2 : R2 f m t T) (hp : f 34 2 = nI p) (hc : p + c ≤ t) (hd : ∀ i, i < c → dg (T (p + i))) (he : p + c = t ∨ ¬ dg (T (p + c))) : ∀ (k i : Nat), i ≤ min c 4 → 4 - i < k → fX4_bareNumber_5 k lo hi (nI i) (nI (dv T p i)) f = fX4_bareNumber_63 lo hi (nI (min c 4)) (nI (dv T p (min c 4))) f
  | 0, _, _, hk => absurd hk (by omega)
  | k + 1, i, hi, hk => by
    have h160 := h2.1
    rw [fX4_bareNumber_5]
    by_cases e4 : i = 4
    · rw [if_pos (show (4 : Int32) ≤ nI i from (n_le (a := 4) (by omega) (by omega)).mpr (by omega)), show min c 4 = i by omega]
    · rw [if_neg (show ¬ (4 : Int32) ≤ nI i from fun z => by have := (n_le (a := 4) (by omega) (by omega)).mp z; omega), hp, nI_add, F_at h2 (by omega), sp_bd]
      by_cases hic : i < c
      · have hdi := hd i hic
        have hT := (h2.2.2.2 (p + i) (by omega)).2.2
        rw [if_pos (show p + i < t by omega), dg_F hT, sp_bd, decide_eq_true (show 48 ≤ T (p + i) ∧ T (p + i) ≤ 57 from hdi), if_pos rfl, sp_bd, n_dig hdi.1, nI_1, show dv T p i * 10 + (T (p + i) - 48) = dv T p (i + 1) from rfl]
        exact F_bare5 h2 hp hc hd he k (i + 1) (by omega) (by omega)
      · have hic2 : i = c := by omega
        by_cases hpt : p + i < t
        · have hT := (h2.2.2.2 (p + i) hpt).2.2
          rw [if_pos hpt, dg_F hT, sp_bd, decide_eq_false (fun z => by
            rcases he with he | he
            · omega
            · rw [← hic2] at he; exact he z), if_neg Bool.false_ne_true, show min c 4 = i by omega]
        · rw [if_neg hpt, sp_within, sp_bd, decide_eq_false (by decide), if_neg Bool.false_ne_true, show min c 4 = i by omega]
/-- a bare number of the class -/
theorem F_bare {f m : fr_N} {t : Nat} {T : Nat → Nat} {p c : Nat} {lo hi : Int32} (h2 : R2 f m t T) (hp : f 34 2 = nI p) (hc : p + c ≤ t) (hd : ∀ i, i < c → dg (T (p + i))) (he : p + c = t ∨ ¬ dg (T (p + c))) : (1 ≤ c ∧ c ≤ 3 ∧ (lo.toInt ≤ (dv T p c : Int) ∧ (dv T p c : Int) ≤ hi.toInt) ∧ fX4_bareNumber lo hi f = some (true, fr_up (fr_up f 34 3 (nI (dv T p c))) 34 2 (nI (p + c)))) ∨ (1 ≤ c ∧ c ≤ 3 ∧ ¬ (lo.toInt ≤ (dv T p c : Int) ∧ (dv T p c : Int) ≤ hi.toInt) ∧ ∃ f', fX4_bareNumber lo hi f = some (false, f') ∧ f' 34 4 = 2 ∧ f' 34 5 = nI p ∧ XF f f') ∨ ((c = 0 ∨ 3 < c) ∧ ∃ f', fX4_bareNumber lo hi f = some (false, f') ∧ f' 34 4 = 1 ∧ f' 34 5 = nI p ∧ XF f f') := by
  have h160 := h2.1
  unfold fX4_bareNumber
  rw [show fX4_bareNumber_5 2000 lo hi 0 0 f = _ from F_bare5 h2 hp hc hd he 2000 0 (by omega) (by omega)]
  unfold fX4_bareNumber_63 fX4_bareNumber_72
  obtain ⟨f1, g1, g2⟩ := F_fail hp 1
  obtain ⟨f2, k1, k2⟩ := F_fail hp 2
  rw [g1, sp_bd2, k1, sp_bd2, sp_within, sp_bd]
  by_cases h0 : c = 0
  · rw [if_pos (show nI (min c 4) = 0 by rw [h0]; rfl)]
    exact Or.inr (Or.inr ⟨Or.inl h0, f1, rfl, g2⟩)
  · rw [if_neg (show ¬ nI (min c 4) = 0 from fun z => by have := (n_0 (by omega)).mp z; omega)]
    by_cases h3 : c ≤ 3
    · have hb := dv_bd c hd
      have hb2 : 10 ^ c ≤ 10 ^ 3 := Nat.pow_le_pow_right (by omega) h3
      rw [show min c 4 = c by omega, if_pos (show nI c ≤ 3 from (n_le (b := 3) (by omega) (by omega)).mpr h3), nI_toInt (by omega), sp_lt, sp_lt, sp_up_slot _ _ _ (show (2 : Nat) ≠ 3 by omega), hp, nI_add]
      by_cases hr : lo.toInt ≤ (dv T p c : Int) ∧ (dv T p c : Int) ≤ hi.toInt
      · rw [decide_eq_true hr, if_pos rfl]
        exact Or.inl ⟨by omega, h3, hr, rfl⟩
      · rw [decide_eq_false hr, if_neg Bool.false_ne_true]
        exact Or.inr (Or.inl ⟨by omega, h3, hr, f2, rfl, k2⟩)
    · rw [if_neg (show ¬ nI (min c 4) ≤ 3 from fun z => by have := (n_le (b := 3) (by omega) (by omega)).mp z; omega)]
      exact Or.inr (Or.inr ⟨Or.inr (by omega), f1, rfl, g2⟩)
/-- the sign behind a number, as the reference reads it -/
theorem M_51 {f m : fr_N} {t : Nat} {T : Nat → Nat} {q s : Nat} (h2 : R2 f m t T) (h12 : m 0 12 = 0) (h8 : m 0 8 = nI q) (hq : q ≤ t) (hs : s = 44 ∨ s = 59) (v : Int32) : (q < t ∧ T q = s ∧ ∃ m', fX8_number_51 (nI s) v m = some (v, m') ∧ TS m' t T (q + 1) ∧ XM m m') ∨ (¬ (q < t ∧ T q = s) ∧ ∃ m', fX8_number_51 (nI s) v m = some (v, m') ∧ m' 0 12 = 1 ∧ m' 0 13 = nI q ∧ XM m m') := by
  obtain ⟨m1, g1, g2, g3⟩ := M_goes h2 h12 h8 hq
  have hT : ∀ i, i < t → T i < 256 := fun i hi => (h2.2.2.2 i hi).2.2
  unfold fX8_number_51 fX8_number_80 fX8_number_85
  rw [g1, sp_bd, if_pos g2.1]
  obtain ⟨m2, k1, k2, k3, k4⟩ := M_bad g2.1 g2.2.1 1
  have no : ¬ (q < t ∧ T q = s) → ¬ (m1 0 10 = 3 ∧ m1 0 11 = nI s) → ((q < t ∧ T q = s ∧ ∃ m', (if m1 0 10 = 3 then if m1 0 11 = nI s then fr_bd (fX8_goesOn m1) fun n3 => some (v, n3) else fr_bd (fX8_bad 1 m1) fun n6 => fr_bd (fX8_goesOn n6) fun n3 => some (v, n3) else fr_bd (fX8_bad 1 m1) fun n6 => fr_bd (fX8_goesOn n6) fun n3 => some (v, n3)) = some (v, m') ∧ TS m' t T (q + 1) ∧ XM m m') ∨ (¬ (q < t ∧ T q = s) ∧ ∃ m', (if m1 0 10 = 3 then if m1 0 11 = nI s then fr_bd (fX8_goesOn m1) fun n3 => some (v, n3) else fr_bd (fX8_bad 1 m1) fun n6 => fr_bd (fX8_goesOn n6) fun n3 => some (v, n3) else fr_bd (fX8_bad 1 m1) fun n6 => fr_bd (fX8_goesOn n6) fun n3 => some (v, n3)) = some (v, m') ∧ m' 0 12 = 1 ∧ m' 0 13 = nI q ∧ XM m m')) := by
    intro hn hn2
    refine Or.inr ⟨hn, m2, ?_, k2, k3, g3.trans k4⟩
    rw [k1, sp_bd, D_goes (m := m2) (by rw [k2]; decide), sp_bd]
    by_cases e3 : m1 0 10 = 3
    · rw [if_pos e3, if_neg (fun z => hn2 ⟨e3, z⟩)]
    · rw [if_neg e3]
  rcases g2.2.2.2 with ⟨q1, q2⟩ | ⟨q1, q2, q3, q4, q5, q6⟩ | ⟨q1, q2, q4, q5, q6⟩ | ⟨q1, q2, q3, q4, q5, q6⟩ | ⟨d, q1, q2, q3, q4, q5, q6⟩
  · exact no (by omega) (fun z => by rw [q2] at z; exact absurd z.1 (by decide))
  · exact no (by omega) (fun z => by rw [q4] at z; exact absurd z.1 (by decide))
  · by_cases e : T q = s
    · obtain ⟨m3, j1, j2, j3⟩ := M_goes (h2.read XF.rf g3) g2.1 q6 (show q + 1 ≤ t by omega)
      rw [if_pos q4, if_pos (by rw [q5, e]), j1, sp_bd]
      exact Or.inl ⟨q1, e, m3, rfl, j2, g3.trans j3⟩
    · have := hT q q1
      exact no (fun z => e z.2) (fun z => e (by
        have z2 := z.2
        rw [q5] at z2
        exact (nI_eq (by omega) (by omega)).mp z2))
  · exact no (by omega) (fun z => by rw [q6] at z; exact absurd z.1 (by decide))
  · refine no (fun z => ?_) (fun z => ?_)
    · have hd := q3 0 (by omega)
      rw [Nat.add_zero] at hd
      have hd1 := hd.1
      have hd2 := hd.2
      omega
    · rcases q6 with ⟨-, q7, -⟩ | ⟨-, q7⟩
      · rw [q7] at z; exact absurd z.1 (by decide)
      · rw [q7] at z; exact absurd z.1 (by decide)
/-- a number with its sign -/
def SN (f m : fr_N) (t : Nat) (T : Nat → Nat) (lo hi : Int32) (a : Option (Bool × fr_N)) (b : Option (Int32 × fr_N)) : Prop :=
  (∃ p v f' m', a = some (true, f') ∧ b = some (nI v, m') ∧ f' 34 3 = nI v ∧ v < 1000 ∧ (lo.toInt ≤ (v : Int) ∧ (v : Int) ≤ hi.toInt) ∧ RN f' m' t T p ∧ XF f f' ∧ XM m m') ∨ (∃ r f' m', a = some (false, f') ∧ b = some (r, m') ∧ FA f' m' ∧ XF f f' ∧ XM m m')
theorem both_number {f m : fr_N} {t : Nat} {T : Nat → Nat} {p s : Nat} (h : RN f m t T p) (hs : s = 44 ∨ s = 59) (lo hi : Int32) : SN f m t T lo hi (fX4_number lo hi (nI s) f) (fX8_number lo hi (nI s) m) := by
  obtain ⟨h2, hp, hTS⟩ := id h
  have h160 := h2.1
  obtain ⟨c, c1, c2, c3, c4⟩ := hTS.figures
  have hpt := hTS.2.2.1
  unfold fX4_number fX8_number
  rcases F_bare (lo := lo) (hi := hi) h2 hp c1 c2 c3 with ⟨q1, q2, q3, q4⟩ | ⟨q1, q2, q3, f', q4, q5, q6, q7⟩ | ⟨q1, f', q4, q5, q6, q7⟩
  · rcases c4 with ⟨-, -, d1, d2, d3⟩ | ⟨d1, -⟩
    · have hb := dv_bd c c2
      have hb2 : 10 ^ c ≤ 10 ^ 3 := Nat.pow_le_pow_right (by omega) q2
      have x1 : XF f (fr_up (fr_up f 34 3 (nI (dv T p c))) 34 2 (nI (p + c))) := XF.up.trans XF.up
      unfold fX8_number_36
      rw [q4, sp_bd2, if_pos rfl, if_pos d1, d2, sp_in, sp_bd, sp_wide, sp_wide, sp_wide, nI_toInt (n := dv T p c) (by omega), decide_eq_true q3, if_pos rfl, if_pos hTS.1]
      rcases M_51 (s := s) h2 hTS.1 d3 c1 hs (nI (dv T p c)) with ⟨e1, e2, m', e3, e4, e5⟩ | ⟨e1, m', e2, e3, e4, e5⟩
      · rcases F_sign (c := s) (h2.read x1 XM.rf) (sp_up_same _ _ _ _) c1 (by omega) with ⟨-, -, w3⟩ | ⟨w1, -⟩
        · rw [w3, sp_bd2, if_pos rfl, e3]
          refine Or.inl ⟨p + c + 1, dv T p c, _, m', rfl, rfl, ?_, by omega, q3, ⟨h2.read (x1.trans XF.up) e5, sp_up_same _ _ _ _, e4⟩, x1.trans XF.up, e5⟩
          rw [sp_up_slot _ _ _ (by omega), sp_up_slot _ _ _ (by omega), sp_up_same]
        · exact absurd ⟨e1, e2⟩ w1
      · rcases F_sign (c := s) (h2.read x1 XM.rf) (sp_up_same _ _ _ _) c1 (by omega) with ⟨w1, w2, -⟩ | ⟨-, f', w2, w3, w4, w5⟩
        · exact absurd ⟨w1, w2⟩ e1
        · rw [w2, sp_bd2, if_neg Bool.false_ne_true, e2]
          exact Or.inr ⟨_, f', m', rfl, rfl, ⟨1, p + c, by omega, by omega, by omega, w3, e3, w4, e4⟩, x1.trans w5, e5⟩
    · omega
  · rcases c4 with ⟨-, -, d1, d2, d3⟩ | ⟨d1, -⟩
    · have hb := dv_bd c c2
      have hb2 : 10 ^ c ≤ 10 ^ 3 := Nat.pow_le_pow_right (by omega) q2
      obtain ⟨m', k1, k2, k3, k4⟩ := M_bad hTS.1 hTS.2.1 2
      rw [q4, sp_bd2, if_neg Bool.false_ne_true, if_pos d1, d2, sp_in, sp_bd, sp_wide, sp_wide, sp_wide, nI_toInt (n := dv T p c) (by omega), decide_eq_false q3, if_neg Bool.false_ne_true, k1, sp_bd, D_36 (by rw [k2]; decide)]
      exact Or.inr ⟨_, f', m', rfl, rfl, ⟨2, p, by omega, by omega, by omega, q5, k2, q6, k3⟩, q7, k4⟩
    · omega
  · rcases c4 with ⟨d0, d9, -⟩ | ⟨-, d1⟩
    · omega
    · obtain ⟨m', k1, k2, k3, k4⟩ := M_bad hTS.1 hTS.2.1 1
      rw [q4, sp_bd2, if_neg Bool.false_ne_true, if_neg d1, k1, sp_bd, D_36 (by rw [k2]; decide)]
      exact Or.inr ⟨_, f', m', rfl, rfl, ⟨1, p, by omega, by omega, by omega, q5, k2, q6, k3⟩, q7, k4⟩
