/-! image, restore, undo -/
theorem op_image {f m : fr_N} (hr : RR f m) (a : Int32) : OK (fX7_image a f) (fX8_image a m) := by
  obtain ⟨B, k, H, t, T, h1, h2, h3, h4, h5⟩ := id hr
  obtain ⟨hv, hF, hT, hM⟩ := id h1
  have h8 := hv.2.2.2.2.2.2.2.1
  unfold fX7_image fX8_image
  rw [sp_within, sp_bd, sp_in, sp_bd, sp_wide]
  by_cases ha : 0 ≤ a.toInt ∧ a.toInt ≤ 1
  · rw [decide_eq_true (show (0 : Int32).toInt ≤ a.toInt ∧ a.toInt ≤ (1 : Int32).toInt from ha), decide_eq_true (show (0 : Int64).toInt ≤ a.toInt ∧ a.toInt ≤ (1 : Int64).toInt from ha), if_pos rfl, if_pos rfl, sp_isBook (show m 1 8 = nI (B 8) from hM 8 (by omega)) (by omega), sp_bd]
    by_cases hb : 0 < B 8
    · rw [if_neg (fun h => (told_iff h1).mp h hb), decide_eq_true hb, if_pos rfl]
      obtain ⟨i, hi, rfl⟩ := sp_of (n := 1) ha.1 ha.2
      unfold fX8_copies_53_56
      rw [sp_ck (by omega) (by omega), gC_4, show (79 : Int32) = nI 79 from rfl, pk_mul, show fr_b true = 1 from rfl]
      obtain ⟨m1, g1, g2, g3, g4⟩ := gC_spec 1 4 79 158 0 (79 * i) (by omega) (by omega) (by omega) ⟨by omega, by omega⟩ 2000 0 m (by omega) (by omega)
      rw [show gC 1 4 79 158 2000 0 (nI (79 * i)) 0 m = some m1 from g1, sp_bd, sp_ck (by omega) (by omega), sp_lt, nI_clamp (by omega)]
      have mkM : MB (fr_up m1 5 i 1 4) (79 * i) B := by
        intro j hj
        rw [sp_up_cell _ _ _ (by omega), g3 _ (by omega) (by omega)]
        have := hM j hj
        rw [Nat.zero_add] at this
        rw [← this]
        congr 1
        omega
      rcases (show i = 0 ∨ i = 1 by omega) with rfl | rfl
      · rw [if_pos (show nI 0 = 0 from rfl)]
        obtain ⟨f', y1, y2, y3, y4⟩ := gB_spec (n := f) (d := 18) (s := 3) (by omega) hv hF
        rw [show fX1_become_18_3 f = some f' from y1, sp_bd]
        refine ⟨_, _, _, rfl, rfl, B, k, H, t, T, h1.kept (fun c a1 a2 => y4 c (by omega)) (by rw [sp_up_cell _ _ _ (by omega), g2 1 (by omega)]), h2.kept (fun c a1 a2 => y4 c (by omega)) (by rw [sp_up_cell _ _ _ (by omega), g2 6 (by omega)]) (by rw [sp_up_cell _ _ _ (by omega), g2 0 (by omega)]), h3.kept (fun c a1 a2 => y4 c (by omega)) (by rw [sp_up_cell _ _ _ (by omega), g2 3 (by omega)]) (by rw [sp_up_cell _ _ _ (by omega), g2 0 (by omega)]), ⟨Or.inr ⟨y3, sp_up_same _ _ _ _, B, hv, hb, y2, mkM⟩, ?_⟩, ?_⟩
        · rcases h4.2 with ⟨z1, z2⟩ | ⟨z1, z2, J, z3, z4, z5, z6⟩
          · exact Or.inl ⟨by rw [y4 26 (by omega)]; exact z1, by rw [sp_up_slot _ _ _ (by omega), g2 5 (by omega)]; exact z2⟩
          · exact Or.inr ⟨by rw [y4 26 (by omega)]; exact z1, by rw [sp_up_slot _ _ _ (by omega), g2 5 (by omega)]; exact z2, J, z3, z4, z5.kept (fun c a1 a2 => y4 c (by omega)), fun j hj => by rw [sp_up_cell _ _ _ (by omega), g4 _ (by omega)]; exact z6 j hj⟩
        · rw [y4 0 (by omega), sp_up_cell _ _ _ (by omega), g2 0 (by omega)]; exact h5
      · rw [if_neg (show ¬ nI 1 = 0 by decide)]
        obtain ⟨f', y1, y2, y3, y4⟩ := gB_spec (n := f) (d := 26) (s := 3) (by omega) hv hF
        rw [show fX1_become_26_3 f = some f' from y1, sp_bd]
        refine ⟨_, _, _, rfl, rfl, B, k, H, t, T, h1.kept (fun c a1 a2 => y4 c (by omega)) (by rw [sp_up_cell _ _ _ (by omega), g2 1 (by omega)]), h2.kept (fun c a1 a2 => y4 c (by omega)) (by rw [sp_up_cell _ _ _ (by omega), g2 6 (by omega)]) (by rw [sp_up_cell _ _ _ (by omega), g2 0 (by omega)]), h3.kept (fun c a1 a2 => y4 c (by omega)) (by rw [sp_up_cell _ _ _ (by omega), g2 3 (by omega)]) (by rw [sp_up_cell _ _ _ (by omega), g2 0 (by omega)]), ⟨?_, Or.inr ⟨y3, sp_up_same _ _ _ _, B, hv, hb, y2, mkM⟩⟩, ?_⟩
        · rcases h4.1 with ⟨z1, z2⟩ | ⟨z1, z2, J, z3, z4, z5, z6⟩
          · exact Or.inl ⟨by rw [y4 18 (by omega)]; exact z1, by rw [sp_up_slot _ _ _ (by omega), g2 5 (by omega)]; exact z2⟩
          · exact Or.inr ⟨by rw [y4 18 (by omega)]; exact z1, by rw [sp_up_slot _ _ _ (by omega), g2 5 (by omega)]; exact z2, J, z3, z4, z5.kept (fun c a1 a2 => y4 c (by omega)), fun j hj => by rw [sp_up_cell _ _ _ (by omega), g4 _ (by omega)]; exact z6 j hj⟩
        · rw [y4 0 (by omega), sp_up_cell _ _ _ (by omega), g2 0 (by omega)]; exact h5
    · rw [if_pos ((told_iff h1).mpr hb), decide_eq_false hb, if_neg (by decide)]
      exact OK.same hr
  · rw [decide_eq_false (show ¬ ((0 : Int32).toInt ≤ a.toInt ∧ a.toInt ≤ (1 : Int32).toInt) from ha), decide_eq_false (show ¬ ((0 : Int64).toInt ≤ a.toInt ∧ a.toInt ≤ (1 : Int64).toInt) from ha), if_neg (by decide), if_neg (by decide)]
    exact OK.same hr
/-- behind a restore: the book is another one, no act is kept -/
theorem RR_back {f m f' m' : fr_N} {J : Nat → Nat} {t : Nat} {T : Nat → Nat} (h2 : R2 f m t T) (h4 : IM f m 18 0 ∧ IM f m 26 1) (h5 : f 0 7 = m 0 14) (hv : VB J) (h8 : 0 < J 8) (hF : FB f' 3 J) (hT : f' 3 0 = 1) (hM : MB (m' 1) 0 J) (e43 : f' 43 4 = 0) (e03 : m' 0 3 = 0) (ef : ∀ c, (c < 3 ∨ 10 < c) → c ≠ 43 → f' c = f c) (em : ∀ c, c ≠ 0 → c ≠ 1 → m' c = m c) (em0 : ∀ j, j ≠ 3 → m' 0 j = m 0 j) : RR f' m' := by
  refine ⟨J, 0, fun _ => J, t, T, ⟨hv, hF, by rw [hT, decide_eq_true h8]; rfl, hM⟩, h2.kept (fun c a1 a2 => ef c (by omega) (by omega)) (em 6 (by omega) (by omega)) (em0 7 (by omega)), ⟨by omega, e43, e03, fun j hj => absurd hj (by omega)⟩, ⟨h4.1.kept (fun c a1 a2 => ef c (by omega) (by omega)) (em 5 (by omega) (by omega)) (em 4 (by omega) (by omega)), h4.2.kept (fun c a1 a2 => ef c (by omega) (by omega)) (em 5 (by omega) (by omega)) (em 4 (by omega) (by omega))⟩, ?_⟩
  rw [ef 0 (by omega) (by omega), em0 14 (by omega)]
  exact h5
theorem op_restore {f m : fr_N} (hr : RR f m) (a : Int32) : OK (fX7_restore a f) (fX8_restore a m) := by
  obtain ⟨B, k, H, t, T, h1, h2, h3, h4, h5⟩ := id hr
  unfold fX7_restore fX8_restore
  rw [sp_within, sp_bd, sp_in, sp_bd, sp_wide]
  by_cases ha : 0 ≤ a.toInt ∧ a.toInt ≤ 1
  · rw [decide_eq_true (show (0 : Int32).toInt ≤ a.toInt ∧ a.toInt ≤ (1 : Int32).toInt from ha), decide_eq_true (show (0 : Int64).toInt ≤ a.toInt ∧ a.toInt ≤ (1 : Int64).toInt from ha), if_pos rfl, if_pos rfl]
    obtain ⟨i, hi, rfl⟩ := sp_of (n := 1) ha.1 ha.2
    unfold fX8_copies_56_53
    rw [sp_ck (by omega) (by omega), sp_ck (by omega) (by omega), gC_5, show (79 : Int32) = nI 79 from rfl, pk_mul, nI_clamp (by omega)]
    obtain ⟨m1, g1, g2, g3, g4⟩ := gC_spec 4 1 158 79 (79 * i) 0 (by omega) (by omega) (by omega) ⟨by omega, by omega⟩ 2000 0 m (by omega) (by omega)
    rw [show gC 4 1 158 79 2000 (nI (79 * i)) 0 0 m = some m1 from g1, sp_bd, sp_lt]
    have mkM : ∀ J, MB (m 4) (79 * i) J → MB (fr_up m1 0 3 0 1) 0 J := by
      intro J hJ j hj
      rw [sp_up_cell _ _ _ (by omega), g3 _ (by omega) (by omega), ← hJ j hj]
      congr 1
      omega
    rcases (show i = 0 ∨ i = 1 by omega) with rfl | rfl
    · rw [if_pos (show nI 0 = 0 from rfl)]
      rcases h4.1 with ⟨z1, z2⟩ | ⟨z1, z2, J, z3, z4, z5, z6⟩
      · rw [if_pos z1, if_pos z2]
        exact OK.same hr
      · rw [if_neg (show ¬ f 18 0 = 0 by rw [z1]; decide), if_pos (show nI 0 = 0 from rfl), if_neg (show ¬ m 5 0 = 0 by rw [z2]; decide)]
        obtain ⟨f', y1, y2, y3, y4⟩ := gB_spec (n := f) (d := 3) (s := 18) (by omega) z3 z5
        rw [show fX1_become_3_18 f = some f' from y1, sp_bd, sp_lt]
        exact ⟨_, _, _, rfl, rfl, RR_back h2 h4 h5 z3 z4 (y2.kept (fun c a1 a2 => sp_up_cell _ _ _ (by omega))) (by rw [sp_up_cell _ _ _ (by omega)]; exact y3) (mkM J z6) (sp_up_same _ _ _ _) (sp_up_same _ _ _ _) (fun c hc h43 => by rw [sp_up_cell _ _ _ h43, y4 c (by omega)]) (fun c hc hc1 => by rw [sp_up_cell _ _ _ hc, g2 c hc1]) (fun j hj => by rw [sp_up_slot _ _ _ hj, g2 0 (by omega)])⟩
    · rw [if_neg (show ¬ nI 1 = 0 by decide)]
      rcases h4.2 with ⟨z1, z2⟩ | ⟨z1, z2, J, z3, z4, z5, z6⟩
      · rw [if_pos z1, if_pos z2]
        exact OK.same hr
      · rw [if_neg (show ¬ f 26 0 = 0 by rw [z1]; decide), if_neg (show ¬ nI 1 = 0 by decide), if_neg (show ¬ m 5 1 = 0 by rw [z2]; decide)]
        obtain ⟨f', y1, y2, y3, y4⟩ := gB_spec (n := f) (d := 3) (s := 26) (by omega) z3 z5
        rw [show fX1_become_3_26 f = some f' from y1, sp_bd, sp_lt]
        exact ⟨_, _, _, rfl, rfl, RR_back h2 h4 h5 z3 z4 (y2.kept (fun c a1 a2 => sp_up_cell _ _ _ (by omega))) (by rw [sp_up_cell _ _ _ (by omega)]; exact y3) (mkM J z6) (sp_up_same _ _ _ _) (sp_up_same _ _ _ _) (fun c hc h43 => by rw [sp_up_cell _ _ _ h43, y4 c (by omega)]) (fun c hc hc1 => by rw [sp_up_cell _ _ _ hc, g2 c hc1]) (fun j hj => by rw [sp_up_slot _ _ _ hj, g2 0 (by omega)])⟩
  · rw [decide_eq_false (show ¬ ((0 : Int32).toInt ≤ a.toInt ∧ a.toInt ≤ (1 : Int32).toInt) from ha), decide_eq_false (show ¬ ((0 : Int64).toInt ≤ a.toInt ∧ a.toInt ≤ (1 : Int64).toInt) from ha), if_neg (by decide), if_neg (by decide)]
    exact OK.same hr
/-- the latest act taken back by the class -/
theorem sp_take {f : fr_N} {k : Nat} {A' A : Nat → Nat} (hk : 0 < k ∧ k ≤ 16) (h : f 43 4 = nI k) (hF : FB f 3 A') (v' : VB A') (v : VB A) (hu : UA (f 44 (k - 1)) (f 45 (k - 1)) (f 46 (k - 1)) (f 47 (k - 1)) A' A) : ∃ f', fX0_takeBackLatest f = some f' ∧ FB f' 3 A ∧ f' 3 0 = f 3 0 ∧ f' 43 4 = nI (k - 1) ∧ (∀ c, (c < 3 ∨ 10 < c) → c ≠ 43 → f' c = f c) := by
  have e1 : nI k - 1 = nI (k - 1) := pk_sub (b := 1) (by omega)
  obtain ⟨q1, q2, q3, q4, q5, q6, q7⟩ := hF
  have a6' := v'.2.2.2.2.2.1
  have a7' := v'.2.2.2.2.2.2.1
  have a6 := v.2.2.2.2.2.1
  unfold fX0_takeBackLatest
  rw [h, if_pos (by rw [fa_lt, nI_toInt (by omega)]; show (0 : Int) < _; omega), e1, sp_lt, sp_up_same, nI_clamp (by omega), sp_ck (by omega) (by omega), sp_ck (by omega) (by omega)]
  rw [sp_up_cell f _ _ (show (44 : Nat) ≠ 43 by omega), sp_up_cell f _ _ (show (45 : Nat) ≠ 43 by omega), sp_up_cell f _ _ (show (46 : Nat) ≠ 43 by omega), sp_up_cell f _ _ (show (3 : Nat) ≠ 43 by omega)]
  rcases hu with ⟨hs, u1, u2⟩ | ⟨hs, j, hj, hx, hw, u⟩ | ⟨hs, j, hj, hx, hw, u⟩ | ⟨hs, c, hc, hx, hw, hv', u⟩
  · rw [hs, if_pos rfl, q1]
    have e2 : nI (A' 6) - 1 = nI (A 6) := by rw [u1]; exact pk_sub (b := 1) (by omega)
    rw [e2, sp_lt]
    have e3 : (if (0 : Int32) < nI (A 6) then nI (A 6) else 0) = nI (A 6) := by
      by_cases hz : A 6 = 0
      · rw [hz]; rfl
      · rw [if_pos (by rw [fa_lt, nI_toInt (by omega)]; show (0 : Int) < _; omega)]
    rw [e3]
    have far : ∀ c, c ≠ 3 → c ≠ 43 → fr_up (fr_up f 43 4 (nI (k - 1))) 3 1 (nI (A 6)) c = f c := fun c h1 h2 => by rw [sp_up_cell _ _ _ h1, sp_up_cell _ _ _ h2]
    have near : ∀ j, j ≠ 1 → fr_up (fr_up f 43 4 (nI (k - 1))) 3 1 (nI (A 6)) 3 j = f 3 j := fun j h1 => by rw [sp_up_slot _ _ _ h1, sp_up_cell _ _ _ (by omega)]
    refine ⟨_, rfl, ⟨sp_up_same _ _ _ _, ?_, ?_, fun i hi => ?_, fun i hi => ?_, fun z hz => ?_, fun c hc => ?_⟩, near 0 (by omega), ?_, fun c h1 h2 => far c (by omega) h2⟩
    · rw [near 2 (by omega), ← u2 7 (by omega) (by omega)]; exact q2
    · rw [near 3 (by omega), ← u2 8 (by omega) (by omega)]; exact q3
    · rw [far 4 (by omega) (by omega), ← u2 i (by omega) (by omega)]; exact q4 i hi
    · rw [far 5 (by omega) (by omega), ← u2 (9 + i) (by omega) (by omega)]; exact q5 i (by omega)
    · rw [← u2 7 (by omega) (by omega)] at hz
      rw [far 6 (by omega) (by omega), far 7 (by omega) (by omega), far 8 (by omega) (by omega), ← u2 (57 + 3 * z) (by omega) (by omega), ← u2 (57 + 3 * z + 1) (by omega) (by omega), ← u2 (57 + 3 * z + 2) (by omega) (by omega)]
      exact q6 z hz
    · rw [far 9 (by omega) (by omega), far 10 (by omega) (by omega), ← u2 (69 + 2 * c) (by omega) (by omega), ← u2 (69 + 2 * c + 1) (by omega) (by omega)]
      exact q7 c hc
    · rw [sp_up_cell _ _ _ (by omega), sp_up_same]
  · have u6 : A' 6 = A 6 := u 6 (by omega)
    rw [hs, if_neg (show ¬ (0 : Int32) = 1 by decide), sp_ck (by omega) (by omega), if_pos rfl, hx, hw, sp_within, sp_bd, decide_eq_true (by rw [nI_toInt (by omega)]; show (0 : Int) ≤ _ ∧ _ ≤ (47 : Int); omega), if_pos rfl, sp_ck (by omega) (by omega), sp_ck (by omega) (by omega), sp_lt, nI_clamp (by omega)]
    have far : ∀ c, c ≠ 5 → c ≠ 43 → fr_up (fr_up f 43 4 (nI (k - 1))) 5 j (nI (A (9 + j))) c = f c := fun c h1 h2 => by rw [sp_up_cell _ _ _ h1, sp_up_cell _ _ _ h2]
    refine ⟨_, rfl, ⟨?_, ?_, ?_, fun i hi => ?_, fun i hi => ?_, fun z hz => ?_, fun c hc => ?_⟩, by rw [far 3 (by omega) (by omega)], ?_, fun c h1 h2 => far c (by omega) h2⟩
    · rw [far 3 (by omega) (by omega), ← u 6 (by omega)]; exact q1
    · rw [far 3 (by omega) (by omega), ← u 7 (by omega)]; exact q2
    · rw [far 3 (by omega) (by omega), ← u 8 (by omega)]; exact q3
    · rw [far 4 (by omega) (by omega), ← u i (by omega)]; exact q4 i hi
    · by_cases hij : i = j
      · subst hij; rw [sp_up_same]
      · rw [sp_up_slot _ _ _ hij, sp_up_cell _ _ _ (by omega), ← u (9 + i) (by omega)]; exact q5 i (by omega)
    · rw [← u 7 (by omega)] at hz
      rw [far 6 (by omega) (by omega), far 7 (by omega) (by omega), far 8 (by omega) (by omega), ← u (57 + 3 * z) (by omega), ← u (57 + 3 * z + 1) (by omega), ← u (57 + 3 * z + 2) (by omega)]
      exact q6 z hz
    · rw [far 9 (by omega) (by omega), far 10 (by omega) (by omega), ← u (69 + 2 * c) (by omega), ← u (69 + 2 * c + 1) (by omega)]
      exact q7 c hc
    · rw [sp_up_cell _ _ _ (by omega), sp_up_same]
  · rw [hs, if_neg (show ¬ (2 : Int32) = 1 by decide), sp_ck (by omega) (by omega), if_neg (show ¬ (2 : Int32) = 0 by decide), hx]
    unfold fX0_takeBackLatest_98
    rw [sp_up_same, nI_clamp (by omega), sp_up_cell f _ _ (show (44 : Nat) ≠ 43 by omega), sp_up_cell f _ _ (show (46 : Nat) ≠ 43 by omega), hs, hw, sp_ck (by omega) (by omega), if_pos rfl, sp_within, sp_bd, decide_eq_true (by rw [nI_toInt (by omega)]; show (0 : Int) ≤ _ ∧ _ ≤ (5 : Int); omega), if_pos rfl, sp_ck (by omega) (by omega), sp_ck (by omega) (by omega), sp_lt, nI_clamp (by omega)]
    have far : ∀ c, c ≠ 4 → c ≠ 43 → fr_up (fr_up f 43 4 (nI (k - 1))) 4 j (nI (A j)) c = f c := fun c h1 h2 => by rw [sp_up_cell _ _ _ h1, sp_up_cell _ _ _ h2]
    refine ⟨_, rfl, ⟨?_, ?_, ?_, fun i hi => ?_, fun i hi => ?_, fun z hz => ?_, fun c hc => ?_⟩, by rw [far 3 (by omega) (by omega)], ?_, fun c h1 h2 => far c (by omega) h2⟩
    · rw [far 3 (by omega) (by omega), ← u 6 (by omega)]; exact q1
    · rw [far 3 (by omega) (by omega), ← u 7 (by omega)]; exact q2
    · rw [far 3 (by omega) (by omega), ← u 8 (by omega)]; exact q3
    · by_cases hij : i = j
      · subst hij; rw [sp_up_same]
      · rw [sp_up_slot _ _ _ hij, sp_up_cell _ _ _ (by omega), ← u i hij]; exact q4 i hi
    · rw [← u 6 (by omega)] at hi
      rw [far 5 (by omega) (by omega), ← u (9 + i) (by omega)]; exact q5 i hi
    · rw [← u 7 (by omega)] at hz
      rw [far 6 (by omega) (by omega), far 7 (by omega) (by omega), far 8 (by omega) (by omega), ← u (57 + 3 * z) (by omega), ← u (57 + 3 * z + 1) (by omega), ← u (57 + 3 * z + 2) (by omega)]
      exact q6 z hz
    · rw [far 9 (by omega) (by omega), far 10 (by omega) (by omega), ← u (69 + 2 * c) (by omega), ← u (69 + 2 * c + 1) (by omega)]
      exact q7 c hc
    · rw [sp_up_cell _ _ _ (by omega), sp_up_same]
  · rw [hs, if_neg (show ¬ (3 : Int32) = 1 by decide), sp_ck (by omega) (by omega), if_neg (show ¬ (3 : Int32) = 0 by decide), hx]
    unfold fX0_takeBackLatest_98 fX0_takeBackLatest_138
    rw [sp_up_same, nI_clamp (by omega), sp_up_cell f _ _ (show (44 : Nat) ≠ 43 by omega), sp_up_cell f _ _ (show (46 : Nat) ≠ 43 by omega), hs, hw, sp_ck (by omega) (by omega), if_neg (show ¬ (3 : Int32) = 2 by decide), sp_ck (by omega) (by omega), if_pos rfl, sp_within, sp_bd, decide_eq_true (by rw [nI_toInt (by omega)]; show (0 : Int) ≤ _ ∧ _ ≤ (4 : Int); omega), if_pos rfl, sp_ck (by omega) (by omega), sp_ck (by omega) (by omega), sp_lt, nI_clamp (by omega)]
    rw [sp_up_cell _ _ _ (show (43 : Nat) ≠ 9 by omega), sp_up_same, nI_clamp (by omega), sp_ck (by omega) (by omega), sp_ck (by omega) (by omega), sp_lt, sp_up_cell _ _ _ (show (47 : Nat) ≠ 9 by omega), sp_up_cell _ _ _ (show (47 : Nat) ≠ 43 by omega), hv']
    have far : ∀ d, d ≠ 9 → d ≠ 10 → d ≠ 43 → fr_up (fr_up (fr_up f 43 4 (nI (k - 1))) 9 c (nI (A (69 + 2 * c)))) 10 c (nI (A (69 + 2 * c + 1))) d = f d := fun d h0 h1 h2 => by rw [sp_up_cell _ _ _ h1, sp_up_cell _ _ _ h0, sp_up_cell _ _ _ h2]
    refine ⟨_, rfl, ⟨?_, ?_, ?_, fun i hi => ?_, fun i hi => ?_, fun z hz => ?_, fun d hd => ?_⟩, by rw [far 3 (by omega) (by omega) (by omega)], ?_, fun d h1 h2 => far d (by omega) (by omega) h2⟩
    · rw [far 3 (by omega) (by omega) (by omega), ← u 6 (by omega) (by omega)]; exact q1
    · rw [far 3 (by omega) (by omega) (by omega), ← u 7 (by omega) (by omega)]; exact q2
    · rw [far 3 (by omega) (by omega) (by omega), ← u 8 (by omega) (by omega)]; exact q3
    · rw [far 4 (by omega) (by omega) (by omega), ← u i (by omega) (by omega)]; exact q4 i hi
    · rw [← u 6 (by omega) (by omega)] at hi
      rw [far 5 (by omega) (by omega) (by omega), ← u (9 + i) (by omega) (by omega)]; exact q5 i hi
    · rw [← u 7 (by omega) (by omega)] at hz
      rw [far 6 (by omega) (by omega) (by omega), far 7 (by omega) (by omega) (by omega), far 8 (by omega) (by omega) (by omega), ← u (57 + 3 * z) (by omega) (by omega), ← u (57 + 3 * z + 1) (by omega) (by omega), ← u (57 + 3 * z + 2) (by omega) (by omega)]
      exact q6 z hz
    · show fr_up (fr_up (fr_up f 43 4 (nI (k - 1))) 9 c (nI (A (69 + 2 * c)))) 10 c (nI (A (69 + 2 * c + 1))) 9 d = _ ∧ fr_up (fr_up (fr_up f 43 4 (nI (k - 1))) 9 c (nI (A (69 + 2 * c)))) 10 c (nI (A (69 + 2 * c + 1))) 10 d = _
      rw [sp_up_cell (fr_up (fr_up f 43 4 (nI (k - 1))) 9 c (nI (A (69 + 2 * c)))) _ _ (show (9 : Nat) ≠ 10 by omega)]
      by_cases hdc : d = c
      · subst hdc
        rw [sp_up_same, sp_up_same]
        exact ⟨rfl, rfl⟩
      · rw [sp_up_slot _ _ _ hdc, sp_up_slot _ _ _ hdc, sp_up_cell _ _ _ (show (9 : Nat) ≠ 43 by omega), sp_up_cell _ _ _ (show (10 : Nat) ≠ 9 by omega), sp_up_cell _ _ _ (show (10 : Nat) ≠ 43 by omega), ← u (69 + 2 * d) (by omega) (by omega), ← u (69 + 2 * d + 1) (by omega) (by omega)]
        exact q7 d hd
    · rw [sp_up_cell _ _ _ (by omega), sp_up_cell _ _ _ (by omega), sp_up_same]
theorem UA_8 {s x w v : Int32} {A' A : Nat → Nat} (va : VB A) (h : UA s x w v A' A) : A' 8 = A 8 := by
  have a6 := va.2.2.2.2.2.1
  rcases h with ⟨_, u1, u2⟩ | ⟨_, j, hj, _, _, u⟩ | ⟨_, j, hj, _, _, u⟩ | ⟨_, c, hc, _, _, _, u⟩
  · exact u2 8 (by omega) (by omega)
  · exact u 8 (by omega)
  · exact u 8 (by omega)
  · exact u 8 (by omega) (by omega)
theorem op_undo {f m : fr_N} (hr : RR f m) : OK (fX7_undo f) (fX8_undo m) := by
  obtain ⟨B, k, H, t, T, h1, h2, h3, h4, h5⟩ := id hr
  obtain ⟨hv, hF, hT, hM⟩ := id h1
  obtain ⟨hk, k1, k2, k3⟩ := id h3
  unfold fX7_undo fX8_undo
  rw [k1, k2]
  by_cases h0 : k = 0
  · subst h0
    rw [if_neg (show ¬ 0 < nI 0 by decide), if_pos (show nI 0 = 0 from rfl)]
    exact OK.same hr
  · rw [if_pos (by rw [fa_lt, nI_toInt (by omega)]; show (0 : Int) < _; omega), if_neg (by rw [show (0 : Int32) = nI 0 from rfl, nI_eq (by omega) (by omega)]; exact h0), sp_lt, show nI k - 1 = nI (k - 1) from pk_sub (b := 1) (by omega), sp_up_same]
    obtain ⟨d1, d2, d3⟩ := k3 (k - 1) (by omega)
    rw [if_neg (by omega)] at d3
    obtain ⟨f', g1, g2, g3, g4, g5⟩ := sp_take ⟨by omega, hk⟩ k1 hF hv d1 d3
    rw [g1, sp_bd, g4]
    unfold fX8_copies_55_53
    rw [gC_2, show (79 : Int32) = nI 79 from rfl, pk_mul]
    obtain ⟨m1, y1, y2, y3, y4⟩ := gC_spec 3 1 1264 79 (79 * (k - 1)) 0 (by omega) (by omega) (by omega) ⟨by omega, by omega⟩ 2000 0 (fr_up m 0 3 (nI (k - 1))) (by omega) (by omega)
    rw [show gC 3 1 1264 79 2000 (nI (79 * (k - 1))) 0 0 (fr_up m 0 3 (nI (k - 1))) = some m1 from y1, sp_bd, y2 0 (by omega), sp_up_same]
    have em : ∀ c, c ≠ 0 → c ≠ 1 → m1 c = m c := fun c hc0 hc1 => by rw [y2 c hc1, sp_up_cell _ _ _ hc0]
    have em0 : ∀ j, j ≠ 3 → m1 0 j = m 0 j := fun j hj => by rw [y2 0 (by omega), sp_up_slot _ _ _ hj]
    have hM' : MB (m1 1) 0 (H (k - 1)) := by
      intro j hj
      rw [y3 _ (by omega) (by omega), sp_up_cell _ _ _ (by omega), ← d2 j hj]
      congr 1
      omega
    refine ⟨_, _, _, rfl, rfl, H (k - 1), k - 1, H, t, T, ⟨d1, g2, by rw [g3, hT, UA_8 d1 d3], hM'⟩, h2.kept (fun c a1 a2 => g5 c (by omega) (by omega)) (em 6 (by omega) (by omega)) (em0 7 (by omega)), ⟨by omega, g4, by rw [y2 0 (by omega), sp_up_same], fun j hj => ?_⟩, ⟨h4.1.kept (fun c a1 a2 => g5 c (by omega) (by omega)) (em 5 (by omega) (by omega)) (em 4 (by omega) (by omega)), h4.2.kept (fun c a1 a2 => g5 c (by omega) (by omega)) (em 5 (by omega) (by omega)) (em 4 (by omega) (by omega))⟩, ?_⟩
    · obtain ⟨c1, c2, c3⟩ := k3 j (by omega)
      rw [g5 44 (by omega) (by omega), g5 45 (by omega) (by omega), g5 46 (by omega) (by omega), g5 47 (by omega) (by omega), em 3 (by omega) (by omega)]
      rw [if_pos (by omega)] at c3
      refine ⟨c1, c2, ?_⟩
      by_cases hj1 : j + 1 < k - 1
      · rw [if_pos hj1]; exact c3
      · rw [if_neg hj1, show k - 1 = j + 1 by omega]; exact c3
    · rw [g5 0 (by omega) (by omega), em0 14 (by omega)]; exact h5
