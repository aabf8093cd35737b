/-! THE LAW'S LOOP: every call's two answers agree -/
theorem ite_t {c : Prop} [Decidable c] {A B : Option Bool} (h1 : A = some true) (h2 : B = some true) : (if c then A else B) = some true := by
  by_cases h : c
  · rw [if_pos h]; exact h1
  · rw [if_neg h]; exact h2
theorem L_2 {a b : Option (Int32 × fr_N)} {K : fr_N → fr_N → Option Bool} (h : OK a b) (hK : ∀ f m, RR f m → K f m = some true) : (fr_bd2 a fun r n => fr_bd2 b fun r' n' => if r = r' then K n n' else some false) = some true := by
  obtain ⟨r, f, m, e1, e2, e3⟩ := h
  rw [e1, e2, sp_bd2, sp_bd2, if_pos rfl]
  exact hK f m e3
theorem L_1 {a b : Option Int32} {K : Option Bool} (h : ∃ r, a = some r ∧ b = some r) (hK : K = some true) : (fr_bd a fun r => fr_bd b fun r' => if r = r' then K else some false) = some true := by
  obtain ⟨r, e1, e2⟩ := h
  rw [e1, e2, sp_bd, sp_bd, if_pos rfl]
  exact hK
theorem law_step {L : Nat} {xs : Nat → Int32} (hL : L ≤ 2560) : ∀ (k j : Nat) (f m : fr_N), RR f m → j ≤ L + 5 → L + 6 - j ≤ k → f_law L xs k (nI j) f m = some true
  | 0, _, _, _, _, _, hk => absurd hk (by omega)
  | k + 1, j, f, m, hr, hj, hk => by
    rw [f_law]
    by_cases he : L < j + 5
    · rw [if_pos (show Int32.ofNat L - 5 < nI j by rw [fa_lt, show (Int32.ofNat L - 5).toInt = (L : Int) - 5 from pk_sub_toInt (b := 5) (by omega) (by omega), nI_toInt (by omega)]; omega)]
    · have c1 : ∀ {α : Type} (K : Option α), fr_ck (nI j + 1) L K = K := fun K => by rw [show nI j + 1 = nI (j + 1) from nI_add j 1]; exact sp_ck (by omega) (by omega)
      have c2 : ∀ {α : Type} (K : Option α), fr_ck (nI j + 2) L K = K := fun K => by rw [show nI j + 2 = nI (j + 2) from nI_add j 2]; exact sp_ck (by omega) (by omega)
      have c3 : ∀ {α : Type} (K : Option α), fr_ck (nI j + 3) L K = K := fun K => by rw [show nI j + 3 = nI (j + 3) from nI_add j 3]; exact sp_ck (by omega) (by omega)
      have c4 : ∀ {α : Type} (K : Option α), fr_ck (nI j + 4) L K = K := fun K => by rw [show nI j + 4 = nI (j + 4) from nI_add j 4]; exact sp_ck (by omega) (by omega)
      have ih : ∀ f m, RR f m → f_law L xs k (nI j + 5) f m = some true := fun f m h => by
        rw [show nI j + 5 = nI (j + 5) from nI_add j 5]
        exact law_step hL k (j + 5) f m h (by omega) (by omega)
      rw [if_neg (show ¬ Int32.ofNat L - 5 < nI j by rw [fa_lt, show (Int32.ofNat L - 5).toInt = (L : Int) - 5 from pk_sub_toInt (b := 5) (by omega) (by omega), nI_toInt (by omega)]; omega), sp_ck (by omega) (by omega)]
      have q0 : f_law_0 L xs (f_law L xs k) (nI j) f m = some true := by
        unfold f_law_0
        simp only [c1]
        exact L_2 (op_feed hr _) ih
      have q1 : f_law_1 L xs (f_law L xs k) (nI j) f m = some true := by
        unfold f_law_1
        exact L_2 (op_book hr) ih
      have q2 : f_law_2 L xs (f_law L xs k) (nI j) f m = some true := by
        unfold f_law_2
        exact L_1 (op_fault hr) (ih f m hr)
      have q3 : f_law_3 L xs (f_law L xs k) (nI j) f m = some true := by
        unfold f_law_3
        exact L_2 (op_undo hr) ih
      have q4 : f_law_4 L xs (f_law L xs k) (nI j) f m = some true := by
        unfold f_law_4
        simp only [c1, c2, c3]
        exact L_2 (op_alter hr _ _ _) ih
      have q5 : f_law_5 L xs (f_law L xs k) (nI j) f m = some true := by
        unfold f_law_5
        simp only [c1, c2, c3, c4]
        exact L_2 (op_add hr _ _ _ _) ih
      have q6 : f_law_6 L xs (f_law L xs k) (nI j) f m = some true := by
        unfold f_law_6
        simp only [c1, c2]
        exact L_2 (op_law hr _ _) ih
      have q7 : f_law_7 L xs (f_law L xs k) (nI j) f m = some true := by
        unfold f_law_7
        simp only [c1, c2, c3]
        exact L_2 (op_away hr _ _ _) ih
      have q8 : f_law_8 L xs (f_law L xs k) (nI j) f m = some true := by
        unfold f_law_8
        simp only [c1, c2]
        exact L_1 (op_feast hr _ _) (ih f m hr)
      have q9 : f_law_9 L xs (f_law L xs k) (nI j) f m = some true := by
        unfold f_law_9
        simp only [c1, c2]
        exact L_2 (op_year hr _ _) ih
      have q10 : f_law_10 L xs (f_law L xs k) (nI j) f m = some true := by
        unfold f_law_10
        simp only [c1, c2, c3]
        exact L_2 (op_day hr _ _ _) ih
      have q11 : f_law_11 L xs (f_law L xs k) (nI j) f m = some true := by
        unfold f_law_11
        simp only [c1, c2, c3]
        exact L_2 (op_held hr _ _ _) ih
      have q12 : f_law_12 L xs (f_law L xs k) (nI j) f m = some true := by
        unfold f_law_12
        simp only [c1, c2, c3]
        exact L_2 (op_psalm hr _ _ _) ih
      have q13 : f_law_13 L xs (f_law L xs k) (nI j) f m = some true := by
        unfold f_law_13
        simp only [c1, c2, c3]
        exact L_2 (op_read hr _ _ _) ih
      have q14 : f_law_14 L xs (f_law L xs k) (nI j) f m = some true := by
        unfold f_law_14
        simp only [c1, c2, c3]
        exact L_2 (op_sings hr _ _ _) ih
      have q15 : f_law_15 L xs (f_law L xs k) (nI j) f m = some true := by
        unfold f_law_15
        simp only [c1, c2, c3]
        exact L_2 (op_duties hr _ _ _) ih
      have q16 : f_law_16 L xs (f_law L xs k) (nI j) f m = some true := by
        unfold f_law_16
        simp only [c1]
        exact L_2 (op_fair hr _) ih
      have q17 : f_law_17 L xs (f_law L xs k) (nI j) f m = some true := by
        unfold f_law_17
        simp only [c1, c2, c3]
        exact L_2 (op_meet hr _ _ _) ih
      have q18 : f_law_18 L xs (f_law L xs k) (nI j) f m = some true := by
        unfold f_law_18
        simp only [c1, c2, c3]
        exact L_2 (op_springs hr _ _ _) ih
      have q19 : f_law_19 L xs (f_law L xs k) (nI j) f m = some true := by
        unfold f_law_19
        simp only [c1, c2, c3, c4]
        exact L_2 (op_often hr _ _ _ _) ih
      have q20 : f_law_20 L xs (f_law L xs k) (nI j) f m = some true := by
        unfold f_law_20
        simp only [c1, c2]
        exact L_2 (op_enough hr _ _) ih
      have q21 : f_law_21 L xs (f_law L xs k) (nI j) f m = some true := by
        unfold f_law_21
        simp only [c1]
        exact L_2 (op_best hr _) ih
      have q22 : f_law_22 L xs (f_law L xs k) (nI j) f m = some true := by
        unfold f_law_22
        simp only [c1, c2]
        exact L_2 (op_bars hr _ _) ih
      have q23 : f_law_23 L xs (f_law L xs k) (nI j) f m = some true := by
        unfold f_law_23
        simp only [c1]
        exact L_2 (op_image hr _) ih
      have q24 : f_law_24 L xs (f_law L xs k) (nI j) f m = some true := by
        unfold f_law_24
        simp only [c1]
        exact L_2 (op_restore hr _) ih
      have q25 : f_law_25 L xs (f_law L xs k) (nI j) f m = some true := by
        unfold f_law_25
        simp only [c1]
        exact L_1 (op_count hr _) (ih f m hr)
      exact ite_t q0 ( ite_t q1 ( ite_t q2 ( ite_t q3 ( ite_t q4 ( ite_t q5 ( ite_t q6 ( ite_t q7 ( ite_t q8 ( ite_t q9 ( ite_t q10 ( ite_t q11 ( ite_t q12 ( ite_t q13 ( ite_t q14 ( ite_t q15 ( ite_t q16 ( ite_t q17 ( ite_t q18 ( ite_t q19 ( ite_t q20 ( ite_t q21 ( ite_t q22 ( ite_t q23 ( ite_t q24 ( ite_t q25 (ih f m hr))))))))))))))))))))))))))
theorem fr_pure (L : Nat) (xs : Nat → Int32) (hL : L ≤ 2560) : ∃ k, f_law L xs k 0 (fun _ _ => 0) (fun _ _ => 0) = some true := ⟨L + 6, law_step hL (L + 6) 0 _ _ RR_0 (by omega) (by omega)⟩
