/-! a feast told by the book -/
theorem tell35 {n : fr_N} {F : Nat} (h : n 35 1 = nI F) (hF : F < 12) (a b c d : Int32) : fX1_tellFeast_35 a b c d n = some (fr_up (fr_up (fr_up (fr_up (fr_up n 37 (4 * F) a) 37 (4 * F + 1) b) 37 (4 * F + 2) c) 37 (4 * F + 3) d) 35 1 (nI (F + 1))) := by
  have e : ∀ u, u ≤ 3 → nI F * 4 + nI u = nI (4 * F + u) := fun u hu => by
    rw [show (4 : Int32) = nI 4 from rfl, pk_mul, nI_add]
    congr 1
    omega
  have e0 : nI F * 4 + 0 = nI (4 * F) := e 0 (by omega)
  have e1 : nI F * 4 + 1 = nI (4 * F + 1) := e 1 (by omega)
  have e2 : nI F * 4 + 2 = nI (4 * F + 2) := e 2 (by omega)
  have e3 : nI F * 4 + 3 = nI (4 * F + 3) := e 3 (by omega)
  unfold fX1_tellFeast_35
  rw [h, if_pos (by rw [fa_lt, nI_toInt (by omega)]; show _ < (12 : Int); omega), e0, e1, e2, e3, sp_ck (by omega) (by omega), sp_lt, sp_ck (by omega) (by omega), sp_lt, sp_ck (by omega) (by omega), sp_lt, sp_ck (by omega) (by omega), sp_lt, sp_lt, nI_clamp (by omega), nI_clamp (by omega), nI_clamp (by omega), nI_clamp (by omega)]
  rw [sp_up_cell _ _ _ (show (35 : Nat) ≠ 37 by omega), sp_up_cell _ _ _ (show (35 : Nat) ≠ 37 by omega), sp_up_cell _ _ _ (show (35 : Nat) ≠ 37 by omega), sp_up_cell _ _ _ (show (35 : Nat) ≠ 37 by omega), h, nI_1]
theorem puts2 {n : fr_N} {F : Nat} (h : n 2 6 = nI F) (hF : F < 12) (a b c d : Int32) : fX8_puts_54 a b c d n = some (fr_up (fr_up (fr_up (fr_up (fr_up n 2 (9 + 4 * F) a) 2 (9 + 4 * F + 1) b) 2 (9 + 4 * F + 2) c) 2 (9 + 4 * F + 3) d) 2 6 (nI (F + 1))) := by
  have e : (9 : Int32) + (4 : Int32) * nI F = nI (9 + 4 * F) := by
    rw [show (4 : Int32) = nI 4 from rfl, show (9 : Int32) = nI 9 from rfl, pk_mul, nI_add]
  have e1 : nI (9 + 4 * F) + 1 = nI (9 + 4 * F + 1) := nI_add _ 1
  have e2 : nI (9 + 4 * F) + 2 = nI (9 + 4 * F + 2) := nI_add _ 2
  have e3 : nI (9 + 4 * F) + 3 = nI (9 + 4 * F + 3) := nI_add _ 3
  unfold fX8_puts_54
  rw [h, e, e1, e2, e3, sp_ck (by omega) (by omega), sp_lt, sp_ck (by omega) (by omega), sp_lt, sp_ck (by omega) (by omega), sp_lt, sp_ck (by omega) (by omega), sp_lt, sp_lt, nI_clamp (by omega), nI_clamp (by omega), nI_clamp (by omega), nI_clamp (by omega)]
  rw [sp_up_slot _ _ _ (show (6 : Nat) ≠ 9 + 4 * F + 3 by omega), sp_up_slot _ _ _ (show (6 : Nat) ≠ 9 + 4 * F + 2 by omega), sp_up_slot _ _ _ (show (6 : Nat) ≠ 9 + 4 * F + 1 by omega), sp_up_slot _ _ _ (show (6 : Nat) ≠ 9 + 4 * F by omega), h, nI_1]
theorem VP_feast {D : Nat → Nat} (h : VP D) (h12 : D 6 < 12) (h7 : D 7 = 0) {a b c d : Nat} (hc : cB a b c d) : VP (mB D a b c d) := by
  obtain ⟨v0, v1, v2, v3, v4, v5, v6, v7, v8⟩ := h
  obtain ⟨m0, m1, m2, m3⟩ := mB_m D a b c d
  have e : ∀ i, i ≠ 6 → (i < 9 ∨ 57 ≤ i) → mB D a b c d i = D i := fun i hi h => mB_n _ _ _ _ _ hi (by omega)
  obtain ⟨c1, ⟨c2, c2'⟩, c3, c4⟩ := hc
  unfold VP
  rw [e 0 (by omega) (by omega), e 1 (by omega) (by omega), e 2 (by omega) (by omega), e 5 (by omega) (by omega), e 7 (by omega) (by omega), mB_6]
  refine ⟨fun x => ?_, v1, v2, v3, v4, by omega, v6, fun x hx => ?_, fun z hz => absurd hz (by omega)⟩
  · unfold mB uB
    repeat' split
    all_goals first | exact v0 x | omega
  · by_cases hx6 : x = D 6
    · subst hx6
      rw [m0, m1, m2, m3]
      omega
    · rw [mB_n _ _ _ _ _ (show 9 + 4 * x ≠ 6 by omega) (by omega), mB_n _ _ _ _ _ (show 9 + 4 * x + 1 ≠ 6 by omega) (by omega), mB_n _ _ _ _ _ (show 9 + 4 * x + 2 ≠ 6 by omega) (by omega), mB_n _ _ _ _ _ (show 9 + 4 * x + 3 ≠ 6 by omega) (by omega)]
      exact v7 x (by omega)
theorem DR_feast {f m : fr_N} {D : Nat → Nat} (h : DR f m 3 D) (h6 : D 6 < 12) (h7 : D 7 = 0) (a b c d : Nat) : DR (fr_up (fr_up (fr_up (fr_up (fr_up f 37 (4 * D 6) (nI a)) 37 (4 * D 6 + 1) (nI b)) 37 (4 * D 6 + 2) (nI c)) 37 (4 * D 6 + 3) (nI d)) 35 1 (nI (D 6 + 1))) (fr_up (fr_up (fr_up (fr_up (fr_up m 2 (9 + 4 * D 6) (nI a)) 2 (9 + 4 * D 6 + 1) (nI b)) 2 (9 + 4 * D 6 + 2) (nI c)) 2 (9 + 4 * D 6 + 3) (nI d)) 2 6 (nI (D 6 + 1))) 3 (mB D a b c d) := by
  obtain ⟨d1, d2, d3, d4, d5, d6, d7⟩ := h
  obtain ⟨x0, x1, x2, x3⟩ := mB_m D a b c d
  have e : ∀ i, i ≠ 6 → (i < 9 ∨ 57 ≤ i) → mB D a b c d i = D i := fun i hi h => mB_n _ _ _ _ _ hi (by omega)
  have far : ∀ e, e ≠ 35 → e ≠ 37 → (fr_up (fr_up (fr_up (fr_up (fr_up f 37 (4 * D 6) (nI a)) 37 (4 * D 6 + 1) (nI b)) 37 (4 * D 6 + 2) (nI c)) 37 (4 * D 6 + 3) (nI d)) 35 1 (nI (D 6 + 1))) e = f e := fun e he1 he2 => by
    rw [sp_up_cell _ _ _ he1, sp_up_cell _ _ _ he2, sp_up_cell _ _ _ he2, sp_up_cell _ _ _ he2, sp_up_cell _ _ _ he2]
  refine ⟨?_, ?_, fun i hi => ?_, fun i hi => ?_, fun z hz => ?_, fun x hx => ?_, MB_up2 (MB_up2 (MB_up2 (MB_up2 (MB_up2 d7))))⟩
  · rw [sp_up_same, mB_6]
  · rw [sp_up_slot _ _ _ (by omega), sp_up_cell _ _ _ (by omega), sp_up_cell _ _ _ (by omega), sp_up_cell _ _ _ (by omega), sp_up_cell _ _ _ (by omega), e 7 (by omega) (by omega)]; exact d2
  · rw [far 36 (by omega) (by omega), e i (by omega) (by omega)]; exact d3 i hi
  · rw [mB_6] at hi
    rw [sp_up_cell _ _ _ (by omega)]
    by_cases i3 : i = 4 * D 6 + 3
    · subst i3; rw [sp_up_same, show 9 + (4 * D 6 + 3) = 9 + 4 * D 6 + 3 by omega, x3]
    rw [sp_up_slot _ _ _ i3]
    by_cases i2 : i = 4 * D 6 + 2
    · subst i2; rw [sp_up_same, show 9 + (4 * D 6 + 2) = 9 + 4 * D 6 + 2 by omega, x2]
    rw [sp_up_slot _ _ _ i2]
    by_cases i1 : i = 4 * D 6 + 1
    · subst i1; rw [sp_up_same, show 9 + (4 * D 6 + 1) = 9 + 4 * D 6 + 1 by omega, x1]
    rw [sp_up_slot _ _ _ i1]
    by_cases i0 : i = 4 * D 6
    · subst i0; rw [sp_up_same, x0]
    rw [sp_up_slot _ _ _ i0, mB_n _ _ _ _ _ (by omega) (by omega)]
    exact d4 i (by omega)
  · rw [e 7 (by omega) (by omega), h7] at hz
    exact absurd hz (by omega)
  · rw [far 41 (by omega) (by omega), far 42 (by omega) (by omega), e (69 + 2 * x) (by omega) (by omega), e (69 + 2 * x + 1) (by omega) (by omega)]
    exact d6 x hx
theorem D_f50 {m : fr_N} (h : ¬ m 0 12 = 0) (x s : Int32) (b : Bool) : fX8_readsFeast_50 x s b m = some m := by
  unfold fX8_readsFeast_50
  rw [D_number h, sp_bd2, D_number h, sp_bd2, D_number h, sp_bd2, if_neg h]
theorem D_f22 {m : fr_N} (h : ¬ m 0 12 = 0) (x : Int32) : fX8_readsFeast_22 x m = some m := by
  unfold fX8_readsFeast_22 fX8_readsFeast_37
  rw [D_goes h, sp_bd, D_f50 h, D_f50 h, D_f50 h, D_f50 h]
  split <;> rfl
def kk (c : Nat) : Nat := if c = 98 then 1 else if c = 102 then 2 else if c = 110 then 3 else if c = 100 then 4 else 0
theorem kk_bd (c : Nat) : kk c ≤ 4 ∧ (kk c ≠ 0 → 97 ≤ c ∧ c ≤ 122) := by
  unfold kk
  split
  · omega
  split
  · omega
  split
  · omega
  split
  · omega
  · exact ⟨by omega, fun z => absurd rfl z⟩
theorem F_kind {c : Nat} (hc : c < 256) : fX4_kindOf (nI c) = some (nx (kk c)) := by
  unfold fX4_kindOf kk
  by_cases h1 : c = 98
  · rw [if_pos (show nI c = 98 by rw [h1]; rfl), if_pos h1]; rfl
  · rw [if_neg (show ¬ nI c = 98 from fun z => h1 ((nI_eq (b := 98) (by omega) (by omega)).mp z)), if_neg h1]
    by_cases h2 : c = 100
    · rw [if_pos (show nI c = 100 by rw [h2]; rfl), if_neg (by omega), if_neg (by omega), if_pos h2]; rfl
    · rw [if_neg (show ¬ nI c = 100 from fun z => h2 ((nI_eq (b := 100) (by omega) (by omega)).mp z)), if_neg h2]
      by_cases h3 : c = 102
      · rw [if_pos (show nI c = 102 by rw [h3]; rfl), if_pos h3]; rfl
      · rw [if_neg (show ¬ nI c = 102 from fun z => h3 ((nI_eq (b := 102) (by omega) (by omega)).mp z)), if_neg h3]
        by_cases h4 : c = 110
        · rw [if_pos (show nI c = 110 by rw [h4]; rfl), if_pos h4]; rfl
        · rw [if_neg (show ¬ nI c = 110 from fun z => h4 ((nI_eq (b := 110) (by omega) (by omega)).mp z)), if_neg h4]; rfl
theorem M_sort {m : fr_N} {t : Nat} {T : Nat → Nat} {p : Nat} (hT : ∀ i, i < t → T i < 256) (h : TS m t T p) : fX8_sort m = some (nx (if p < t then kk (T p) else 0)) := by
  unfold fX8_sort
  rw [show fX8_isLetter 98 m = _ from (M_isLetter (c := 98) hT h (by omega)).1, sp_bd, show fX8_isLetter 102 m = _ from (M_isLetter (c := 102) hT h (by omega)).1, sp_bd, show fX8_isLetter 110 m = _ from (M_isLetter (c := 110) hT h (by omega)).1, sp_bd, show fX8_isLetter 100 m = _ from (M_isLetter (c := 100) hT h (by omega)).1, sp_bd]
  by_cases hp : p < t
  · rw [if_pos hp]
    unfold kk
    by_cases h1 : T p = 98
    · rw [decide_eq_true ⟨hp, h1⟩, if_pos rfl, if_pos h1]; rfl
    · rw [show decide (p < t ∧ T p = 98) = false from decide_eq_false (fun z => h1 z.2), if_neg Bool.false_ne_true, if_neg h1]
      by_cases h2 : T p = 102
      · rw [decide_eq_true ⟨hp, h2⟩, if_pos rfl, if_pos h2]; rfl
      · rw [show decide (p < t ∧ T p = 102) = false from decide_eq_false (fun z => h2 z.2), if_neg Bool.false_ne_true, if_neg h2]
        by_cases h3 : T p = 110
        · rw [decide_eq_true ⟨hp, h3⟩, if_pos rfl, if_pos h3]; rfl
        · rw [show decide (p < t ∧ T p = 110) = false from decide_eq_false (fun z => h3 z.2), if_neg Bool.false_ne_true, if_neg h3]
          by_cases h4 : T p = 100
          · rw [decide_eq_true ⟨hp, h4⟩, if_pos rfl, if_pos h4]; rfl
          · rw [show decide (p < t ∧ T p = 100) = false from decide_eq_false (fun z => h4 z.2), if_neg Bool.false_ne_true, if_neg h4]; rfl
  · rw [if_neg hp, show decide (p < t ∧ T p = 98) = false from decide_eq_false (fun z => hp z.1), if_neg Bool.false_ne_true, show decide (p < t ∧ T p = 102) = false from decide_eq_false (fun z => hp z.1), if_neg Bool.false_ne_true, show decide (p < t ∧ T p = 110) = false from decide_eq_false (fun z => hp z.1), if_neg Bool.false_ne_true, show decide (p < t ∧ T p = 100) = false from decide_eq_false (fun z => hp z.1), if_neg Bool.false_ne_true]; rfl
theorem both_feast {f m : fr_N} {t : Nat} {T : Nat → Nat} {p kd : Nat} {D : Nat → Nat} (h : RN f m t T p) (hD : DR f m 3 D) (hV : VP D) (hpt : p < t) (hl : 97 ≤ T p ∧ T p ≤ 122) (hkd : kd ≤ 3) (h6 : D 6 < 12) (h7 : D 7 = 0) :
    (∃ p' f' m' D', fX4_oneFeast (nI kd) f = some (true, f') ∧ fX8_readsFeast_22 (nI kd) m = some m' ∧ RN f' m' t T p' ∧ DR f' m' 3 D' ∧ VP D' ∧ D' 6 = D 6 + 1 ∧ D' 7 = 0 ∧ EF f f' ∧ EM m m') ∨
    (∃ f' m', fX4_oneFeast (nI kd) f = some (false, f') ∧ fX8_readsFeast_22 (nI kd) m = some m' ∧ FA f' m' ∧ EF f f' ∧ EM m m') := by
  obtain ⟨h2, hp, hTS⟩ := id h
  have h160 := h2.1
  obtain ⟨l1, l2⟩ := M_isLetter (c := T p) h.bytes hTS hl
  obtain ⟨m0, g1, g2, g3⟩ := M_goes h2 hTS.1 (l2 ⟨hpt, rfl⟩) (show p + 1 ≤ t by omega)
  have x0 : XF f (fr_up f 34 2 (nI (p + 1))) := XF.up
  have r0 : RN (fr_up f 34 2 (nI (p + 1))) m0 t T (p + 1) := ⟨h2.read x0 g3, sp_up_same _ _ _ _, g2⟩
  have hD0 := hD.read x0 g3
  have hkI : (0 : Int) ≤ (nI kd).toInt ∧ (nI kd).toInt ≤ 3 := by rw [nI_toInt (by omega)]; omega
  have hlo := sp_least hkI
  have hgr := sp_greatest hkI
  rw [nI_toInt (by omega)] at hlo hgr
  have M22 : fX8_readsFeast_22 (nI kd) m = fr_bd2 (fX8_number (if (kd : Int) < 2 then 0 else 1) (if (kd : Int) < 2 then 99 else 365) 44 m0) fun r1 n3 => (fr_bd2 (fX8_number (1 : Int32) (5 : Int32) (44 : Int32) n3) fun r4 n6 => (fr_bd2 (fX8_number (1 : Int32) (6 : Int32) (59 : Int32) n6) fun r7 n9 => (if (n9 0 12) = 0 then fr_bd (fX8_puts_54 (nI kd) r1 r4 r7 n9) fun n13 => (some n13) else some n9))) := by
    unfold fX8_readsFeast_22 fX8_readsFeast_37 fX8_readsFeast_50
    rw [g1, sp_bd]
    by_cases hk2 : 2 ≤ kd
    · rw [if_pos (show (2 : Int32) ≤ nI kd from (n_le (a := 2) (by omega) (by omega)).mpr hk2), if_pos (show (2 : Int32) ≤ nI kd from (n_le (a := 2) (by omega) (by omega)).mpr hk2), if_neg (show ¬ (kd : Int) < 2 by omega), if_neg (show ¬ (kd : Int) < 2 by omega)]
      rfl
    · rw [if_neg (show ¬ (2 : Int32) ≤ nI kd from fun z => hk2 ((n_le (a := 2) (by omega) (by omega)).mp z)), if_neg (show ¬ (2 : Int32) ≤ nI kd from fun z => hk2 ((n_le (a := 2) (by omega) (by omega)).mp z)), if_pos (show (kd : Int) < 2 by omega), if_pos (show (kd : Int) < 2 by omega)]
      rfl
  rw [M22]
  unfold fX4_oneFeast
  rw [sp_lt, hp, nI_1, hlo, sp_bd, hgr, sp_bd]
  rcases both_number (s := 44) r0 (Or.inl rfl) (if (kd : Int) < 2 then 0 else 1) (if (kd : Int) < 2 then 99 else 365) with ⟨p1, a, f1, m1, a1, a2, a3, a4, a5, a6, a7, a8⟩ | ⟨r, f1, m1, a1, a2, a3, a4, a5⟩
  · rw [show fX4_number _ _ 44 _ = _ from a1, show fX8_number _ _ 44 m0 = _ from a2, sp_bd2, if_pos rfl, sp_bd2, a3]
    have hxf := x0.trans a7
    have hxm := g3.trans a8
    rcases both_number (s := 44) a6 (Or.inl rfl) 1 5 with ⟨p2, b, f2, m2, b1, b2, b3, b4, b5, b6, b7, b8⟩ | ⟨r, f2, m2, b1, b2, b3, b4, b5⟩
    · rw [show fX4_number 1 5 44 _ = _ from b1, show fX8_number 1 5 44 m1 = _ from b2, sp_bd2, if_pos rfl, sp_bd2, b3]
      rcases both_number (s := 59) b6 (Or.inr rfl) 1 6 with ⟨p3, c, f3, m3, c1, c2, c3, c4, c5, c6, c7, c8⟩ | ⟨r, f3, m3, c1, c2, c3, c4, c5⟩
      · have hD3 := ((hD0.read a7 a8).read b7 b8).read c7 c8
        rw [show fX4_number 1 6 59 _ = _ from c1, show fX8_number 1 6 59 m2 = _ from c2, sp_bd2, if_pos rfl, sp_bd2, if_pos c6.2.2.1, c3, tell35 hD3.1 h6, sp_bd, puts2 (hD3.2.2.2.2.2.2 6 (by omega)) h6, sp_bd]
        have hcB : cB kd a b c := by
          refine ⟨by omega, ⟨fun z => ?_, fun z => ?_⟩, ?_, ?_⟩
          · rw [if_pos z, if_pos z] at a5
            exact a5
          · rw [if_neg (by omega), if_neg (by omega)] at a5
            exact a5
          · exact b5
          · exact c5
        refine Or.inl ⟨p3, _, _, mB D kd a b c, rfl, rfl, c6.put (fun c hc => ?_) (fun c hc => ?_), DR_feast hD3 h6 h7 kd a b c, VP_feast hV h6 h7 hcB, mB_6 _ _ _ _ _, ?_, (((hxf.trans b7).trans c7).ef).trans (fun c hc => ?_), (((hxm.trans b8).trans c8).em).trans (EM.of2 fun c hc => ?_)⟩
        · rw [sp_up_cell _ _ _ (by omega), sp_up_cell _ _ _ (by omega), sp_up_cell _ _ _ (by omega), sp_up_cell _ _ _ (by omega), sp_up_cell _ _ _ (by omega)]
        · rw [sp_up_cell _ _ _ hc, sp_up_cell _ _ _ hc, sp_up_cell _ _ _ hc, sp_up_cell _ _ _ hc, sp_up_cell _ _ _ hc]
        · rw [mB_n _ _ _ _ _ (by omega) (by omega)]; exact h7
        · rw [sp_up_cell _ _ _ (by omega), sp_up_cell _ _ _ (by omega), sp_up_cell _ _ _ (by omega), sp_up_cell _ _ _ (by omega), sp_up_cell _ _ _ (by omega)]
        · rw [sp_up_cell _ _ _ hc, sp_up_cell _ _ _ hc, sp_up_cell _ _ _ hc, sp_up_cell _ _ _ hc, sp_up_cell _ _ _ hc]
      · rw [show fX4_number 1 6 59 _ = _ from c1, show fX8_number 1 6 59 m2 = _ from c2, sp_bd2, if_neg Bool.false_ne_true, sp_bd2, if_neg c3.dead]
        exact Or.inr ⟨f3, m3, rfl, rfl, c3, ((hxf.trans b7).trans c4).ef, ((hxm.trans b8).trans c5).em⟩
    · rw [show fX4_number 1 5 44 _ = _ from b1, show fX8_number 1 5 44 m1 = _ from b2, sp_bd2, if_neg Bool.false_ne_true, sp_bd2, D_number b3.dead, sp_bd2, if_neg b3.dead]
      exact Or.inr ⟨f2, m2, rfl, rfl, b3, (hxf.trans b4).ef, (hxm.trans b5).em⟩
  · rw [show fX4_number _ _ 44 _ = _ from a1, show fX8_number _ _ 44 m0 = _ from a2, sp_bd2, if_neg Bool.false_ne_true, sp_bd2, D_number a3.dead, sp_bd2, D_number a3.dead, sp_bd2, if_neg a3.dead]
    exact Or.inr ⟨f1, m1, rfl, rfl, a3, (x0.trans a4).ef, (g3.trans a5).em⟩
theorem T_feasts {t : Nat} {T : Nat → Nat} : ∀ (k k' p : Nat) (f m : fr_N) (D : Nat → Nat), RN f m t T p → DR f m 3 D → VP D → D 7 = 0 → 12 - D 6 < k → 13 - D 6 < k' → RES f m (zF k (nI (D 6)) f) (fX8_readsAll_50 k' m)
  | 0, _, _, _, _, _, _, _, _, _, hk, _ => absurd hk (by omega)
  | _, 0, _, _, _, _, _, _, _, _, _, hk => absurd hk (by omega)
  | k + 1, k' + 1, p, f, m, D, h, hD, hV, h7, hk, hk' => by
    obtain ⟨h2, hp, hTS⟩ := id h
    have h160 := h2.1
    have v6 := hV.2.2.2.2.2.1
    have hpt := hTS.2.2.1
    have hK : fX4_kindOf (if p < t then nI (T p) else -1000000) = some (nx (if p < t then kk (T p) else 0)) := by
      by_cases hq : p < t
      · rw [if_pos hq, if_pos hq]; exact F_kind (h2.2.2.2 p hq).2.2
      · rw [if_neg hq, if_neg hq]; rfl
    have hkb : (if p < t then kk (T p) else 0) ≤ 4 := by
      split
      · exact (kk_bd _).1
      · omega
    rw [fX8_readsAll_50, M_sort h.bytes hTS, sp_bd]
    unfold zF
    rw [fX4_feasts_2, if_neg (show ¬ (12 : Int32) < nI (D 6) from fun z => by have := (n_lt (a := 12) (by omega) (by omega)).mp z; omega), hp, F_at h2 (by omega), sp_bd, hK, sp_bd, hD.1, nI_1]
    by_cases h0 : (if p < t then kk (T p) else 0) = 0
    · rw [h0, if_pos (show nx 0 = -1000000 from rfl), if_pos (show nx 0 = -1000000 from rfl), sp_bd2, if_pos rfl]
      have := T_seasons 2000 2000 p f m D h hD hV (by omega) (by omega)
      rw [h7] at this
      exact this
    · have hpt2 : p < t := by
        by_cases hq : p < t
        · exact hq
        · rw [if_neg hq] at h0; exact absurd rfl h0
      have nn : ¬ nx (if p < t then kk (T p) else 0) = -1000000 := fun z => h0 ((nx_iff (by omega)).mp z)
      rw [if_neg nn, if_neg nn]
      unfold fX8_readsFeast
      rw [M_sort h.bytes hTS, sp_bd, show m 2 6 = nI (D 6) from hD.2.2.2.2.2.2 6 (by omega)]
      rw [if_pos hpt2] at h0 hkb ⊢
      obtain ⟨kd, hkd⟩ : ∃ kd, kk (T p) = kd + 1 := ⟨kk (T p) - 1, by omega⟩
      rw [hkd, nx_s]
      by_cases h6 : D 6 < 12
      · rw [if_pos (show nI (D 6) < 12 from (n_lt (b := 12) (by omega) (by omega)).mpr h6), if_neg (show ¬ nI (D 6) = 12 from fun z => by have := (nI_eq (b := 12) (by omega) (by omega)).mp z; omega)]
        rcases both_feast (kd := kd) h hD hV hpt2 ((kk_bd _).2 h0) (by omega) h6 h7 with ⟨p1, f1, m1, D1, a1, a2, a3, a4, a5, a6, a7, a8, a9⟩ | ⟨f1, m1, a1, a2, a3, a4, a5⟩
        · rw [a1, a2, sp_bd2, if_pos rfl, sp_bd, ← a6]
          exact RES.behind a8 a9 (T_feasts k k' p1 f1 m1 D1 a3 a4 a5 a7 (by omega) (by omega))
        · obtain ⟨k2, rfl⟩ : ∃ k2, k' = k2 + 1 := ⟨k' - 1, by omega⟩
          rw [a1, a2, sp_bd2, if_neg Bool.false_ne_true, sp_bd, sp_bd2, if_neg Bool.false_ne_true]
          exact RES.fail a4 a5 a3 (D_50 a3.dead k2)
      · obtain ⟨f1, g1, g2, g3, g4⟩ := F_fail hp 3
        obtain ⟨m1, j1, j2, j3, j4⟩ := M_bad hTS.1 hTS.2.1 3
        have hdead : ¬ m1 0 12 = 0 := by rw [j2]; decide
        obtain ⟨k2, rfl⟩ : ∃ k2, k' = k2 + 1 := ⟨k' - 1, by omega⟩
        rw [if_neg (show ¬ nI (D 6) < 12 from fun z => h6 ((n_lt (b := 12) (by omega) (by omega)).mp z)), if_pos (show nI (D 6) = 12 by rw [show D 6 = 12 by omega]; rfl), g1, sp_bd2, sp_bd2, if_neg Bool.false_ne_true, j1, sp_bd, D_f22 hdead, sp_bd]
        exact RES.fail g4.ef j4.em ⟨3, p, by omega, by omega, by omega, g2, j2, g3, j3⟩ (D_50 hdead k2)
/-! the head -/
theorem D_H3 {m : fr_N} (h : ¬ m 0 12 = 0) (r : Int32) : ∃ m', (fr_lt (fr_up m 2 2 r) fun n => fX8_readsAll_50 2000 n) = some m' ∧ ∀ c, c ≠ 2 → m' c = m c := by
  rw [sp_lt]
  exact D_up (D_50 (d_up h) 1999)
theorem D_H2 {m : fr_N} (h : ¬ m 0 12 = 0) (r : Int32) : ∃ m', (fr_lt (fr_up m 2 1 r) fun n54 => fr_bd2 (fX8_number 0 6 59 n54) fun r56 n58 => fr_lt (fr_up n58 2 2 r56) fun n => fX8_readsAll_50 2000 n) = some m' ∧ ∀ c, c ≠ 2 → m' c = m c := by
  rw [sp_lt, D_number (d_up h), sp_bd2]
  exact D_up (D_H3 (d_up h) _)
theorem D_H1 {m : fr_N} (h : ¬ m 0 12 = 0) (r : Int32) : ∃ m', (fr_lt (fr_up m 2 0 r) fun n49 => fr_bd2 (fX8_number 0 29 44 n49) fun r51 n53 => fr_lt (fr_up n53 2 1 r51) fun n54 => fr_bd2 (fX8_number 0 6 59 n54) fun r56 n58 => fr_lt (fr_up n58 2 2 r56) fun n => fX8_readsAll_50 2000 n) = some m' ∧ ∀ c, c ≠ 2 → m' c = m c := by
  rw [sp_lt, D_number (d_up h), sp_bd2]
  exact D_up (D_H2 (d_up h) _)
theorem T_head {f m : fr_N} {t : Nat} {T : Nat → Nat} {p : Nat} {D : Nat → Nat} (h : RN f m t T p) (hD : DR f m 0 D) (hV : VP D) (h6 : D 6 = 0) (h7 : D 7 = 0) : RES f m (zH f) (fX8_readsAll m) := by
  unfold zH fX8_readsAll fX4_head
  rcases both_sign (c := 107) h (by omega) with ⟨p1, f1, m1, e1, e2, e3, e4, e5⟩ | ⟨f1, m1, e1, e2, e3, e4, e5⟩
  · rw [show fX4_sign 107 f = _ from e1, show fX8_letter 107 m = _ from e2, sp_bd2, if_pos rfl, sp_bd]
    refine RES.behind e4.ef e5.em ?_
    rcases both_lawN (q := 0) (s := 44) e3 (hD.read e4 e5) hV (by omega) (Or.inl rfl) with ⟨p2, v, f2, m2, b1, b2, b3, b4, b5, b6, b7, b8, b9⟩ | ⟨r, f2, m2, b1, b2, b3, b4, b5⟩
    · rw [show fX4_lawNumber 0 44 f1 = _ from b1, show fX8_number 0 2 44 m1 = _ from b2, sp_bd2, if_pos rfl, sp_bd2, sp_lt]
      refine RES.behind b7 b8 ?_
      rcases both_lawN (q := 1) (s := 44) b3 b4 b5 (by omega) (Or.inl rfl) with ⟨p3, w, f3, m3, c1, c2, c3, c4, c5, c6, c7, c8, c9⟩ | ⟨r, f3, m3, c1, c2, c3, c4, c5⟩
      · rw [show fX4_lawNumber 1 44 f2 = _ from c1, show fX8_number 0 29 44 (fr_up m2 2 0 (nI v)) = _ from c2, sp_bd2, if_pos rfl, sp_bd2, sp_lt]
        refine RES.behind c7 c8 ?_
        rcases both_lawN (q := 2) (s := 59) c3 c4 c5 (by omega) (Or.inr rfl) with ⟨p4, u, f4, m4, d1, d2, d3, d4, d5, d6, d7, d8, d9⟩ | ⟨r, f4, m4, d1, d2, d3, d4, d5⟩
        · rw [show fX4_lawNumber 2 59 f3 = _ from d1, show fX8_number 0 6 59 (fr_up m3 2 1 (nI w)) = _ from d2, sp_bd2, if_pos rfl, sp_bd2, if_pos rfl, sp_bd2, sp_lt]
          have q6 : uB (uB (uB D 0 v) 1 w) 2 u 6 = 0 := by rw [uB_n _ _ (by omega), uB_n _ _ (by omega), uB_n _ _ (by omega)]; exact h6
          have q7 : uB (uB (uB D 0 v) 1 w) 2 u 7 = 0 := by rw [uB_n _ _ (by omega), uB_n _ _ (by omega), uB_n _ _ (by omega)]; exact h7
          have := T_feasts 2000 2000 p4 _ _ _ d3 d4 d5 q7 (by omega) (by omega)
          rw [q6] at this
          exact RES.behind d7 d8 this
        · rw [show fX4_lawNumber 2 59 f3 = _ from d1, show fX8_number 0 6 59 (fr_up m3 2 1 (nI w)) = _ from d2, sp_bd2, if_neg Bool.false_ne_true, sp_bd2, if_neg Bool.false_ne_true, sp_bd2]
          exact RES.fail d4 d5 d3 (D_H3 d3.dead r)
      · rw [show fX4_lawNumber 1 44 f2 = _ from c1, show fX8_number 0 29 44 (fr_up m2 2 0 (nI v)) = _ from c2, sp_bd2, if_neg Bool.false_ne_true, sp_bd2, if_neg Bool.false_ne_true, sp_bd2]
        exact RES.fail c4 c5 c3 (D_H2 c3.dead r)
    · rw [show fX4_lawNumber 0 44 f1 = _ from b1, show fX8_number 0 2 44 m1 = _ from b2, sp_bd2, if_neg Bool.false_ne_true, sp_bd2, if_neg Bool.false_ne_true, sp_bd2]
      exact RES.fail b4 b5 b3 (D_H1 b3.dead r)
  · rw [show fX4_sign 107 f = _ from e1, show fX8_letter 107 m = _ from e2, sp_bd2, if_neg Bool.false_ne_true, sp_bd2, if_neg Bool.false_ne_true, sp_bd]
    refine RES.fail e4.ef e5.em e3 ?_
    rw [D_number e3.dead, sp_bd2]
    exact D_H1 e3.dead _
