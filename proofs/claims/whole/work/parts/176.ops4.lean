/-! add, undo, image, restore -/
theorem tell3 {n : fr_N} {F : Nat} (h : n 3 1 = nI F) (hF : F < 12) (a b c d : Int32) : fX1_tellFeast_3 a b c d n = some (fr_up (fr_up (fr_up (fr_up (fr_up n 5 (4 * F) a) 5 (4 * F + 1) b) 5 (4 * F + 2) c) 5 (4 * F + 3) d) 3 1 (nI (F + 1))) := by
  have e : ∀ u, u ≤ 3 → nI F * 4 + nI u = nI (4 * F + u) := fun u hu => by
    rw [show (4 : Int32) = nI 4 from rfl, pk_mul, nI_add]
    congr 1
    omega
  have e0 : nI F * 4 + 0 = nI (4 * F) := e 0 (by omega)
  have e1 : nI F * 4 + 1 = nI (4 * F + 1) := e 1 (by omega)
  have e2 : nI F * 4 + 2 = nI (4 * F + 2) := e 2 (by omega)
  have e3 : nI F * 4 + 3 = nI (4 * F + 3) := e 3 (by omega)
  unfold fX1_tellFeast_3
  rw [h, if_pos (by rw [fa_lt, nI_toInt (by omega)]; show _ < (12 : Int); omega), e0, e1, e2, e3, sp_ck (by omega) (by omega), sp_lt, sp_ck (by omega) (by omega), sp_lt, sp_ck (by omega) (by omega), sp_lt, sp_ck (by omega) (by omega), sp_lt, sp_lt, nI_clamp (by omega), nI_clamp (by omega), nI_clamp (by omega), nI_clamp (by omega)]
  rw [sp_up_cell _ _ _ (show (3 : Nat) ≠ 5 by omega), sp_up_cell _ _ _ (show (3 : Nat) ≠ 5 by omega), sp_up_cell _ _ _ (show (3 : Nat) ≠ 5 by omega), sp_up_cell _ _ _ (show (3 : Nat) ≠ 5 by omega), h, nI_1]
theorem puts1 {n : fr_N} {F : Nat} (h : n 1 6 = nI F) (hF : F < 12) (a b c d : Int32) : fX8_puts_53 a b c d n = some (fr_up (fr_up (fr_up (fr_up (fr_up n 1 (9 + 4 * F) a) 1 (9 + 4 * F + 1) b) 1 (9 + 4 * F + 2) c) 1 (9 + 4 * F + 3) d) 1 6 (nI (F + 1))) := by
  have e : (9 : Int32) + (4 : Int32) * nI F = nI (9 + 4 * F) := by
    rw [show (4 : Int32) = nI 4 from rfl, show (9 : Int32) = nI 9 from rfl, pk_mul, nI_add]
  have e1 : nI (9 + 4 * F) + 1 = nI (9 + 4 * F + 1) := nI_add _ 1
  have e2 : nI (9 + 4 * F) + 2 = nI (9 + 4 * F + 2) := nI_add _ 2
  have e3 : nI (9 + 4 * F) + 3 = nI (9 + 4 * F + 3) := nI_add _ 3
  unfold fX8_puts_53
  rw [h, e, e1, e2, e3, sp_ck (by omega) (by omega), sp_lt, sp_ck (by omega) (by omega), sp_lt, sp_ck (by omega) (by omega), sp_lt, sp_ck (by omega) (by omega), sp_lt, sp_lt, nI_clamp (by omega), nI_clamp (by omega), nI_clamp (by omega), nI_clamp (by omega)]
  rw [sp_up_slot _ _ _ (show (6 : Nat) ≠ 9 + 4 * F + 3 by omega), sp_up_slot _ _ _ (show (6 : Nat) ≠ 9 + 4 * F + 2 by omega), sp_up_slot _ _ _ (show (6 : Nat) ≠ 9 + 4 * F + 1 by omega), sp_up_slot _ _ _ (show (6 : Nat) ≠ 9 + 4 * F by omega), h, nI_1]
theorem op_add {f m : fr_N} (hr : RR f m) (a b c d : Int32) : OK (fX7_add a b c d f) (fX8_add a b c d m) := by
  obtain ⟨B, k, H, t, T, h1, h2, h3, h4, h5⟩ := id hr
  obtain ⟨hv, hF, hT, hM⟩ := id h1
  have h8 := hv.2.2.2.2.2.2.2.1
  have h6 := hv.2.2.2.2.2.1
  have e6 : m 1 6 = nI (B 6) := hM 6 (by omega)
  unfold fX7_add fX8_add
  rw [sp_isBook (show m 1 8 = nI (B 8) from hM 8 (by omega)) (by omega), sp_bd]
  by_cases hb : 0 < B 8
  · rw [if_neg (fun h => (told_iff h1).mp h hb), decide_eq_true hb, if_pos rfl]
    obtain ⟨z, hz1, hz2⟩ := sp_canBe a b c d
    rw [hz1, sp_bd, sp_in, sp_bd, sp_wide]
    by_cases hc : cB a.toInt b.toInt c.toInt d.toInt
    · obtain ⟨c1, c2, c3, c4⟩ := id hc
      rw [if_pos (hz2.mpr hc), decide_eq_true (show (0 : Int64).toInt ≤ a.toInt ∧ a.toInt ≤ (3 : Int64).toInt from c1), if_pos rfl, sp_isN, sp_bd, decide_eq_true c2, if_pos rfl, sp_in, sp_bd, sp_wide, decide_eq_true (show (1 : Int64).toInt ≤ c.toInt ∧ c.toInt ≤ (5 : Int64).toInt from c3), if_pos rfl, sp_in, sp_bd, sp_wide, decide_eq_true (show (1 : Int64).toInt ≤ d.toInt ∧ d.toInt ≤ (6 : Int64).toInt from c4), if_pos rfl, hF.1, e6]
      by_cases h12 : B 6 < 12
      · rw [if_pos (by rw [fa_lt, nI_toInt (by omega)]; show _ < (12 : Int); omega), if_neg (by rw [show (12 : Int32) = nI 12 from rfl, nI_eq (by omega) (by omega)]; omega)]
        obtain ⟨f1, g1, g2⟩ := sp_keep h3.1 h3.2.1 1 0 0 0
        obtain ⟨m1, g3, g4⟩ := sp_notes h3.1 h3.2.2.1
        have k1 : f1 3 1 = nI (B 6) := by rw [g2.1 3 (by omega)]; exact hF.1
        have k2 : m1 1 6 = nI (B 6) := by rw [g4.1 1 (by omega) (by omega)]; exact e6
        rw [g1, sp_bd, g3, sp_bd, tell3 k1 h12, sp_bd, puts1 k2 h12, sp_bd, sp_up_same, sp_up_same]
        obtain ⟨a', ha', rfl⟩ := sp_of (n := 3) c1.1 c1.2
        obtain ⟨b', hb', rfl⟩ := sp_of (x := b) (n := 365) (by omega) (by omega)
        obtain ⟨c', hc', rfl⟩ := sp_of (x := c) (n := 5) (by omega) (by omega)
        obtain ⟨d', hd', rfl⟩ := sp_of (x := d) (n := 6) (by omega) (by omega)
        rw [nI_toInt (by omega), nI_toInt (by omega), nI_toInt (by omega), nI_toInt (by omega)] at hc
        obtain ⟨x0, x1, x2, x3⟩ := mB_m B a' b' c' d'
        have hFB : FB (fr_up (fr_up (fr_up (fr_up (fr_up f1 5 (4 * B 6) (nI a')) 5 (4 * B 6 + 1) (nI b')) 5 (4 * B 6 + 2) (nI c')) 5 (4 * B 6 + 3) (nI d')) 3 1 (nI (B 6 + 1))) 3 (mB B a' b' c' d') := by
          obtain ⟨q1, q2, q3, q4, q5, q6, q7⟩ := hF.kept (n' := f1) (fun e a1 a2 => g2.1 e (by omega))
          have h7 := hv.2.2.2.2.2.2.1
          have e : ∀ i, i ≠ 6 → (i < 9 ∨ 57 ≤ i) → mB B a' b' c' d' i = B i := fun i hi h => mB_n _ _ _ _ _ hi (by omega)
          have far : ∀ e, e ≠ 3 → e ≠ 5 → (fr_up (fr_up (fr_up (fr_up (fr_up f1 5 (4 * B 6) (nI a')) 5 (4 * B 6 + 1) (nI b')) 5 (4 * B 6 + 2) (nI c')) 5 (4 * B 6 + 3) (nI d')) 3 1 (nI (B 6 + 1))) e = f1 e := fun e he1 he2 => by
            rw [sp_up_cell _ _ _ he1, sp_up_cell _ _ _ he2, sp_up_cell _ _ _ he2, sp_up_cell _ _ _ he2, sp_up_cell _ _ _ he2]
          have near : ∀ j, j ≠ 1 → (fr_up (fr_up (fr_up (fr_up (fr_up f1 5 (4 * B 6) (nI a')) 5 (4 * B 6 + 1) (nI b')) 5 (4 * B 6 + 2) (nI c')) 5 (4 * B 6 + 3) (nI d')) 3 1 (nI (B 6 + 1))) 3 j = f1 3 j := fun j hj => by
            rw [sp_up_slot _ _ _ hj, sp_up_cell _ _ _ (by omega), sp_up_cell _ _ _ (by omega), sp_up_cell _ _ _ (by omega), sp_up_cell _ _ _ (by omega)]
          refine ⟨?_, ?_, ?_, fun i hi => ?_, fun i hi => ?_, fun z hz => ?_, fun x hx => ?_⟩
          · rw [sp_up_same, mB_6]
          · rw [near 2 (by omega), e 7 (by omega) (by omega)]; exact q2
          · rw [near 3 (by omega), e 8 (by omega) (by omega)]; exact q3
          · rw [far 4 (by omega) (by omega), e i (by omega) (by omega)]; exact q4 i hi
          · rw [mB_6] at hi
            rw [sp_up_cell _ _ _ (by omega)]
            by_cases i3 : i = 4 * B 6 + 3
            · subst i3; rw [sp_up_same, show 9 + (4 * B 6 + 3) = 9 + 4 * B 6 + 3 by omega, x3]
            rw [sp_up_slot _ _ _ i3]
            by_cases i2 : i = 4 * B 6 + 2
            · subst i2; rw [sp_up_same, show 9 + (4 * B 6 + 2) = 9 + 4 * B 6 + 2 by omega, x2]
            rw [sp_up_slot _ _ _ i2]
            by_cases i1 : i = 4 * B 6 + 1
            · subst i1; rw [sp_up_same, show 9 + (4 * B 6 + 1) = 9 + 4 * B 6 + 1 by omega, x1]
            rw [sp_up_slot _ _ _ i1]
            by_cases i0 : i = 4 * B 6
            · subst i0; rw [sp_up_same, x0]
            rw [sp_up_slot _ _ _ i0, mB_n _ _ _ _ _ (by omega) (by omega)]
            exact q5 i (by omega)
          · rw [e 7 (by omega) (by omega)] at hz
            rw [far 6 (by omega) (by omega), far 7 (by omega) (by omega), far 8 (by omega) (by omega), e (57 + 3 * z) (by omega) (by omega), e (57 + 3 * z + 1) (by omega) (by omega), e (57 + 3 * z + 2) (by omega) (by omega)]
            exact q6 z hz
          · rw [far 9 (by omega) (by omega), far 10 (by omega) (by omega), e (69 + 2 * x) (by omega) (by omega), e (69 + 2 * x + 1) (by omega) (by omega)]
            exact q7 x hx
        refine ⟨_, _, _, rfl, rfl, RR_act h1 h2 h3 h4 h5 g2 g4 (B' := mB B a' b' c' d') (Or.inl ⟨rfl, mB_6 _ _ _ _ _, fun i hi1 hi2 => mB_n _ _ _ _ _ hi1 hi2⟩) (fun e he => ?_) (fun e he => ?_) ⟨VB_more hv hb h12 hc, hFB, ?_, MB_up (MB_up (MB_up (MB_up (MB_up (by rw [g4.1 1 (by omega) (by omega)]; exact hM)))))⟩⟩
        · rw [sp_up_cell _ _ _ (by omega), sp_up_cell _ _ _ (by omega), sp_up_cell _ _ _ (by omega), sp_up_cell _ _ _ (by omega), sp_up_cell _ _ _ (by omega)]
        · rw [sp_up_cell _ _ _ he, sp_up_cell _ _ _ he, sp_up_cell _ _ _ he, sp_up_cell _ _ _ he, sp_up_cell _ _ _ he]
        · rw [sp_up_slot _ _ _ (by omega), sp_up_cell _ _ _ (by omega), sp_up_cell _ _ _ (by omega), sp_up_cell _ _ _ (by omega), sp_up_cell _ _ _ (by omega), g2.1 3 (by omega), mB_n _ _ _ _ _ (by omega) (by omega)]
          exact hT
      · have : B 6 = 12 := by omega
        rw [this, if_neg (show ¬ nI 12 < 12 by decide), if_pos (show nI 12 = 12 from rfl)]
        exact OK.same hr
    · rw [if_neg (fun h => hc (hz2.mp h))]
      by_cases c1 : 0 ≤ a.toInt ∧ a.toInt ≤ 3
      · rw [decide_eq_true (show (0 : Int64).toInt ≤ a.toInt ∧ a.toInt ≤ (3 : Int64).toInt from c1), if_pos rfl, sp_isN, sp_bd]
        by_cases c2 : (a.toInt < 2 → 0 ≤ b.toInt ∧ b.toInt ≤ 99) ∧ (2 ≤ a.toInt → 1 ≤ b.toInt ∧ b.toInt ≤ 365)
        · rw [decide_eq_true c2, if_pos rfl, sp_in, sp_bd, sp_wide]
          by_cases c3 : 1 ≤ c.toInt ∧ c.toInt ≤ 5
          · rw [decide_eq_true (show (1 : Int64).toInt ≤ c.toInt ∧ c.toInt ≤ (5 : Int64).toInt from c3), if_pos rfl, sp_in, sp_bd, sp_wide, decide_eq_false (show ¬ ((1 : Int64).toInt ≤ d.toInt ∧ d.toInt ≤ (6 : Int64).toInt) from fun c4 => hc ⟨c1, c2, c3, c4⟩), if_neg (by decide)]
            exact OK.same hr
          · rw [decide_eq_false (show ¬ ((1 : Int64).toInt ≤ c.toInt ∧ c.toInt ≤ (5 : Int64).toInt) from c3), if_neg (by decide)]
            exact OK.same hr
        · rw [decide_eq_false c2, if_neg (by decide)]
          exact OK.same hr
      · rw [decide_eq_false (show ¬ ((0 : Int64).toInt ≤ a.toInt ∧ a.toInt ≤ (3 : Int64).toInt) from c1), if_neg (by decide)]
        exact OK.same hr
  · rw [if_pos ((told_iff h1).mpr hb), decide_eq_false hb, if_neg (by decide)]
    exact OK.same hr
/-! a Book becomes another -/
def gB (d s : Nat) (n0 : fr_N) : Option fr_N := fr_lt (fr_up n0 d 0 (fr_b true)) fun n1 => (fr_lt (fr_up n1 d 1 (n1 s 1)) fun n3 => (fr_lt (fr_up n3 d 2 (n3 s 2)) fun n5 => (fr_lt (fr_up n5 d 3 (n5 s 3)) fun n7 => (fr_lt (fr_cp n7 (s + 1) (d + 1) 0 0 6) fun n9 => (fr_lt (fr_cp n9 (s + 2) (d + 2) 0 0 48) fun n11 => (fr_lt (fr_cp n11 (s + 3) (d + 3) 0 0 4) fun n13 => (fr_lt (fr_cp n13 (s + 4) (d + 4) 0 0 4) fun n15 => (fr_lt (fr_cp n15 (s + 5) (d + 5) 0 0 4) fun n17 => (fr_lt (fr_cp n17 (s + 6) (d + 6) 0 0 5) fun n19 => (fr_lt (fr_cp n19 (s + 7) (d + 7) 0 0 5) fun n21 => (some n21)))))))))))
theorem gB_spec {n : fr_N} {B : Nat → Nat} {d s : Nat} (hds : s + 7 < d ∨ d + 7 < s) (hv : VB B) (h : FB n s B) : ∃ n', gB d s n = some n' ∧ FB n' d B ∧ n' d 0 = 1 ∧ ∀ c, (c < d ∨ d + 7 < c) → n' c = n c := by
  obtain ⟨h1, h2, h3, h4, h5, h6, h7⟩ := h
  have v6 := hv.2.2.2.2.2.1
  have v7 := hv.2.2.2.2.2.2.1
  unfold gB
  simp only [sp_lt]
  refine ⟨_, rfl, ⟨?_, ?_, ?_, fun i hi => ?_, fun i hi => ?_, fun z hz => ⟨?_, ?_, ?_⟩, fun c hc => ⟨?_, ?_⟩⟩, ?_, fun c hc => ?_⟩
  · rw [sp_cp_cell _ _ _ _ _ (by omega), sp_cp_cell _ _ _ _ _ (by omega), sp_cp_cell _ _ _ _ _ (by omega), sp_cp_cell _ _ _ _ _ (by omega), sp_cp_cell _ _ _ _ _ (by omega), sp_cp_cell _ _ _ _ _ (by omega), sp_cp_cell _ _ _ _ _ (by omega), sp_up_slot _ _ _ (by omega), sp_up_slot _ _ _ (by omega), sp_up_same, sp_up_cell _ _ _ (by omega)]
    exact h1
  · rw [sp_cp_cell _ _ _ _ _ (by omega), sp_cp_cell _ _ _ _ _ (by omega), sp_cp_cell _ _ _ _ _ (by omega), sp_cp_cell _ _ _ _ _ (by omega), sp_cp_cell _ _ _ _ _ (by omega), sp_cp_cell _ _ _ _ _ (by omega), sp_cp_cell _ _ _ _ _ (by omega), sp_up_slot _ _ _ (by omega), sp_up_same, sp_up_cell _ _ _ (by omega), sp_up_cell _ _ _ (by omega)]
    exact h2
  · rw [sp_cp_cell _ _ _ _ _ (by omega), sp_cp_cell _ _ _ _ _ (by omega), sp_cp_cell _ _ _ _ _ (by omega), sp_cp_cell _ _ _ _ _ (by omega), sp_cp_cell _ _ _ _ _ (by omega), sp_cp_cell _ _ _ _ _ (by omega), sp_cp_cell _ _ _ _ _ (by omega), sp_up_same, sp_up_cell _ _ _ (by omega), sp_up_cell _ _ _ (by omega), sp_up_cell _ _ _ (by omega)]
    exact h3
  · rw [sp_cp_cell _ _ _ _ _ (by omega), sp_cp_cell _ _ _ _ _ (by omega), sp_cp_cell _ _ _ _ _ (by omega), sp_cp_cell _ _ _ _ _ (by omega), sp_cp_cell _ _ _ _ _ (by omega), sp_cp_cell _ _ _ _ _ (by omega), sp_cp_same _ _ _ _ hi, sp_up_cell _ _ _ (by omega), sp_up_cell _ _ _ (by omega), sp_up_cell _ _ _ (by omega), sp_up_cell _ _ _ (by omega)]
    exact h4 i hi
  · rw [sp_cp_cell _ _ _ _ _ (by omega), sp_cp_cell _ _ _ _ _ (by omega), sp_cp_cell _ _ _ _ _ (by omega), sp_cp_cell _ _ _ _ _ (by omega), sp_cp_cell _ _ _ _ _ (by omega), sp_cp_same _ _ _ _ (by omega), sp_cp_cell _ _ _ _ _ (by omega), sp_up_cell _ _ _ (by omega), sp_up_cell _ _ _ (by omega), sp_up_cell _ _ _ (by omega), sp_up_cell _ _ _ (by omega)]
    exact h5 i hi
  · rw [sp_cp_cell _ _ _ _ _ (by omega), sp_cp_cell _ _ _ _ _ (by omega), sp_cp_cell _ _ _ _ _ (by omega), sp_cp_cell _ _ _ _ _ (by omega), sp_cp_same _ _ _ _ (by omega), sp_cp_cell _ _ _ _ _ (by omega), sp_cp_cell _ _ _ _ _ (by omega), sp_up_cell _ _ _ (by omega), sp_up_cell _ _ _ (by omega), sp_up_cell _ _ _ (by omega), sp_up_cell _ _ _ (by omega)]
    exact (h6 z hz).1
  · rw [sp_cp_cell _ _ _ _ _ (by omega), sp_cp_cell _ _ _ _ _ (by omega), sp_cp_cell _ _ _ _ _ (by omega), sp_cp_same _ _ _ _ (by omega), sp_cp_cell _ _ _ _ _ (by omega), sp_cp_cell _ _ _ _ _ (by omega), sp_cp_cell _ _ _ _ _ (by omega), sp_up_cell _ _ _ (by omega), sp_up_cell _ _ _ (by omega), sp_up_cell _ _ _ (by omega), sp_up_cell _ _ _ (by omega)]
    exact (h6 z hz).2.1
  · rw [sp_cp_cell _ _ _ _ _ (by omega), sp_cp_cell _ _ _ _ _ (by omega), sp_cp_same _ _ _ _ (by omega), sp_cp_cell _ _ _ _ _ (by omega), sp_cp_cell _ _ _ _ _ (by omega), sp_cp_cell _ _ _ _ _ (by omega), sp_cp_cell _ _ _ _ _ (by omega), sp_up_cell _ _ _ (by omega), sp_up_cell _ _ _ (by omega), sp_up_cell _ _ _ (by omega), sp_up_cell _ _ _ (by omega)]
    exact (h6 z hz).2.2
  · rw [sp_cp_cell _ _ _ _ _ (by omega), sp_cp_same _ _ _ _ (by omega), sp_cp_cell _ _ _ _ _ (by omega), sp_cp_cell _ _ _ _ _ (by omega), sp_cp_cell _ _ _ _ _ (by omega), sp_cp_cell _ _ _ _ _ (by omega), sp_cp_cell _ _ _ _ _ (by omega), sp_up_cell _ _ _ (by omega), sp_up_cell _ _ _ (by omega), sp_up_cell _ _ _ (by omega), sp_up_cell _ _ _ (by omega)]
    exact (h7 c hc).1
  · rw [sp_cp_same _ _ _ _ (by omega), sp_cp_cell _ _ _ _ _ (by omega), sp_cp_cell _ _ _ _ _ (by omega), sp_cp_cell _ _ _ _ _ (by omega), sp_cp_cell _ _ _ _ _ (by omega), sp_cp_cell _ _ _ _ _ (by omega), sp_cp_cell _ _ _ _ _ (by omega), sp_up_cell _ _ _ (by omega), sp_up_cell _ _ _ (by omega), sp_up_cell _ _ _ (by omega), sp_up_cell _ _ _ (by omega)]
    exact (h7 c hc).2
  · rw [sp_cp_cell _ _ _ _ _ (by omega), sp_cp_cell _ _ _ _ _ (by omega), sp_cp_cell _ _ _ _ _ (by omega), sp_cp_cell _ _ _ _ _ (by omega), sp_cp_cell _ _ _ _ _ (by omega), sp_cp_cell _ _ _ _ _ (by omega), sp_cp_cell _ _ _ _ _ (by omega), sp_up_slot _ _ _ (by omega), sp_up_slot _ _ _ (by omega), sp_up_slot _ _ _ (by omega), sp_up_same]
    rfl
  · rw [sp_cp_cell _ _ _ _ _ (by omega), sp_cp_cell _ _ _ _ _ (by omega), sp_cp_cell _ _ _ _ _ (by omega), sp_cp_cell _ _ _ _ _ (by omega), sp_cp_cell _ _ _ _ _ (by omega), sp_cp_cell _ _ _ _ _ (by omega), sp_cp_cell _ _ _ _ _ (by omega), sp_up_cell _ _ _ (by omega), sp_up_cell _ _ _ (by omega), sp_up_cell _ _ _ (by omega), sp_up_cell _ _ _ (by omega)]
