/-! alter, add, undo, image, restore -/
/-- the four marks, one told anew -/
def aK (B : Nat → Nat) (i w : Nat) (x : Int32) (u : Nat) : Int32 := if u = w then x else nI (B (9 + 4 * i + u))
theorem alterF {f : fr_N} {B : Nat → Nat} (hF : FB f 3 B) (h6 : B 6 ≤ 12) {i w : Nat} (hi : i < B 6) (hw : w ≤ 3) (x : Int32) : fX7_alter (nI i) (nI w) x f = fX7_alter_100 (nI i) (nI w) x (aK B i w x 0) (aK B i w x 1) (aK B i w x 2) (aK B i w x 3) f := by
  have mk : ∀ u, u ≤ 3 → fX1_mark_3 (nI i) (nI u) f = some (nI (B (9 + 4 * i + u))) := by
    intro u hu
    rw [sp_mark hF.1 h6 hi hu]
    have := hF.2.2.2.2.1 (4 * i + u) (by omega)
    rw [show 9 + 4 * i + u = 9 + (4 * i + u) by omega]
    exact congrArg some this
  have m0 : fX1_mark_3 (nI i) 0 f = some (nI (B (9 + 4 * i + 0))) := mk 0 (by omega)
  have m1 : fX1_mark_3 (nI i) 1 f = some (nI (B (9 + 4 * i + 1))) := mk 1 (by omega)
  have m2 : fX1_mark_3 (nI i) 2 f = some (nI (B (9 + 4 * i + 2))) := mk 2 (by omega)
  have m3 : fX1_mark_3 (nI i) 3 f = some (nI (B (9 + 4 * i + 3))) := mk 3 (by omega)
  unfold fX7_alter
  rw [sp_hasFeast hF.1 (by omega), sp_bd, decide_eq_true (by rw [nI_toInt (by omega)]; omega), if_pos rfl, sp_within, sp_bd, decide_eq_true (by rw [nI_toInt (by omega)]; show (0 : Int) ≤ _ ∧ _ ≤ (3 : Int); omega), if_pos rfl]
  unfold fX7_alter_40 fX7_alter_60 fX7_alter_80 aK
  rcases (show w = 0 ∨ w = 1 ∨ w = 2 ∨ w = 3 by omega) with rfl | rfl | rfl | rfl
  · rw [if_pos (show nI 0 = 0 from rfl), if_neg (show ¬ nI 0 = 1 by decide), m1, sp_bd, if_neg (show ¬ nI 0 = 2 by decide), m2, sp_bd, if_neg (show ¬ nI 0 = 3 by decide), m3, sp_bd]
    rfl
  · rw [if_neg (show ¬ nI 1 = 0 by decide), m0, sp_bd, if_pos (show nI 1 = 1 from rfl), if_neg (show ¬ nI 1 = 2 by decide), m2, sp_bd, if_neg (show ¬ nI 1 = 3 by decide), m3, sp_bd]
    rfl
  · rw [if_neg (show ¬ nI 2 = 0 by decide), m0, sp_bd, if_neg (show ¬ nI 2 = 1 by decide), m1, sp_bd, if_pos (show nI 2 = 2 from rfl), if_neg (show ¬ nI 2 = 3 by decide), m3, sp_bd]
    rfl
  · rw [if_neg (show ¬ nI 3 = 0 by decide), m0, sp_bd, if_neg (show ¬ nI 3 = 1 by decide), m1, sp_bd, if_neg (show ¬ nI 3 = 2 by decide), m2, sp_bd, if_pos (show nI 3 = 3 from rfl)]
    rfl
theorem sp_mayBe {m : fr_N} {B : Nat → Nat} (hv : VB B) (hM : MB (m 1) 0 B) {i w : Nat} (hi : i < B 6) (hw : w ≤ 3) (x : Int32) : ∃ z : Bool, fX8_mayBe (nI i) (nI w) x m = some z ∧ (z = true ↔ cB (aK B i w x 0).toInt (aK B i w x 1).toInt (aK B i w x 2).toInt (aK B i w x 3).toInt) := by
  have h6 := hv.2.2.2.2.2.1
  obtain ⟨b0, b1, b2, b3, b4⟩ := hv.2.2.2.2.2.2.2.2.2.2.1 i hi
  have n0 : ∀ u, (nI (B (9 + 4 * i + u))).toInt = (B (9 + 4 * i + u) : Int) := fun u => nI_toInt (Nat.lt_trans (hv.1 _) (by omega))
  have mk : ∀ u, u ≤ 3 → fX8_of (nI i) (nI u) m = some (nI (B (9 + 4 * i + u))) := by
    intro u hu
    rw [sp_mof (by omega) hu]
    have := hM (9 + 4 * i + u) (by omega)
    rw [Nat.zero_add] at this
    rw [this]
  have k0 := n0 0
  rw [Nat.add_zero] at k0
  have ne : ∀ u, u ≠ w → (aK B i w x u).toInt = (B (9 + 4 * i + u) : Int) := fun u hu => by unfold aK; rw [if_neg hu]; exact n0 u
  have ne0 : 0 ≠ w → (aK B i w x 0).toInt = (B (9 + 4 * i) : Int) := fun hu => ne 0 hu
  have es : (aK B i w x w).toInt = x.toInt := by unfold aK; rw [if_pos rfl]
  unfold fX8_mayBe
  rcases (show w = 0 ∨ w = 1 ∨ w = 2 ∨ w = 3 by omega) with rfl | rfl | rfl | rfl
  · rw [if_pos (show nI 0 = 0 from rfl), sp_in, sp_bd, sp_wide]
    rw [es, ne 1 (by omega), ne 2 (by omega), ne 3 (by omega)]
    by_cases h : 0 ≤ x.toInt ∧ x.toInt ≤ 3
    · rw [decide_eq_true (show (0 : Int64).toInt ≤ x.toInt ∧ x.toInt ≤ (3 : Int64).toInt from h), if_pos rfl, show fX8_of (nI i) 1 m = _ from mk 1 (by omega), sp_bd, sp_isN, sp_bd, n0 1]
      by_cases h2 : (x.toInt < 2 → 0 ≤ (B (9 + 4 * i + 1) : Int) ∧ (B (9 + 4 * i + 1) : Int) ≤ 99) ∧ (2 ≤ x.toInt → 1 ≤ (B (9 + 4 * i + 1) : Int) ∧ (B (9 + 4 * i + 1) : Int) ≤ 365)
      · rw [decide_eq_true h2, if_pos rfl]
        exact ⟨true, rfl, fun _ => ⟨h, h2, by omega, by omega⟩, fun _ => rfl⟩
      · rw [decide_eq_false h2, if_neg (by decide)]
        exact ⟨false, rfl, fun h => absurd h (by decide), fun h => absurd h.2.1 h2⟩
    · rw [decide_eq_false (show ¬ ((0 : Int64).toInt ≤ x.toInt ∧ x.toInt ≤ (3 : Int64).toInt) from h), if_neg (by decide)]
      exact ⟨false, rfl, fun h => absurd h (by decide), fun h2 => absurd h2.1 h⟩
  · rw [if_neg (show ¬ nI 1 = 0 by decide), if_pos (show nI 1 = 1 from rfl), show fX8_of (nI i) 0 m = _ from mk 0 (by omega), sp_bd, sp_isN, sp_bd]
    rw [es, ne0 (by omega), ne 2 (by omega), ne 3 (by omega), show (nI (B (9 + 4 * i + 0))).toInt = (B (9 + 4 * i) : Int) from k0]
    refine ⟨_, rfl, ?_⟩
    rw [decide_eq_true_iff]
    exact ⟨fun h => ⟨by omega, h, by omega, by omega⟩, fun h => h.2.1⟩
  · rw [if_neg (show ¬ nI 2 = 0 by decide), if_neg (show ¬ nI 2 = 1 by decide), if_pos (show nI 2 = 2 from rfl), sp_in, sp_bd, sp_wide]
    rw [es, ne0 (by omega), ne 1 (by omega), ne 3 (by omega)]
    refine ⟨_, rfl, ?_⟩
    rw [decide_eq_true_iff]
    exact ⟨fun h => ⟨by omega, ⟨by omega, by omega⟩, h, by omega⟩, fun h => h.2.2.1⟩
  · rw [if_neg (show ¬ nI 3 = 0 by decide), if_neg (show ¬ nI 3 = 1 by decide), if_neg (show ¬ nI 3 = 2 by decide), if_pos (show nI 3 = 3 from rfl), sp_in, sp_bd, sp_wide]
    rw [es, ne0 (by omega), ne 1 (by omega), ne 2 (by omega)]
    refine ⟨_, rfl, ?_⟩
    rw [decide_eq_true_iff]
    exact ⟨fun h => ⟨by omega, ⟨by omega, by omega⟩, by omega, h⟩, fun h => h.2.2.2⟩
theorem op_alter {f m : fr_N} (hr : RR f m) (a b x : Int32) : OK (fX7_alter a b x f) (fX8_alter a b x m) := by
  obtain ⟨B, k, H, t, T, h1, h2, h3, h4, h5⟩ := id hr
  obtain ⟨hv, hF, hT, hM⟩ := id h1
  have h6 := hv.2.2.2.2.2.1
  by_cases ha : 0 ≤ a.toInt ∧ a.toInt < (B 6 : Int)
  · obtain ⟨i, hi, rfl⟩ := sp_at ha
    by_cases hb : 0 ≤ b.toInt ∧ b.toInt ≤ 3
    · obtain ⟨w, hw, rfl⟩ := sp_of (n := 3) hb.1 hb.2
      rw [alterF hF h6 hi hw]
      unfold fX7_alter_100 fX8_alter
      rw [sp_isFeast (show m 1 6 = nI (B 6) from hM 6 (by omega)) (by omega), sp_bd, decide_eq_true ha, if_pos rfl]
      obtain ⟨z1, y1, y2⟩ := sp_canBe (aK B i w x 0) (aK B i w x 1) (aK B i w x 2) (aK B i w x 3)
      obtain ⟨z2, y3, y4⟩ := sp_mayBe hv hM hi hw x
      rw [y1, y3, sp_bd, sp_bd]
      by_cases hc : cB (aK B i w x 0).toInt (aK B i w x 1).toInt (aK B i w x 2).toInt (aK B i w x 3).toInt
      · rw [if_pos (y2.mpr hc), if_pos (y4.mpr hc)]
        have hx0 : 0 ≤ x.toInt := by
          obtain ⟨c1, ⟨c2, c2'⟩, c3, c4⟩ := hc
          unfold aK at c1 c2 c2' c3 c4
          rcases (show w = 0 ∨ w = 1 ∨ w = 2 ∨ w = 3 by omega) with rfl | rfl | rfl | rfl
          · rw [if_pos rfl] at c1; omega
          · rw [if_pos rfl] at c2 c2'; omega
          · rw [if_pos rfl] at c3; omega
          · rw [if_pos rfl] at c4; omega
        obtain ⟨v, hv2, rfl⟩ := nI_of (x := x) (by rw [fa_lt]; show ¬ x.toInt < 0; omega)
        have eo : f 5 (4 * i + w) = nI (B (9 + 4 * i + w)) := by
          have := hF.2.2.2.2.1 (4 * i + w) (by omega)
          rw [show 9 + 4 * i + w = 9 + (4 * i + w) by omega]
          exact this
        have ei : nI i * 4 + nI w = nI (4 * i + w) := by
          rw [show (4 : Int32) = nI 4 from rfl, pk_mul, nI_add]
          congr 1
          omega
        have ej : (9 : Int32) + (4 : Int32) * nI i + nI w = nI (9 + 4 * i + w) := by
          rw [show (4 : Int32) = nI 4 from rfl, show (9 : Int32) = nI 9 from rfl, pk_mul, nI_add, nI_add]
        rw [sp_mark hF.1 h6 hi hw, sp_bd, ei, eo]
        obtain ⟨f1, g1, g2⟩ := sp_keep h3.1 h3.2.1 0 (nI (4 * i + w)) (nI (B (9 + 4 * i + w))) 0
        obtain ⟨m1, g3, g4⟩ := sp_notes h3.1 h3.2.2.1
        have eo2 : m1 1 (9 + 4 * i + w) = nI (B (9 + 4 * i + w)) := by
          rw [g4.1 1 (by omega) (by omega)]
          have := hM (9 + 4 * i + w) (by omega)
          rwa [Nat.zero_add] at this
        rw [g1, sp_bd, g3, sp_bd, sp_ck (by omega) (by omega), sp_lt, nI_clamp (by omega), sp_mof (by omega) hw, sp_bd, ej, sp_ck (by omega) (by omega), sp_lt, nI_clamp (by omega), eo2]
        have hVB : VB (uB B (9 + 4 * i + w) v) := by
          apply VB_mark hv hi hw
          have key : ∀ u, u ≤ 3 → (aK B i w (nI v) u).toInt = (uB B (9 + 4 * i + w) v (9 + 4 * i + u) : Int) := by
            intro u hu
            unfold aK uB
            by_cases huw : u = w
            · rw [if_pos huw, if_pos (by omega), nI_toInt hv2]
            · rw [if_neg huw, if_neg (by omega), nI_toInt (Nat.lt_trans (hv.1 _) (by omega))]
          rw [key 0 (by omega), key 1 (by omega), key 2 (by omega), key 3 (by omega)] at hc
          exact hc
        refine ⟨_, _, _, rfl, rfl, RR_act h1 h2 h3 h4 h5 g2 g4 (B' := uB B (9 + 4 * i + w) v) (Or.inr (Or.inl ⟨rfl, 4 * i + w, by omega, rfl, by rw [show 9 + (4 * i + w) = 9 + 4 * i + w by omega], fun j hj => uB_n _ _ (by omega)⟩)) (fun d hd => sp_up_cell _ _ _ (by omega)) (fun d hd => sp_up_cell _ _ _ hd) ⟨hVB, FB_mark (hF.kept (fun d a1 a2 => g2.1 d (by omega))) h6 hi hw, ?_, MB_up (by rw [g4.1 1 (by omega) (by omega)]; exact hM)⟩⟩
        rw [sp_up_cell _ _ _ (by omega), uB_n _ _ (by omega), g2.1 3 (by omega)]
        exact hT
      · rw [if_neg (fun h => hc (y2.mp h)), if_neg (fun h => hc (y4.mp h))]
        exact OK.same hr
    · unfold fX7_alter fX8_alter
      rw [sp_hasFeast hF.1 (by omega), sp_isFeast (show m 1 6 = nI (B 6) from hM 6 (by omega)) (by omega), sp_bd, sp_bd, decide_eq_true ha, if_pos rfl, if_pos rfl, sp_within, sp_bd, decide_eq_false (show ¬ ((0 : Int32).toInt ≤ b.toInt ∧ b.toInt ≤ (3 : Int32).toInt) from hb), if_neg (by decide)]
      have : fX8_mayBe (nI i) b x m = some false := by
        unfold fX8_mayBe
        rw [if_neg, if_neg, if_neg, if_neg]
        all_goals (rintro rfl; exact hb (by decide))
      rw [this, sp_bd, if_neg (by decide)]
      exact OK.same hr
  · unfold fX7_alter fX8_alter
    rw [sp_hasFeast hF.1 (by omega), sp_isFeast (show m 1 6 = nI (B 6) from hM 6 (by omega)) (by omega), sp_bd, sp_bd, decide_eq_false ha, if_neg (by decide), if_neg (by decide)]
    exact OK.same hr
/-- a feast more -/
def mB (B : Nat → Nat) (a b c d : Nat) : Nat → Nat := uB (uB (uB (uB (uB B (9 + 4 * B 6) a) (9 + 4 * B 6 + 1) b) (9 + 4 * B 6 + 2) c) (9 + 4 * B 6 + 3) d) 6 (B 6 + 1)
theorem mB_6 (B : Nat → Nat) (a b c d : Nat) : mB B a b c d 6 = B 6 + 1 := uB_s _ _ _
theorem mB_n (B : Nat → Nat) (a b c d : Nat) {i : Nat} (h6 : i ≠ 6) (h : i < 9 + 4 * B 6 ∨ 9 + 4 * B 6 + 4 ≤ i) : mB B a b c d i = B i := by
  unfold mB
  rw [uB_n _ _ h6, uB_n _ _ (by omega), uB_n _ _ (by omega), uB_n _ _ (by omega), uB_n _ _ (by omega)]
theorem mB_m (B : Nat → Nat) (a b c d : Nat) : mB B a b c d (9 + 4 * B 6) = a ∧ mB B a b c d (9 + 4 * B 6 + 1) = b ∧ mB B a b c d (9 + 4 * B 6 + 2) = c ∧ mB B a b c d (9 + 4 * B 6 + 3) = d := by
  unfold mB
  refine ⟨?_, ?_, ?_, ?_⟩
  · rw [uB_n _ _ (by omega), uB_n _ _ (by omega), uB_n _ _ (by omega), uB_n _ _ (by omega), uB_s]
  · rw [uB_n _ _ (by omega), uB_n _ _ (by omega), uB_n _ _ (by omega), uB_s]
  · rw [uB_n _ _ (by omega), uB_n _ _ (by omega), uB_s]
  · rw [uB_n _ _ (by omega), uB_s]
theorem VB_more {B : Nat → Nat} (h : VB B) (h8 : 0 < B 8) (h12 : B 6 < 12) {a b c d : Nat} (hc : cB a b c d) : VB (mB B a b c d) := by
  obtain ⟨h0, h1, h2, h3, h4, h5, h6, h7, h8', h9, h10, h11⟩ := h
  obtain ⟨m0, m1, m2, m3⟩ := mB_m B a b c d
  have e : ∀ i, i ≠ 6 → (i < 9 ∨ 57 ≤ i) → mB B a b c d i = B i := fun i hi h => mB_n _ _ _ _ _ hi (by omega)
  obtain ⟨c1, ⟨c2, c2'⟩, c3, c4⟩ := hc
  refine ⟨fun x => ?_, by rw [e _ (by omega) (by omega)]; exact h1, by rw [e _ (by omega) (by omega)]; exact h2, by rw [e _ (by omega) (by omega)]; exact h3, by rw [e _ (by omega) (by omega)]; exact h4, by rw [mB_6]; omega, by rw [e _ (by omega) (by omega)]; exact h6, by rw [e _ (by omega) (by omega)]; exact h7, by rw [e 8 (by omega) (by omega)]; exact fun h => absurd h (by omega), by rw [e 8 (by omega) (by omega), e 3 (by omega) (by omega), e 4 (by omega) (by omega)]; exact h9, fun x hx => ?_, fun z hz => ?_⟩
  · unfold mB uB
    repeat' split
    all_goals first | exact h0 x | omega
  · rw [mB_6] at hx
    by_cases hx6 : x = B 6
    · subst hx6
      rw [m0, m1, m2, m3]
      omega
    · rw [mB_n _ _ _ _ _ (show 9 + 4 * x ≠ 6 by omega) (by omega), mB_n _ _ _ _ _ (show 9 + 4 * x + 1 ≠ 6 by omega) (by omega), mB_n _ _ _ _ _ (show 9 + 4 * x + 2 ≠ 6 by omega) (by omega), mB_n _ _ _ _ _ (show 9 + 4 * x + 3 ≠ 6 by omega) (by omega)]
      exact h10 x (by omega)
  · rw [e 7 (by omega) (by omega)] at hz
    rw [mB_6, e (57 + 3 * z) (by omega) (by omega), e (57 + 3 * z + 1) (by omega) (by omega)]
    obtain ⟨z1, z2⟩ := h11 z hz
    omega
