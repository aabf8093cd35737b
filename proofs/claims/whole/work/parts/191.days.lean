/-! counts over a laid year -/
theorem n_z (a : Nat) : nI a + 0 = nI a := nI_add a 0
theorem ct_yes {p : Nat → Bool} {n : Nat} (h : p n = true) : fb_ct p (n + 1) = fb_ct p n + 1 := by rw [fb_ct_succ, if_pos h]
theorem ct_no {p : Nat → Bool} {n : Nat} (h : ¬ p n = true) : fb_ct p (n + 1) = fb_ct p n := by rw [fb_ct_succ, if_neg h]; rfl
theorem LD.m1 {f m : fr_N} {B : Nat → Nat} {y : Nat} {L : LL} (h : LD f m B y L) {i : Nat} (hi : i < 79) : m 1 i = nI (B i) := by
  have := h.2.2.1 i hi
  rwa [Nat.zero_add] at this
theorem F_howMany {f m : fr_N} {B : Nat → Nat} {y : Nat} {L : LL} (h : LD f m B y L) {w : Nat} (hw : w < 1000) : ∀ (k j : Nat), j ≤ B 6 → B 6 - j < k → fX3_howMany_4 f k (nI w) (nI (fb_ct (fun g => decide (L.1 g = w)) j)) (nI j) = some (nI (fb_ct (fun g => decide (L.1 g = w)) (B 6)))
  | 0, _, _, hk => absurd hk (by omega)
  | k + 1, j, hj, hk => by
    have v6 := h.1.2.2.2.2.2.1
    rw [fX3_howMany_4, h.2.1.1]
    by_cases he : j = B 6
    · rw [he, if_pos ((n_le (by omega) (by omega)).mpr (Nat.le_refl _))]
    · have hj6 : j < B 6 := by omega
      have hl := (h.2.2.2.2.2.2.2.1 j).1
      rw [if_neg (fun z => he (Nat.le_antisymm hj ((n_le (by omega) (by omega)).mp z))), sp_ck (by omega) (by omega), nI_clamp (by omega), (h.2.2.2.2.2.1.1 j hj6).1, n_z, nI_1, nI_1]
      have ih := F_howMany h hw k (j + 1) (by omega) (by omega)
      by_cases e : L.1 j = w
      · rw [if_pos (by rw [e]), ← ct_yes (p := fun g => decide (L.1 g = w)) (decide_eq_true e)]; exact ih
      · rw [if_neg (fun z => e ((nI_eq (by omega) (by omega)).mp z)), ← ct_no (p := fun g => decide (L.1 g = w)) (fun z => e (of_decide_eq_true z))]; exact ih
theorem F_isHeld {f m : fr_N} {B : Nat → Nat} {y : Nat} {L : LL} (h : LD f m B y L) {g : Nat} (hg : g < B 6) : fX3_isHeld (nI g) f = some (decide (L.1 g = 1 ∨ L.1 g = 2)) := by
  have v6 := h.1.2.2.2.2.2.1
  have hl := (h.2.2.2.2.2.2.2.1 g).1
  unfold fX3_isHeld
  rw [sp_hasFeast h.2.1.1 (by omega), sp_bd, decide_eq_true (by rw [nI_toInt (by omega)]; omega), if_pos rfl, sp_ck (by omega) (by omega), nI_clamp (by omega), (h.2.2.2.2.2.1.1 g hg).1, sp_ck (by omega) (by omega)]
  by_cases e : L.1 g = 1
  · rw [if_pos (show nI (L.1 g) = 1 by rw [e]; rfl), decide_eq_true (Or.inl e)]
  · rw [if_neg (show ¬ nI (L.1 g) = 1 from fun z => e ((nI_eq (b := 1) (by omega) (by omega)).mp z))]
    by_cases e2 : L.1 g = 2
    · rw [if_pos (show nI (L.1 g) = 2 by rw [e2]; rfl), decide_eq_true (Or.inr e2)]
    · rw [if_neg (show ¬ nI (L.1 g) = 2 from fun z => e2 ((nI_eq (b := 2) (by omega) (by omega)).mp z)), decide_eq_false (by omega)]
theorem M_isHeld {f m : fr_N} {B : Nat → Nat} {y : Nat} {L : LL} (h : LD f m B y L) {g : Nat} (hg : g < B 6) : fX8_isHeld (nI g) m = some (decide (L.1 g = 1 ∨ L.1 g = 2)) := by
  have v6 := h.1.2.2.2.2.2.1
  have hl := (h.2.2.2.2.2.2.2.1 g).1
  unfold fX8_isHeld
  rw [sp_ck (by omega) (by omega), nI_clamp (by omega), (h.2.2.2.2.2.2.1.1 g hg).1, sp_ck (by omega) (by omega)]
  by_cases e : L.1 g = 1
  · rw [if_pos (show nI (L.1 g) = 1 by rw [e]; rfl), decide_eq_true (Or.inl e)]
  · rw [if_neg (show ¬ nI (L.1 g) = 1 from fun z => e ((nI_eq (b := 1) (by omega) (by omega)).mp z))]
    by_cases e2 : L.1 g = 2
    · rw [if_pos (show nI (L.1 g) = 2 by rw [e2]; rfl), decide_eq_true (Or.inr e2)]
    · rw [if_neg (show ¬ nI (L.1 g) = 2 from fun z => e2 ((nI_eq (b := 2) (by omega) (by omega)).mp z)), decide_eq_false (by omega)]
theorem M_many3 {f m : fr_N} {B : Nat → Nat} {y : Nat} {L : LL} (h : LD f m B y L) : ∀ (k j : Nat), j ≤ B 6 → B 6 - j < k → fX8_manyHeld_4 m k true (nI (fb_ct (fun g => decide (L.1 g = 3)) j)) (nI j) = some (nI (fb_ct (fun g => decide (L.1 g = 3)) (B 6)))
  | 0, _, _, hk => absurd hk (by omega)
  | k + 1, j, hj, hk => by
    have v6 := h.1.2.2.2.2.2.1
    rw [fX8_manyHeld_4, h.m1 (by omega)]
    by_cases he : j = B 6
    · rw [he, if_pos ((n_le (by omega) (by omega)).mpr (Nat.le_refl _))]
    · have hj6 : j < B 6 := by omega
      have hl := (h.2.2.2.2.2.2.2.1 j).1
      unfold fX8_manyHeld_41
      rw [if_neg (fun z => he (Nat.le_antisymm hj ((n_le (by omega) (by omega)).mp z))), if_pos rfl, sp_ck (by omega) (by omega), nI_clamp (by omega), (h.2.2.2.2.2.2.1.1 j hj6).1, n_z, nI_1, nI_1]
      have ih := M_many3 h k (j + 1) (by omega) (by omega)
      by_cases e : L.1 j = 3
      · rw [if_pos (show nI (L.1 j) = 3 by rw [e]; rfl), ← ct_yes (p := fun g => decide (L.1 g = 3)) (decide_eq_true e)]; exact ih
      · rw [if_neg (show ¬ nI (L.1 j) = 3 from fun z => e ((nI_eq (b := 3) (by omega) (by omega)).mp z)), ← ct_no (p := fun g => decide (L.1 g = 3)) (fun z => e (of_decide_eq_true z))]; exact ih
theorem M_many12 {f m : fr_N} {B : Nat → Nat} {y : Nat} {L : LL} (h : LD f m B y L) : ∀ (k j : Nat), j ≤ B 6 → B 6 - j < k → fX8_manyHeld_4 m k false (nI (fb_ct (fun g => decide (L.1 g = 1 ∨ L.1 g = 2)) j)) (nI j) = some (nI (fb_ct (fun g => decide (L.1 g = 1 ∨ L.1 g = 2)) (B 6)))
  | 0, _, _, hk => absurd hk (by omega)
  | k + 1, j, hj, hk => by
    have v6 := h.1.2.2.2.2.2.1
    rw [fX8_manyHeld_4, h.m1 (by omega)]
    by_cases he : j = B 6
    · rw [he, if_pos ((n_le (by omega) (by omega)).mpr (Nat.le_refl _))]
    · have hj6 : j < B 6 := by omega
      have hl := (h.2.2.2.2.2.2.2.1 j).1
      unfold fX8_manyHeld_41
      rw [if_neg (fun z => he (Nat.le_antisymm hj ((n_le (by omega) (by omega)).mp z))), if_neg Bool.false_ne_true, M_isHeld h hj6, sp_bd, n_z, nI_1, nI_1]
      have ih := M_many12 h k (j + 1) (by omega) (by omega)
      by_cases e : L.1 j = 1 ∨ L.1 j = 2
      · rw [decide_eq_true e, if_pos rfl, ← ct_yes (p := fun g => decide (L.1 g = 1 ∨ L.1 g = 2)) (decide_eq_true e)]; exact ih
      · rw [decide_eq_false e, if_neg Bool.false_ne_true, ← ct_no (p := fun g => decide (L.1 g = 1 ∨ L.1 g = 2)) (fun z => e (of_decide_eq_true z))]; exact ih
theorem held_12 (L : LL) (n : Nat) : fb_ct (fun g => decide (L.1 g = 1 ∨ L.1 g = 2)) n = fb_ct (fun g => decide (L.1 g = 1)) n + fb_ct (fun g => decide (L.1 g = 2)) n := by
  rw [← fb_ct_or (fun k _ z => by
    have h1 := of_decide_eq_true z.1
    have h2 := of_decide_eq_true z.2
    omega)]
  refine fb_ct_cong fun k _ => ?_
  by_cases h1 : L.1 k = 1 <;> by_cases h2 : L.1 k = 2 <;> simp [h1, h2]
/-- days on which a feast is remembered -/
def rm (L : LL) (d g : Nat) : Bool := decide (L.1 g = 3 ∧ nd (L.2.1 g) = nI d)
theorem F_remembered {f m : fr_N} {B : Nat → Nat} {y : Nat} {L : LL} (h : LD f m B y L) (d : Nat) : ∀ (k j : Nat), j ≤ B 6 → B 6 - j < k → fX3_rememberedOn_4 f k (nI d) (nI (fb_ct (rm L d) j)) (nI j) = some (nI (fb_ct (rm L d) (B 6)))
  | 0, _, _, hk => absurd hk (by omega)
  | k + 1, j, hj, hk => by
    have v6 := h.1.2.2.2.2.2.1
    rw [fX3_rememberedOn_4, h.2.1.1]
    by_cases he : j = B 6
    · rw [he, if_pos ((n_le (by omega) (by omega)).mpr (Nat.le_refl _))]
    · have hj6 : j < B 6 := by omega
      have hl := (h.2.2.2.2.2.2.2.1 j).1
      rw [if_neg (fun z => he (Nat.le_antisymm hj ((n_le (by omega) (by omega)).mp z))), sp_ck (by omega) (by omega), nI_clamp (by omega), (h.2.2.2.2.2.1.1 j hj6).1, sp_ck (by omega) (by omega), (h.2.2.2.2.2.1.1 j hj6).2, n_z, nI_1, nI_1]
      have ih := F_remembered h d k (j + 1) (by omega) (by omega)
      by_cases e : L.1 j = 3
      · rw [if_pos (show nI (L.1 j) = 3 by rw [e]; rfl)]
        by_cases e2 : nd (L.2.1 j) = nI d
        · rw [if_pos e2, ← ct_yes (p := rm L d) (decide_eq_true ⟨e, e2⟩)]; exact ih
        · rw [if_neg e2, ← ct_no (p := rm L d) (fun z => e2 (of_decide_eq_true z).2)]; exact ih
      · rw [if_neg (show ¬ nI (L.1 j) = 3 from fun z => e ((nI_eq (b := 3) (by omega) (by omega)).mp z)), ← ct_no (p := rm L d) (fun z => e (of_decide_eq_true z).1)]; exact ih
theorem M_remembered {f m : fr_N} {B : Nat → Nat} {y : Nat} {L : LL} (h : LD f m B y L) (d : Nat) : ∀ (k j : Nat), j ≤ B 6 → B 6 - j < k → fX8_rememberedOn_4 m k (nI d) (nI (fb_ct (rm L d) j)) (nI j) = some (nI (fb_ct (rm L d) (B 6)))
  | 0, _, _, hk => absurd hk (by omega)
  | k + 1, j, hj, hk => by
    have v6 := h.1.2.2.2.2.2.1
    rw [fX8_rememberedOn_4, h.m1 (by omega)]
    by_cases he : j = B 6
    · rw [he, if_pos ((n_le (by omega) (by omega)).mpr (Nat.le_refl _))]
    · have hj6 : j < B 6 := by omega
      have hl := (h.2.2.2.2.2.2.2.1 j).1
      rw [if_neg (fun z => he (Nat.le_antisymm hj ((n_le (by omega) (by omega)).mp z))), sp_ck (by omega) (by omega), nI_clamp (by omega), (h.2.2.2.2.2.2.1.1 j hj6).1, sp_ck (by omega) (by omega), (h.2.2.2.2.2.2.1.1 j hj6).2, n_z, nI_1, nI_1]
      have ih := M_remembered h d k (j + 1) (by omega) (by omega)
      by_cases e : L.1 j = 3
      · rw [if_pos (show nI (L.1 j) = 3 by rw [e]; rfl)]
        by_cases e2 : nd (L.2.1 j) = nI d
        · rw [if_pos e2, ← ct_yes (p := rm L d) (decide_eq_true ⟨e, e2⟩)]; exact ih
        · rw [if_neg e2, ← ct_no (p := rm L d) (fun z => e2 (of_decide_eq_true z).2)]; exact ih
      · rw [if_neg (show ¬ nI (L.1 j) = 3 from fun z => e ((nI_eq (b := 3) (by omega) (by omega)).mp z)), ← ct_no (p := rm L d) (fun z => e (of_decide_eq_true z).1)]; exact ih
/-! the colour of a day -/
def iS (B : Nat → Nat) (L : LL) (d z : Nat) : Bool := decide ((L.1 (B (57 + 3 * z)) = 1 ∨ L.1 (B (57 + 3 * z)) = 2) ∧ (L.1 (B (57 + 3 * z + 1)) = 1 ∨ L.1 (B (57 + 3 * z + 1)) = 2) ∧ ¬ nI d < nd (L.2.1 (B (57 + 3 * z))) ∧ ¬ nd (L.2.1 (B (57 + 3 * z + 1))) ≤ nI d)
def co (B : Nat → Nat) (L : LL) (d : Nat) : Nat → Nat → Nat
  | _, 0 => 0
  | z, n + 1 => if iS B L d z = true then B (57 + 3 * z + 2) else co B L d (z + 1) n
theorem F_colour23 {f m : fr_N} {B : Nat → Nat} {y : Nat} {L : LL} (h : LD f m B y L) (d : Nat) : ∀ (k z : Nat), z ≤ B 7 → B 7 - z < k → fX3_colourOf_23 f k (nI d) (nI z) = some (nI (co B L d z (B 7 - z)))
  | 0, _, _, hk => absurd hk (by omega)
  | k + 1, z, hz, hk => by
    have v6 := h.1.2.2.2.2.2.1
    have v7 := h.1.2.2.2.2.2.2.1
    rw [fX3_colourOf_23, h.2.1.2.1]
    by_cases he : z = B 7
    · rw [he, if_pos ((n_le (by omega) (by omega)).mpr (Nat.le_refl _)), Nat.sub_self]; rfl
    · have hz7 : z < B 7 := by omega
      obtain ⟨q1, q2, q3⟩ := h.2.1.2.2.2.2.2.1 z hz7
      obtain ⟨w1, w2⟩ := h.1.2.2.2.2.2.2.2.2.2.2.2 z hz7
      rw [if_neg (fun q => he (Nat.le_antisymm hz ((n_le (by omega) (by omega)).mp q))), sp_ck (by omega) (by omega), sp_ck (by omega) (by omega), nI_clamp (by omega), show f 6 z = nI (B (57 + 3 * z)) from q1, show f 7 z = nI (B (57 + 3 * z + 1)) from q2, show B 7 - z = (B 7 - (z + 1)) + 1 by omega, co]
      unfold fX3_liesIn
      have no : ∀ (e : ¬ iS B L d z = true), fr_bd (some false) (fun r4 => if r4 = true then fr_ck (nI z) 4 (some (f 8 z)) else fX3_colourOf_23 f k (nI d) (nI z + 1)) = some (nI (if iS B L d z = true then B (57 + 3 * z + 2) else co B L d (z + 1) (B 7 - (z + 1)))) := by
        intro e
        rw [sp_bd, if_neg Bool.false_ne_true, nI_1, if_neg e]
        exact F_colour23 h d k (z + 1) (by omega) (by omega)
      rw [F_isHeld h w1, sp_bd, F_isHeld h w2, sp_bd, sp_ck (by omega) (by omega), nI_clamp (by omega), sp_ck (by omega) (by omega), nI_clamp (n := B (57 + 3 * z + 1)) (by omega), (h.2.2.2.2.2.1.1 _ w1).2, (h.2.2.2.2.2.1.1 _ w2).2]
      by_cases e1 : L.1 (B (57 + 3 * z)) = 1 ∨ L.1 (B (57 + 3 * z)) = 2
      · rw [decide_eq_true e1, if_pos rfl]
        by_cases e2 : L.1 (B (57 + 3 * z + 1)) = 1 ∨ L.1 (B (57 + 3 * z + 1)) = 2
        · rw [decide_eq_true e2, if_pos rfl]
          by_cases e3 : nI d < nd (L.2.1 (B (57 + 3 * z)))
          · rw [if_pos e3]; exact no (fun q => (of_decide_eq_true q).2.2.1 e3)
          · rw [if_neg e3]
            by_cases e4 : nd (L.2.1 (B (57 + 3 * z + 1))) ≤ nI d
            · rw [if_pos e4]; exact no (fun q => (of_decide_eq_true q).2.2.2 e4)
            · rw [if_neg e4, sp_bd, if_pos rfl, sp_ck (by omega) (by omega), show f 8 z = nI (B (57 + 3 * z + 2)) from q3, if_pos (show iS B L d z = true from decide_eq_true ⟨e1, e2, e3, e4⟩)]
        · rw [decide_eq_false e2, if_neg Bool.false_ne_true]; exact no (fun q => e2 (of_decide_eq_true q).2.1)
      · rw [decide_eq_false e1, if_neg Bool.false_ne_true]; exact no (fun q => e1 (of_decide_eq_true q).1)
theorem M_colour35 {f m : fr_N} {B : Nat → Nat} {y : Nat} {L : LL} (h : LD f m B y L) (d : Nat) : ∀ (k z : Nat), z ≤ B 7 → z < k → fX8_colourOf_35 m k (nI d) (nI (co B L d z (B 7 - z))) (nI z - 1) = some (nI (co B L d 0 (B 7)))
  | 0, _, _, hk => absurd hk (by omega)
  | k + 1, z, hz, hk => by
    have v6 := h.1.2.2.2.2.2.1
    have v7 := h.1.2.2.2.2.2.2.1
    rw [fX8_colourOf_35]
    by_cases he : z = 0
    · subst he
      rw [if_pos (by decide)]; rfl
    · obtain ⟨u, rfl⟩ : ∃ u, z = u + 1 := ⟨z - 1, by omega⟩
      have hz7 : u < B 7 := by omega
      obtain ⟨w1, w2⟩ := h.1.2.2.2.2.2.2.2.2.2.2.2 u hz7
      have e0 : (57 : Int32) + (3 : Int32) * nI u = nI (57 + 3 * u) := by
        rw [show (3 : Int32) = nI 3 from rfl, show (57 : Int32) = nI 57 from rfl, pk_mul, nI_add]
      have ih := M_colour35 h d k u (by omega) (by omega)
      rw [show B 7 - u = (B 7 - (u + 1)) + 1 by omega, co] at ih
      rw [show nI (u + 1) - 1 = nI u from pk_sub (a := u + 1) (b := 1) (by omega), if_neg (show ¬ nI u < 0 from fun q => by have := (n_lt (b := 0) (by omega) (by omega)).mp q; omega), e0, nI_1, sp_ck (by omega) (by omega), sp_ck (by omega) (by omega), nI_clamp (by omega), nI_clamp (by omega), h.m1 (by omega), h.m1 (by omega)]
      have t112 : ∀ b : Bool, (b = true ↔ iS B L d u = true) → fX8_colourOf_112 (fX8_colourOf_35 m k) m (nI d) (nI (co B L d (u + 1) (B 7 - (u + 1)))) (nI u) b = some (nI (co B L d 0 (B 7))) := by
        intro b hb
        unfold fX8_colourOf_112
        rw [e0, show nI (57 + 3 * u) + 2 = nI (57 + 3 * u + 2) from nI_add _ 2, sp_ck (by omega) (by omega), nI_clamp (by omega), h.m1 (by omega), show nI u + (-1 : Int32) = nI u - 1 by rw [Int32.sub_eq_add_neg]]
        by_cases hq : b = true
        · rw [if_pos hq]
          rw [if_pos (hb.mp hq)] at ih
          exact ih
        · rw [if_neg hq]
          rw [if_neg (fun q => hq (hb.mpr q))] at ih
          exact ih
      rw [M_isHeld h w1, sp_bd, M_isHeld h w2, sp_bd, sp_ck (by omega) (by omega), nI_clamp (by omega), sp_ck (by omega) (by omega), nI_clamp (n := B (57 + 3 * u + 1)) (by omega), (h.2.2.2.2.2.2.1.1 _ w1).2, (h.2.2.2.2.2.2.1.1 _ w2).2]
      by_cases e1 : L.1 (B (57 + 3 * u)) = 1 ∨ L.1 (B (57 + 3 * u)) = 2
      · rw [decide_eq_true e1, if_pos rfl]
        by_cases e2 : L.1 (B (57 + 3 * u + 1)) = 1 ∨ L.1 (B (57 + 3 * u + 1)) = 2
        · rw [decide_eq_true e2, if_pos rfl]
          by_cases e3 : nI d < nd (L.2.1 (B (57 + 3 * u)))
          · rw [if_pos e3]; exact t112 false ⟨fun q => absurd q (by decide), fun q => absurd e3 (of_decide_eq_true q).2.2.1⟩
          · rw [if_neg e3]
            by_cases e4 : nd (L.2.1 (B (57 + 3 * u + 1))) ≤ nI d
            · rw [if_pos e4]; exact t112 false ⟨fun q => absurd q (by decide), fun q => absurd e4 (of_decide_eq_true q).2.2.2⟩
            · rw [if_neg e4]; exact t112 true ⟨fun _ => decide_eq_true ⟨e1, e2, e3, e4⟩, fun _ => rfl⟩
        · rw [decide_eq_false e2, if_neg Bool.false_ne_true]; exact t112 false ⟨fun q => absurd q (by decide), fun q => absurd (of_decide_eq_true q).2.1 e2⟩
      · rw [decide_eq_false e1, if_neg Bool.false_ne_true]; exact t112 false ⟨fun q => absurd q (by decide), fun q => absurd (of_decide_eq_true q).1 e1⟩
theorem both_colour {f m : fr_N} {B : Nat → Nat} {y : Nat} {L : LL} (h : LD f m B y L) {d : Nat} (hd : 1 ≤ d ∧ d ≤ dy (B 0) y) : ∃ r, fX3_colourOf (nI d) f = some r ∧ fX8_colourOf (nI d) m = some r := by
  have hb := dy_bd (B 0) y
  have hl := h.2.2.2.2.2.2.2.2 d
  have v6 := h.1.2.2.2.2.2.1
  have v7 := h.1.2.2.2.2.2.2.1
  unfold fX3_colourOf fX8_colourOf
  rw [F_holder h hd, sp_bd, sp_ck (by omega) (by omega), nI_clamp (by omega), h.2.2.2.2.2.2.1.2 d (by omega)]
  by_cases h0 : L.2.2 d = 0
  · rw [if_pos ((nh_iff (by omega)).mpr h0), if_pos (show nI (L.2.2 d) ≤ 0 by rw [h0]; decide), h.m1 (by omega)]
    have a1 := F_colour23 h d 2000 0 (by omega) (by omega)
    have a2 := M_colour35 h d 2000 (B 7) (by omega) (by omega)
    rw [Nat.sub_self] at a2
    exact ⟨_, a1, a2⟩
  · rw [if_neg (fun z => h0 ((nh_iff (by omega)).mp z)), if_neg (show ¬ nI (L.2.2 d) ≤ 0 from fun z => h0 (by have := (n_le (b := 0) (by omega) (by omega)).mp z; omega)), sp_ck (by omega) (by omega), show nI (L.2.2 d) - 1 = nI (L.2.2 d - 1) from pk_sub (b := 1) (by omega), show (3 : Int32) = nI 3 from rfl, M_of h.1 h.2.2.1 (by omega) (by omega), sp_bd, show nh (L.2.2 d) = nI (L.2.2 d - 1) from if_neg h0, F_mark h.1 h.2.1 (by omega) (by omega), sp_bd]
    exact ⟨_, rfl, rfl⟩
theorem op_day {f m : fr_N} (hr : RR f m) (a b c : Int32) : OK (fX7_day a b c f) (fX8_day a b c m) := by
  obtain ⟨B, k, H, t, T, h1, h2, h3, h4, h5⟩ := id hr
  refine OQ.ok ?_ hr
  unfold fX7_day fX8_day
  refine Q_told h1 fun hb => ?_
  refine Q_day h1 fun y d f' m' L y1 y2 ha d1 d2 hd hl hD a5 a6 => ?_
  subst ha hd
  have hb := dy_bd (B 0) y
  have v6 := hD.1.2.2.2.2.2.1
  rw [sp_within, sp_bd]
  by_cases hc : (0 : Int32).toInt ≤ c.toInt ∧ c.toInt ≤ (5 : Int32).toInt
  · obtain ⟨j, hj, rfl⟩ := sp_of (n := 5) hc.1 hc.2
    rw [decide_eq_true hc, if_pos rfl, hl, sp_bd]
    rcases (show j = 0 ∨ j = 1 ∨ j = 2 ∨ j = 3 ∨ j = 4 ∨ j = 5 by omega) with rfl | rfl | rfl | rfl | rfl | rfl
    · rw [if_pos (show nI 0 = 0 from rfl), if_pos (show nI 0 = 0 from rfl), F_weekday hD.2.2.2.1.2.1 (st_lt B y) (by omega), M_weekday hD.2.2.2.2.1.2 (st_lt B y) (by omega), sp_bd, sp_bd]
      exact ⟨_, _, _, rfl, rfl, a5, a6⟩
    · rw [if_neg (show ¬ nI 1 = 0 by decide), if_neg (show ¬ nI 1 = 0 by decide), if_pos (show nI 1 = 1 from rfl), if_pos (show nI 1 = 1 from rfl), F_holder hD ⟨d1, d2⟩, sp_bd, sp_bd, sp_ck (by omega) (by omega), nI_clamp (by omega), hD.2.2.2.2.2.2.1.2 d (by omega), sp_ck (by omega) (by omega)]
      have hll := hD.2.2.2.2.2.2.2.2 d
      by_cases h0 : L.2.2 d = 0
      · rw [if_pos ((nh_iff (by omega)).mpr h0), if_pos (show nI (L.2.2 d) ≤ 0 by rw [h0]; decide)]
        exact ⟨_, _, _, rfl, rfl, a5, a6⟩
      · rw [if_neg (fun z => h0 ((nh_iff (by omega)).mp z)), if_neg (show ¬ nI (L.2.2 d) ≤ 0 from fun z => h0 (by have := (n_le (b := 0) (by omega) (by omega)).mp z; omega)), show nI (L.2.2 d) - 1 = nI (L.2.2 d - 1) from pk_sub (b := 1) (by omega), show nh (L.2.2 d) = nI (L.2.2 d - 1) from if_neg h0]
        exact ⟨_, _, _, rfl, rfl, a5, a6⟩
    · rw [if_neg (show ¬ nI 2 = 0 by decide), if_neg (show ¬ nI 2 = 0 by decide), if_neg (show ¬ nI 2 = 1 by decide), if_neg (show ¬ nI 2 = 1 by decide), if_pos (show nI 2 = 2 from rfl), if_pos (show nI 2 = 2 from rfl), F_rank hD ⟨d1, d2⟩, M_rank hD ⟨d1, d2⟩, sp_bd, sp_bd]
      exact ⟨_, _, _, rfl, rfl, a5, a6⟩
    · obtain ⟨r, q1, q2⟩ := both_colour hD ⟨d1, d2⟩
      rw [if_neg (show ¬ nI 3 = 0 by decide), if_neg (show ¬ nI 3 = 0 by decide), if_neg (show ¬ nI 3 = 1 by decide), if_neg (show ¬ nI 3 = 1 by decide), if_neg (show ¬ nI 3 = 2 by decide), if_neg (show ¬ nI 3 = 2 by decide), if_pos (show nI 3 = 3 from rfl), if_pos (show nI 3 = 3 from rfl), q1, q2, sp_bd, sp_bd]
      exact ⟨_, _, _, rfl, rfl, a5, a6⟩
    · rw [if_neg (show ¬ nI 4 = 0 by decide), if_neg (show ¬ nI 4 = 0 by decide), if_neg (show ¬ nI 4 = 1 by decide), if_neg (show ¬ nI 4 = 1 by decide), if_neg (show ¬ nI 4 = 2 by decide), if_neg (show ¬ nI 4 = 2 by decide), if_neg (show ¬ nI 4 = 3 by decide), if_neg (show ¬ nI 4 = 3 by decide), if_pos (show nI 4 = 4 from rfl), if_pos (show nI 4 = 4 from rfl), F_services hD ⟨d1, d2⟩, M_services hD ⟨d1, d2⟩, sp_bd, sp_bd]
      exact ⟨_, _, _, rfl, rfl, a5, a6⟩
    · rw [if_neg (show ¬ nI 5 = 0 by decide), if_neg (show ¬ nI 5 = 0 by decide), if_neg (show ¬ nI 5 = 1 by decide), if_neg (show ¬ nI 5 = 1 by decide), if_neg (show ¬ nI 5 = 2 by decide), if_neg (show ¬ nI 5 = 2 by decide), if_neg (show ¬ nI 5 = 3 by decide), if_neg (show ¬ nI 5 = 3 by decide), if_neg (show ¬ nI 5 = 4 by decide), if_neg (show ¬ nI 5 = 4 by decide), if_pos (show nI 5 = 5 from rfl)]
      unfold fX3_rememberedOn fX8_rememberedOn
      rw [show fX3_rememberedOn_4 f' 2000 (nI d) 0 0 = _ from F_remembered hD d 2000 0 (by omega) (by omega), show fX8_rememberedOn_4 m' 2000 (nI d) 0 0 = _ from M_remembered hD d 2000 0 (by omega) (by omega), sp_bd, sp_bd]
      exact ⟨_, _, _, rfl, rfl, a5, a6⟩
  · rw [decide_eq_false hc, if_neg Bool.false_ne_true, if_neg (fun z => hc (by rw [z]; decide)), if_neg (fun z => hc (by rw [z]; decide)), if_neg (fun z => hc (by rw [z]; decide)), if_neg (fun z => hc (by rw [z]; decide)), if_neg (fun z => hc (by rw [z]; decide)), if_neg (fun z => hc (by rw [z]; decide))]
    exact ⟨_, _, _, rfl, rfl, SF.rf, a6⟩
theorem op_held {f m : fr_N} (hr : RR f m) (a b c : Int32) : OK (fX7_held a b c f) (fX8_held a b c m) := by
  obtain ⟨B, k, H, t, T, h1, h2, h3, h4, h5⟩ := id hr
  refine OQ.ok ?_ hr
  unfold fX7_held fX8_held
  refine Q_feast h1 fun g hg ha => ?_
  refine Q_year fun y y1 y2 hy => ?_
  refine Q_in (i := 0) (j := 2) rfl rfl rfl rfl fun j j1 j2 hj => ?_
  subst ha hy hj
  have v6 := h1.1.2.2.2.2.2.1
  refine Q_lay h1 y1 y2 fun f' m' L hD ho a5 a6 => ?_
  rw [sp_ck (by omega) (by omega), nI_clamp (by omega), sp_ck (by omega) (by omega), sp_ck (by omega) (by omega), sp_ck (by omega) (by omega), sp_ck (by omega) (by omega), sp_ck (by omega) (by omega), (hD.2.2.2.2.2.1.1 g hg).1, (hD.2.2.2.2.2.1.1 g hg).2, (hD.2.2.2.2.2.2.1.1 g hg).1, (hD.2.2.2.2.2.2.1.1 g hg).2, (ho g hg).1, (ho g hg).2]
  rcases (show j = 0 ∨ j = 1 ∨ j = 2 by omega) with rfl | rfl | rfl
  · rw [if_pos (show nI 0 = 0 from rfl), if_pos (show nI 0 = 0 from rfl)]
    exact OQ.same
  · rw [if_neg (show ¬ nI 1 = 0 by decide), if_neg (show ¬ nI 1 = 0 by decide), if_pos (show nI 1 = 1 from rfl), if_pos (show nI 1 = 1 from rfl)]
    exact OQ.same
  · rw [if_neg (show ¬ nI 2 = 0 by decide), if_neg (show ¬ nI 2 = 0 by decide), if_neg (show ¬ nI 2 = 1 by decide), if_neg (show ¬ nI 2 = 1 by decide)]
    exact OQ.same
