/-! THE BOOK: the reference's words, one ahead; the class's place -/
def dg (c : Nat) : Prop := 48 ≤ c ∧ c ≤ 57
/-- what the first k figures say -/
def dv (T : Nat → Nat) (p : Nat) : Nat → Nat
  | 0 => 0
  | k + 1 => dv T p k * 10 + (T (p + k) - 48)
theorem dv_bd {T : Nat → Nat} {p : Nat} : ∀ k, (∀ i, i < k → dg (T (p + i))) → dv T p k < 10 ^ k
  | 0, _ => by rw [dv]; omega
  | k + 1, h => by
    have h1 := dv_bd k (fun i hi => h i (by omega))
    have h2 := h k (by omega)
    unfold dg at h2
    rw [dv, Nat.pow_succ]
    omega
def XF (f f' : fr_N) : Prop := ∀ c, c ≠ 34 → f' c = f c
def XM (m m' : fr_N) : Prop := (∀ c, c ≠ 0 → m' c = m c) ∧ ∀ j, (j < 8 ∨ 13 < j) → m' 0 j = m 0 j
theorem XF.rf {f : fr_N} : XF f f := fun _ _ => rfl
theorem XM.rf {m : fr_N} : XM m m := ⟨fun _ _ => rfl, fun _ _ => rfl⟩
theorem XF.trans {f g h : fr_N} (a : XF f g) (b : XF g h) : XF f h := fun c hc => (b c hc).trans (a c hc)
theorem XM.trans {f g h : fr_N} (a : XM f g) (b : XM g h) : XM f h := ⟨fun c hc => (b.1 c hc).trans (a.1 c hc), fun j hj => (b.2 j hj).trans (a.2 j hj)⟩
theorem XM.up {m : fr_N} {j : Nat} {v : Int32} (h : 8 ≤ j ∧ j ≤ 13) : XM m (fr_up m 0 j v) := ⟨fun c hc => sp_up_cell _ _ _ hc, fun i hi => sp_up_slot _ _ _ (by omega)⟩
theorem XF.up {f : fr_N} {j : Nat} {v : Int32} : XF f (fr_up f 34 j v) := fun c hc => sp_up_cell _ _ _ hc
theorem R2.read {f m f' m' : fr_N} {t : Nat} {T : Nat → Nat} (h : R2 f m t T) (a : XF f f') (b : XM m m') : R2 f' m' t T := h.kept (fun c h1 h2 => a c (by omega)) (b.1 6 (by omega)) (b.2 7 (by omega))
theorem F_at {f m : fr_N} {t : Nat} {T : Nat → Nat} (h : R2 f m t T) {p : Nat} (hp : p < 1000) : fX6_at (nI p) f = some (if p < t then nI (T p) else -1000000) := by
  obtain ⟨h0, h1, h2, h3⟩ := h
  unfold fX6_at
  rw [if_neg (show ¬ nI p < 0 from fun z => by have := (n_lt (b := 0) (by omega) (by omega)).mp z; omega), h1]
  by_cases hp2 : p < t
  · rw [if_neg (fun z => by have := (n_le (by omega) (by omega)).mp z; omega), sp_ck (by omega) (by omega), nI_clamp (by omega), (h3 p hp2).1, if_pos hp2]
  · rw [if_pos ((n_le (by omega) (by omega)).mpr (by omega)), if_neg hp2]
theorem M_byte {f m : fr_N} {t : Nat} {T : Nat → Nat} (h : R2 f m t T) {p : Nat} (hp : p < 1000) : fX8_byteAt (nI p) m = some (if p < t then nI (T p) else -1) := by
  obtain ⟨h0, h1, h2, h3⟩ := h
  unfold fX8_byteAt
  rw [h2]
  by_cases hp2 : p < t
  · rw [if_neg (fun z => by have := (n_le (by omega) (by omega)).mp z; omega), sp_ck (by omega) (by omega), nI_clamp (by omega), (h3 p hp2).2.1, if_pos hp2]
  · rw [if_pos ((n_le (by omega) (by omega)).mpr (by omega)), if_neg hp2]
/-- the reference's word begins at p -/
def TS (m : fr_N) (t : Nat) (T : Nat → Nat) (p : Nat) : Prop := m 0 12 = 0 ∧ m 0 9 = nI p ∧ p ≤ t ∧
  ((p = t ∧ m 0 10 = 0) ∨
   (p < t ∧ 97 ≤ T p ∧ T p ≤ 122 ∧ m 0 10 = 1 ∧ m 0 11 = nI (T p) ∧ m 0 8 = nI (p + 1)) ∨
   (p < t ∧ (T p = 44 ∨ T p = 59) ∧ m 0 10 = 3 ∧ m 0 11 = nI (T p) ∧ m 0 8 = nI (p + 1)) ∨
   (p < t ∧ ¬ dg (T p) ∧ ¬ (97 ≤ T p ∧ T p ≤ 122) ∧ T p ≠ 44 ∧ T p ≠ 59 ∧ m 0 10 = 4) ∨
   (∃ c, 1 ≤ c ∧ p + c ≤ t ∧ (∀ i, i < c → dg (T (p + i))) ∧ (p + c = t ∨ ¬ dg (T (p + c))) ∧ m 0 8 = nI (p + c) ∧ ((c ≤ 3 ∧ m 0 10 = 2 ∧ m 0 11 = nI (dv T p c)) ∨ (3 < c ∧ m 0 10 = 4))))
theorem dg_in {c : Nat} (h : c < 256) : fX8_in (Int32.toInt64 (nI c)) 48 57 = some (decide (48 ≤ c ∧ c ≤ 57)) := by
  rw [sp_in, sp_wide, nI_toInt (by omega)]
  congr 1
  apply decide_eq_decide.mpr
  show (48 : Int) ≤ _ ∧ _ ≤ (57 : Int) ↔ _
  omega
theorem dg_F {c : Nat} (h : c < 256) : fX7_within (nI c) 48 57 = some (decide (48 ≤ c ∧ c ≤ 57)) := by
  rw [sp_within, nI_toInt (by omega)]
  congr 1
  apply decide_eq_decide.mpr
  show (48 : Int) ≤ _ ∧ _ ≤ (57 : Int) ↔ _
  omega
theorem n_dig {v c : Nat} (h : 48 ≤ c) : (nI v * 10 + nI c) - 48 = nI (v * 10 + (c - 48)) := by
  rw [show (10 : Int32) = nI 10 from rfl, show (48 : Int32) = nI 48 from rfl, pk_mul, nI_add, pk_sub (by omega)]
  congr 1
  omega
theorem M_reads121 {t : Nat} {T : Nat → Nat} {p : Nat} : ∀ (k i : Nat) (f m : fr_N), R2 f m t T → 1 ≤ i → p + i ≤ t → t - (p + i) < k → m 0 12 = 0 → m 0 9 = nI p → m 0 8 = nI (p + i) → (∀ j, j < i → dg (T (p + j))) → m 0 11 = nI (dv T p (min i 3)) → ∃ m', fX8_reads_121 k m = some m' ∧ TS m' t T p ∧ XM m m'
  | 0, _, _, _, _, _, _, hk, _, _, _, _, _ => absurd hk (by omega)
  | k + 1, i, f, m, h2, hi, hp, hk, h12, h9, h8, hd, h11 => by
    have h160 := h2.1
    have e98 : nI (p + i) - nI p = nI i := by rw [pk_sub (by omega)]; congr 1; omega
    rw [fX8_reads_121, h8, h9, e98, M_byte h2 (by omega), sp_bd]
    have fin : ¬ (p + i < t ∧ dg (T (p + i))) → ∃ m', (if nI i ≤ 3 then fX8_reads_217 2 m else fX8_reads_217 4 m) = some m' ∧ TS m' t T p ∧ XM m m' := by
      intro hn
      have key : ∀ v : Int32, (i ≤ 3 → v = 2) → (3 < i → v = 4) → ∃ m', fX8_reads_217 v m = some m' ∧ TS m' t T p ∧ XM m m' := by
        intro v v1 v2
        unfold fX8_reads_217
        rw [sp_lt]
        refine ⟨_, rfl, ⟨?_, ?_, by omega, Or.inr (Or.inr (Or.inr (Or.inr ⟨i, hi, hp, hd, ?_, ?_, ?_⟩)))⟩, XM.up (by omega)⟩
        · rw [sp_up_slot _ _ _ (by omega)]; exact h12
        · rw [sp_up_slot _ _ _ (by omega)]; exact h9
        · by_cases e : p + i = t
          · exact Or.inl e
          · exact Or.inr (fun z => hn ⟨by omega, z⟩)
        · rw [sp_up_slot _ _ _ (by omega)]; exact h8
        · by_cases e : i ≤ 3
          · refine Or.inl ⟨e, ?_, ?_⟩
            · rw [sp_up_same]; exact v1 e
            · rw [sp_up_slot _ _ _ (by omega), h11, show min i 3 = i by omega]
          · exact Or.inr ⟨by omega, by rw [sp_up_same]; exact v2 (by omega)⟩
      by_cases e : i ≤ 3
      · rw [if_pos (show nI i ≤ 3 from (n_le (b := 3) (by omega) (by omega)).mpr e)]
        exact key 2 (fun _ => rfl) (fun z => absurd z (by omega))
      · rw [if_neg (show ¬ nI i ≤ 3 from fun z => e ((n_le (b := 3) (by omega) (by omega)).mp z))]
        exact key 4 (fun z => absurd z e) (fun _ => rfl)
    by_cases hpt : p + i < t
    · have hT := (h2.2.2.2 (p + i) hpt).2.2
      rw [if_pos hpt, dg_in hT, sp_bd]
      by_cases hdg : 48 ≤ T (p + i) ∧ T (p + i) ≤ 57
      · rw [decide_eq_true hdg, if_pos rfl, sp_bd]
        unfold fX8_reads_182
        rw [sp_lt, sp_lt, sp_lt, sp_lt, sp_up_slot _ _ _ (show (8 : Nat) ≠ 11 by omega), sp_up_slot _ _ _ (show (8 : Nat) ≠ 11 by omega), h8, nI_1]
        have go : ∀ v, v = nI (dv T p (min (i + 1) 3)) → ∃ m', fX8_reads_121 k (fr_up (fr_up m 0 11 v) 0 8 (nI (p + i + 1))) = some m' ∧ TS m' t T p ∧ XM m m' := by
          intro v hv
          have hx : XM m (fr_up (fr_up m 0 11 v) 0 8 (nI (p + i + 1))) := (XM.up (by omega)).trans (XM.up (by omega))
          obtain ⟨m', g1, g2, g3⟩ := M_reads121 (p := p) k (i + 1) f (fr_up (fr_up m 0 11 v) 0 8 (nI (p + i + 1))) (h2.read XF.rf hx) (by omega) (by omega) (by omega) (by rw [sp_up_slot _ _ _ (by omega), sp_up_slot _ _ _ (by omega)]; exact h12) (by rw [sp_up_slot _ _ _ (by omega), sp_up_slot _ _ _ (by omega)]; exact h9) (by rw [sp_up_same]; rfl) (fun j hj => by
            by_cases e : j = i
            · rw [e]; exact hdg
            · exact hd j (by omega)) (by rw [sp_up_slot _ _ _ (by omega), sp_up_same]; exact hv)
          exact ⟨m', g1, g2, hx.trans g3⟩
        by_cases e : 3 ≤ i
        · rw [if_pos (show (3 : Int32) ≤ nI i from (n_le (a := 3) (by omega) (by omega)).mpr e)]
          exact go _ (by rw [h11, show min i 3 = 3 by omega, show min (i + 1) 3 = 3 by omega])
        · rw [if_neg (show ¬ (3 : Int32) ≤ nI i from fun z => e ((n_le (a := 3) (by omega) (by omega)).mp z))]
          exact go _ (by rw [h11, Int32.mul_comm 10, n_dig hdg.1, show min (i + 1) 3 = i + 1 by omega, show min i 3 = i by omega, dv])
      · rw [decide_eq_false hdg, if_neg Bool.false_ne_true]
        exact fin (fun z => hdg z.2)
    · rw [if_neg hpt, sp_in, sp_bd, decide_eq_false (by decide), if_neg Bool.false_ne_true]
      exact fin (fun z => hpt z.1)
theorem M_reads {f m : fr_N} {t : Nat} {T : Nat → Nat} {p : Nat} (h2 : R2 f m t T) (hp : p ≤ t) (h12 : m 0 12 = 0) (h8 : m 0 8 = nI p) : ∃ m', fX8_reads m = some m' ∧ TS m' t T p ∧ XM m m' := by
  have h160 := h2.1
  unfold fX8_reads
  have x1 : XM m (fr_up m 0 9 (nI p)) := XM.up (by omega)
  rw [sp_lt, h8, sp_up_slot _ _ _ (show (8 : Nat) ≠ 9 by omega), h8, M_byte (h2.read XF.rf x1) (by omega), sp_bd, sp_lt, sp_up_slot _ _ _ (show (8 : Nat) ≠ 11 by omega), sp_up_slot _ _ _ (show (8 : Nat) ≠ 9 by omega), h8]
  unfold fX8_reads_36
  by_cases hpt : p < t
  · have hT := (h2.2.2.2 p hpt).2.2
    rw [if_pos hpt, if_pos (show (0 : Int32) ≤ nI (T p) from (n_le (a := 0) (by omega) (by omega)).mpr (by omega)), sp_lt, if_pos (show (0 : Int32) ≤ nI (T p) from (n_le (a := 0) (by omega) (by omega)).mpr (by omega)), show fr_b true = 1 from rfl, nI_1, dg_in hT, sp_bd, sp_in, sp_wide, nI_toInt (by omega), sp_bd]
    -- the memory ahead of its kind
    have hx : XM m (fr_up (fr_up (fr_up m 0 9 (nI p)) 0 11 (nI (T p))) 0 8 (nI (p + 1))) := (x1.trans (XM.up (by omega))).trans (XM.up (by omega))
    have e12 : fr_up (fr_up (fr_up m 0 9 (nI p)) 0 11 (nI (T p))) 0 8 (nI (p + 1)) 0 12 = 0 := by rw [sp_up_slot _ _ _ (by omega), sp_up_slot _ _ _ (by omega), sp_up_slot _ _ _ (by omega)]; exact h12
    have e9 : fr_up (fr_up (fr_up m 0 9 (nI p)) 0 11 (nI (T p))) 0 8 (nI (p + 1)) 0 9 = nI p := by rw [sp_up_slot _ _ _ (by omega), sp_up_slot _ _ _ (by omega), sp_up_same]
    have e11 : fr_up (fr_up (fr_up m 0 9 (nI p)) 0 11 (nI (T p))) 0 8 (nI (p + 1)) 0 11 = nI (T p) := by rw [sp_up_slot _ _ _ (by omega), sp_up_same]
    have e8 : fr_up (fr_up (fr_up m 0 9 (nI p)) 0 11 (nI (T p))) 0 8 (nI (p + 1)) 0 8 = nI (p + 1) := sp_up_same _ _ _ _
    generalize fr_up (fr_up (fr_up m 0 9 (nI p)) 0 11 (nI (T p))) 0 8 (nI (p + 1)) = m1 at hx e12 e9 e11 e8
    have plain : ∀ v : Int32, ¬ v = 2 → ((97 ≤ T p ∧ T p ≤ 122 ∧ v = 1) ∨ ((T p = 44 ∨ T p = 59) ∧ v = 3) ∨ (¬ dg (T p) ∧ ¬ (97 ≤ T p ∧ T p ≤ 122) ∧ T p ≠ 44 ∧ T p ≠ 59 ∧ v = 4)) → ∃ m', fX8_reads_102 (nI (T p)) v m1 = some m' ∧ TS m' t T p ∧ XM m m' := by
      intro v hv hc
      unfold fX8_reads_102
      rw [sp_lt, sp_up_same, if_neg hv]
      refine ⟨_, rfl, ⟨?_, ?_, hp, ?_⟩, hx.trans (XM.up (by omega))⟩
      · rw [sp_up_slot _ _ _ (by omega)]; exact e12
      · rw [sp_up_slot _ _ _ (by omega)]; exact e9
      · rw [sp_up_same, sp_up_slot _ _ _ (show (11 : Nat) ≠ 10 by omega), sp_up_slot _ _ _ (show (8 : Nat) ≠ 10 by omega)]
        rcases hc with ⟨q1, q2, q3⟩ | ⟨q1, q2⟩ | ⟨q1, q2, q3, q4, q5⟩
        · exact Or.inr (Or.inl ⟨hpt, q1, q2, q3, e11, e8⟩)
        · exact Or.inr (Or.inr (Or.inl ⟨hpt, q1, q2, e11, e8⟩))
        · exact Or.inr (Or.inr (Or.inr (Or.inl ⟨hpt, q1, q2, q3, q4, q5⟩)))
    by_cases hl : (97 : Int64).toInt ≤ (T p : Int) ∧ (T p : Int) ≤ (122 : Int64).toInt
    · rw [decide_eq_true hl, if_pos rfl]
      have : 97 ≤ T p ∧ T p ≤ 122 := by
        have a : (97 : Int) ≤ _ := hl.1
        have b : _ ≤ (122 : Int) := hl.2
        omega
      exact plain 1 (by decide) (Or.inl ⟨this.1, this.2, rfl⟩)
    · have hl' : ¬ (97 ≤ T p ∧ T p ≤ 122) := fun z => hl ⟨by show (97 : Int) ≤ _; omega, by show _ ≤ (122 : Int); omega⟩
      rw [decide_eq_false hl, if_neg Bool.false_ne_true]
      by_cases hdg : 48 ≤ T p ∧ T p ≤ 57
      · rw [decide_eq_true hdg, if_pos rfl]
        unfold fX8_reads_102
        rw [sp_lt, sp_up_same, if_pos rfl, sp_lt, show nI (T p) - 48 = nI (T p - 48) from pk_sub (b := 48) hdg.1]
        have hx2 : XM m (fr_up (fr_up m1 0 10 2) 0 11 (nI (T p - 48))) := (hx.trans (XM.up (by omega))).trans (XM.up (by omega))
        obtain ⟨m', g1, g2, g3⟩ := M_reads121 (t := t) (T := T) (p := p) 2000 1 f (fr_up (fr_up m1 0 10 2) 0 11 (nI (T p - 48))) (h2.read XF.rf hx2) (by omega) (by omega) (by omega) (by rw [sp_up_slot _ _ _ (by omega), sp_up_slot _ _ _ (by omega)]; exact e12) (by rw [sp_up_slot _ _ _ (by omega), sp_up_slot _ _ _ (by omega)]; exact e9) (by rw [sp_up_slot _ _ _ (by omega), sp_up_slot _ _ _ (by omega)]; exact e8) (fun j hj => by rw [show j = 0 by omega]; exact hdg) (by
          rw [sp_up_same]
          congr 1
          show T p - 48 = dv T p 0 * 10 + (T (p + 0) - 48)
          rw [dv, Nat.add_zero]
          omega)
        exact ⟨m', g1, g2, hx2.trans g3⟩
      · rw [decide_eq_false hdg, if_neg Bool.false_ne_true]
        by_cases h44 : T p = 44
        · rw [if_pos (show nI (T p) = 44 by rw [h44]; rfl)]
          exact plain 3 (by decide) (Or.inr (Or.inl ⟨Or.inl h44, rfl⟩))
        · rw [if_neg (show ¬ nI (T p) = 44 from fun z => h44 ((nI_eq (b := 44) (by omega) (by omega)).mp z))]
          by_cases h59 : T p = 59
          · rw [if_pos (show nI (T p) = 59 by rw [h59]; rfl)]
            exact plain 3 (by decide) (Or.inr (Or.inl ⟨Or.inr h59, rfl⟩))
          · rw [if_neg (show ¬ nI (T p) = 59 from fun z => h59 ((nI_eq (b := 59) (by omega) (by omega)).mp z))]
            exact plain 4 (by decide) (Or.inr (Or.inr ⟨hdg, hl', h44, h59, rfl⟩))
  · rw [if_neg hpt, if_neg (show ¬ (0 : Int32) ≤ -1 by decide), sp_lt, if_neg (show ¬ (0 : Int32) ≤ -1 by decide)]
    unfold fX8_reads_102
    rw [sp_lt, sp_up_same, if_neg (show ¬ (0 : Int32) = 2 by decide)]
    refine ⟨_, rfl, ⟨?_, ?_, hp, Or.inl ⟨by omega, sp_up_same _ _ _ _⟩⟩, ((x1.trans (XM.up (by omega))).trans (XM.up (by omega))).trans (XM.up (by omega))⟩
    · rw [sp_up_slot _ _ _ (by omega), sp_up_slot _ _ _ (by omega), sp_up_slot _ _ _ (by omega), sp_up_slot _ _ _ (by omega)]; exact h12
    · rw [sp_up_slot _ _ _ (by omega), sp_up_slot _ _ _ (by omega), sp_up_slot _ _ _ (by omega), sp_up_same]
