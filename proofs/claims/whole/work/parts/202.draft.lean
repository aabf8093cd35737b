/-! the draft that both write -/
def DR (f m : fr_N) (q : Nat) (D : Nat → Nat) : Prop := f 35 1 = nI (D 6) ∧ f 35 2 = nI (D 7) ∧ (∀ i, i < q → f 36 i = nI (D i)) ∧ (∀ i, i < 4 * D 6 → f 37 i = nI (D (9 + i))) ∧
  (∀ z, z < D 7 → f 38 z = nI (D (57 + 3 * z)) ∧ f 39 z = nI (D (57 + 3 * z + 1)) ∧ f 40 z = nI (D (57 + 3 * z + 2))) ∧ (∀ c, c < 5 → f 41 c = nI (D (69 + 2 * c)) ∧ f 42 c = nI (D (69 + 2 * c + 1))) ∧ MB (m 2) 0 D
def VP (D : Nat → Nat) : Prop := (∀ i, D i < 1000) ∧ D 0 ≤ 2 ∧ D 1 ≤ 29 ∧ D 2 ≤ 6 ∧ D 5 ≤ 2 ∧ D 6 ≤ 12 ∧ D 7 ≤ 4 ∧
  (∀ f, f < D 6 → D (9 + 4 * f) ≤ 3 ∧ (D (9 + 4 * f) < 2 → D (9 + 4 * f + 1) ≤ 99) ∧ (2 ≤ D (9 + 4 * f) → 1 ≤ D (9 + 4 * f + 1) ∧ D (9 + 4 * f + 1) ≤ 365) ∧ (1 ≤ D (9 + 4 * f + 2) ∧ D (9 + 4 * f + 2) ≤ 5) ∧ 1 ≤ D (9 + 4 * f + 3) ∧ D (9 + 4 * f + 3) ≤ 6) ∧
  (∀ z, z < D 7 → D (57 + 3 * z) < D 6 ∧ D (57 + 3 * z + 1) < D 6)
def EF (f f' : fr_N) : Prop := ∀ c, (c < 34 ∨ 42 < c) → f' c = f c
def EM (m m' : fr_N) : Prop := (∀ c, c ≠ 0 → c ≠ 2 → m' c = m c) ∧ ∀ j, (j < 8 ∨ 13 < j) → m' 0 j = m 0 j
theorem XF.ef {f f' : fr_N} (h : XF f f') : EF f f' := fun c hc => h c (by omega)
theorem XM.em {m m' : fr_N} (h : XM m m') : EM m m' := ⟨fun c h0 _ => h.1 c h0, h.2⟩
theorem EF.trans {f g h : fr_N} (a : EF f g) (b : EF g h) : EF f h := fun c hc => (b c hc).trans (a c hc)
theorem EM.trans {f g h : fr_N} (a : EM f g) (b : EM g h) : EM f h := ⟨fun c h0 h2 => (b.1 c h0 h2).trans (a.1 c h0 h2), fun j hj => (b.2 j hj).trans (a.2 j hj)⟩
theorem EF.up {f : fr_N} {c j : Nat} {v : Int32} (h : 34 ≤ c ∧ c ≤ 42) : EF f (fr_up f c j v) := fun d hd => sp_up_cell _ _ _ (by omega)
theorem EM.up {m : fr_N} {j : Nat} {v : Int32} : EM m (fr_up m 2 j v) := ⟨fun c _ h2 => sp_up_cell _ _ _ h2, fun j _ => by rw [sp_up_cell _ _ _ (by omega)]⟩
theorem EM.of2 {m m' : fr_N} (h : ∀ c, c ≠ 2 → m' c = m c) : EM m m' := ⟨fun c _ h2 => h c h2, fun j _ => by rw [h 0 (by omega)]⟩
theorem DR.read {f m f' m' : fr_N} {q : Nat} {D : Nat → Nat} (h : DR f m q D) (a : XF f f') (b : XM m m') : DR f' m' q D := by
  unfold DR
  rw [a 35 (by omega), a 36 (by omega), a 37 (by omega), a 38 (by omega), a 39 (by omega), a 40 (by omega), a 41 (by omega), a 42 (by omega), b.1 2 (by omega)]
  exact h
theorem RN.put {f m f' m' : fr_N} {t : Nat} {T : Nat → Nat} {p : Nat} (h : RN f m t T p) (a : ∀ c, c < 35 → f' c = f c) (b : ∀ c, c ≠ 2 → m' c = m c) : RN f' m' t T p := by
  unfold RN TS
  rw [a 34 (by omega), b 0 (by omega)]
  exact ⟨h.1.kept (fun c e1 e2 => a c (by omega)) (b 6 (by omega)) (by rw [b 0 (by omega)]), h.2.1, h.2.2⟩
theorem FA.put {f m m' : fr_N} (h : FA f m) (b : ∀ c, c ≠ 2 → m' c = m c) : FA f m' := h.kept rfl (b 0 (by omega))
/-! what both end with -/
def RES (f m : fr_N) (a : Option (Bool × fr_N)) (b : Option fr_N) : Prop :=
  (∃ f' m' D, a = some (true, f') ∧ b = some m' ∧ m' 0 12 = 0 ∧ VB D ∧ 0 < D 8 ∧ FB f' 35 D ∧ MB (m' 2) 0 D ∧ EF f f' ∧ EM m m') ∨ (∃ f' m', a = some (false, f') ∧ b = some m' ∧ FA f' m' ∧ EF f f' ∧ EM m m')
theorem RES.behind {f m f1 m1 : fr_N} {a : Option (Bool × fr_N)} {b : Option fr_N} (h1 : EF f f1) (h2 : EM m m1) (h : RES f1 m1 a b) : RES f m a b := by
  rcases h with ⟨f', m', D, e1, e2, e3, e4, e5, e6, e7, e8, e9⟩ | ⟨f', m', e1, e2, e3, e4, e5⟩
  · exact Or.inl ⟨f', m', D, e1, e2, e3, e4, e5, e6, e7, h1.trans e8, h2.trans e9⟩
  · exact Or.inr ⟨f', m', e1, e2, e3, h1.trans e4, h2.trans e5⟩
/-- the class has failed; the reference only goes on to its end -/
theorem RES.fail {f m f1 m1 : fr_N} {b : Option fr_N} (h1 : EF f f1) (h2 : EM m m1) (h : FA f1 m1) (hb : ∃ m', b = some m' ∧ ∀ c, c ≠ 2 → m' c = m1 c) : RES f m (some (false, f1)) b := by
  obtain ⟨m', e1, e2⟩ := hb
  exact Or.inr ⟨f1, m', rfl, e1, h.put e2, h1, h2.trans (EM.of2 e2)⟩
def zE (n : fr_N) : Option (Bool × fr_N) := fr_bd2 (fX4_end n) fun r n' => if r = true then some (true, n') else some (false, n')
def zC (n : fr_N) : Option (Bool × fr_N) := fr_bd2 (fX4_choirs n) fun r n' => if r = true then zE n' else some (false, n')
def zP (n : fr_N) : Option (Bool × fr_N) := fr_bd2 (fX4_psalter n) fun r n' => if r = true then zC n' else some (false, n')
def zS (k : Nat) (x : Int32) (n : fr_N) : Option (Bool × fr_N) := fr_bd2 (fX4_seasons_2 k x n) fun r n' => if r = true then zP n' else some (false, n')
def zF (k : Nat) (x : Int32) (n : fr_N) : Option (Bool × fr_N) := fr_bd2 (fX4_feasts_2 k x n) fun r n' => if r = true then zS 2000 0 n' else some (false, n')
def zH (n : fr_N) : Option (Bool × fr_N) := fr_bd2 (fX4_head n) fun r n' => if r = true then zF 2000 0 n' else some (false, n')
def wE (n : fr_N) : Option fr_N := if n 0 10 = 0 then some n else fr_bd (fX8_bad 1 n) fun n' => some n'
def wC (n : fr_N) : Option fr_N := fr_bd (fX8_letter 99 n) fun n1 => fr_bd2 (fX8_number 2 5 44 n1) fun r2 n2 => fr_lt (fr_up n2 2 8 r2) fun n3 => fr_bd2 (fX8_number 0 2 59 n3) fun r4 n4 => fr_lt (fr_up n4 2 5 r4) fun n5 => wE n5
def wP (n : fr_N) : Option fr_N := fr_bd (fX8_letter 112 n) fun n1 => fr_bd2 (fX8_number 10 150 44 n1) fun r2 n2 => fr_lt (fr_up n2 2 3 r2) fun n3 => fr_bd2 (fX8_number 1 9 59 n3) fun r4 n4 => fr_lt (fr_up n4 2 4 r4) fun n5 => wC n5
theorem w66 (k : Nat) (n : fr_N) : fX8_readsAll_66 (k + 1) n = fr_bd (fX8_isLetter 122 n) fun r => if r = true then fr_bd (fX8_readsSeason n) fun n' => fX8_readsAll_66 k n' else wP n := rfl
theorem zAll (n : fr_N) : fX4_readsAll n = fr_lt (fr_up n 34 2 0) fun n1 => fr_lt (fr_up n1 34 4 0) fun n3 => fr_lt (fr_up n3 34 5 0) fun n5 => fr_bd (fX1_empty_35 n5) fun n9 => zH n9 := rfl
/-! the reference goes on to its end -/
theorem D_wE {m : fr_N} (h : ¬ m 0 12 = 0) : ∃ m', wE m = some m' ∧ ∀ c, c ≠ 2 → m' c = m c := by
  unfold wE
  rw [D_bad h, sp_bd]
  split <;> exact ⟨m, rfl, fun _ _ => rfl⟩
theorem D_up {m : fr_N} {j : Nat} {v : Int32} {b : Option fr_N} (h : ∃ m', b = some m' ∧ ∀ c, c ≠ 2 → m' c = fr_up m 2 j v c) : ∃ m', b = some m' ∧ ∀ c, c ≠ 2 → m' c = m c := by
  obtain ⟨m', e1, e2⟩ := h
  exact ⟨m', e1, fun c hc => by rw [e2 c hc, sp_up_cell _ _ _ hc]⟩
theorem d_up {m : fr_N} {j : Nat} {v : Int32} (h : ¬ m 0 12 = 0) : ¬ fr_up m 2 j v 0 12 = 0 := by rw [sp_up_cell _ _ _ (by omega)]; exact h
theorem D_C2 {m : fr_N} (h : ¬ m 0 12 = 0) (r : Int32) : ∃ m', (fr_lt (fr_up m 2 5 r) fun n5 => wE n5) = some m' ∧ ∀ c, c ≠ 2 → m' c = m c := by
  rw [sp_lt]
  exact D_up (D_wE (d_up h))
theorem D_C1 {m : fr_N} (h : ¬ m 0 12 = 0) (r : Int32) : ∃ m', (fr_lt (fr_up m 2 8 r) fun n3 => fr_bd2 (fX8_number 0 2 59 n3) fun r4 n4 => fr_lt (fr_up n4 2 5 r4) fun n5 => wE n5) = some m' ∧ ∀ c, c ≠ 2 → m' c = m c := by
  rw [sp_lt, D_number (d_up h), sp_bd2]
  exact D_up (D_C2 (d_up h) _)
theorem D_C0 {m : fr_N} (h : ¬ m 0 12 = 0) : ∃ m', (fr_bd2 (fX8_number 2 5 44 m) fun r2 n2 => fr_lt (fr_up n2 2 8 r2) fun n3 => fr_bd2 (fX8_number 0 2 59 n3) fun r4 n4 => fr_lt (fr_up n4 2 5 r4) fun n5 => wE n5) = some m' ∧ ∀ c, c ≠ 2 → m' c = m c := by
  rw [D_number h, sp_bd2]
  exact D_C1 h _
theorem D_wC {m : fr_N} (h : ¬ m 0 12 = 0) : ∃ m', wC m = some m' ∧ ∀ c, c ≠ 2 → m' c = m c := by
  unfold wC
  rw [D_letter h, sp_bd]
  exact D_C0 h
theorem D_P2 {m : fr_N} (h : ¬ m 0 12 = 0) (r : Int32) : ∃ m', (fr_lt (fr_up m 2 4 r) fun n5 => wC n5) = some m' ∧ ∀ c, c ≠ 2 → m' c = m c := by
  rw [sp_lt]
  exact D_up (D_wC (d_up h))
theorem D_P1 {m : fr_N} (h : ¬ m 0 12 = 0) (r : Int32) : ∃ m', (fr_lt (fr_up m 2 3 r) fun n3 => fr_bd2 (fX8_number 1 9 59 n3) fun r4 n4 => fr_lt (fr_up n4 2 4 r4) fun n5 => wC n5) = some m' ∧ ∀ c, c ≠ 2 → m' c = m c := by
  rw [sp_lt, D_number (d_up h), sp_bd2]
  exact D_up (D_P2 (d_up h) _)
theorem D_P0 {m : fr_N} (h : ¬ m 0 12 = 0) : ∃ m', (fr_bd2 (fX8_number 10 150 44 m) fun r2 n2 => fr_lt (fr_up n2 2 3 r2) fun n3 => fr_bd2 (fX8_number 1 9 59 n3) fun r4 n4 => fr_lt (fr_up n4 2 4 r4) fun n5 => wC n5) = some m' ∧ ∀ c, c ≠ 2 → m' c = m c := by
  rw [D_number h, sp_bd2]
  exact D_P1 h _
theorem D_wP {m : fr_N} (h : ¬ m 0 12 = 0) : ∃ m', wP m = some m' ∧ ∀ c, c ≠ 2 → m' c = m c := by
  unfold wP
  rw [D_letter h, sp_bd]
  exact D_P0 h
theorem D_66 {m : fr_N} (h : ¬ m 0 12 = 0) (k : Nat) : ∃ m', fX8_readsAll_66 (k + 1) m = some m' ∧ ∀ c, c ≠ 2 → m' c = m c := by
  rw [w66, D_isLetter h, sp_bd, if_neg Bool.false_ne_true]
  exact D_wP h
theorem D_sort {m : fr_N} (h : ¬ m 0 12 = 0) : fX8_sort m = some (-1000000) := by
  unfold fX8_sort
  rw [D_isLetter h, sp_bd, if_neg Bool.false_ne_true, D_isLetter h, sp_bd, if_neg Bool.false_ne_true, D_isLetter h, sp_bd, if_neg Bool.false_ne_true, D_isLetter h, sp_bd, if_neg Bool.false_ne_true]
theorem D_50 {m : fr_N} (h : ¬ m 0 12 = 0) (k : Nat) : ∃ m', fX8_readsAll_50 (k + 1) m = some m' ∧ ∀ c, c ≠ 2 → m' c = m c := by
  rw [fX8_readsAll_50, D_sort h, sp_bd, if_pos rfl]
  exact D_66 h 1999
/-! a law told by the book -/
theorem F_lawNumber {f : fr_N} {i : Nat} (hi : i < 6) (s : Int32) : fX4_lawNumber (nI i) s f = fr_bd2 (fX4_number (fr_tb1 i) (fr_tb2 i) s f) fun r n => if r = true then some (true, fr_up n 36 i (n 34 3)) else some (false, n) := by
  unfold fX4_lawNumber
  rw [sp_within, sp_bd, decide_eq_true (by rw [nI_toInt (by omega)]; exact ⟨by show (0 : Int) ≤ _; omega, by show _ ≤ (5 : Int); omega⟩), if_pos rfl, sp_ck (by omega) (by omega), sp_ck (by omega) (by omega), nI_clamp (by omega)]
  congr 1
  funext r n
  rw [sp_ck (by omega) (by omega), sp_lt]
theorem VP_law {D : Nat → Nat} (h : VP D) {q v : Nat} (hq : q < 6) (hl : (fr_tb1 q).toInt ≤ (v : Int)) (hg : (v : Int) ≤ (fr_tb2 q).toInt) : VP (uB D q v) := by
  obtain ⟨h0, h1, h2, h3, h4, h5, h6, h7, h8⟩ := h
  have e : ∀ i, 6 ≤ i → uB D q v i = D i := fun i hi => uB_n _ _ (by omega)
  have hv : v ≤ 150 := by
    rcases (show q = 0 ∨ q = 1 ∨ q = 2 ∨ q = 3 ∨ q = 4 ∨ q = 5 by omega) with rfl | rfl | rfl | rfl | rfl | rfl
    · have : (v : Int) ≤ 2 := hg
      omega
    · have : (v : Int) ≤ 29 := hg
      omega
    · have : (v : Int) ≤ 6 := hg
      omega
    · have : (v : Int) ≤ 150 := hg
      omega
    · have : (v : Int) ≤ 9 := hg
      omega
    · have : (v : Int) ≤ 2 := hg
      omega
  refine ⟨fun i => ?_, ?_, ?_, ?_, ?_, by rw [e 6 (by omega)]; exact h5, by rw [e 7 (by omega)]; exact h6, fun x hx => ?_, fun z hz => ?_⟩
  · unfold uB
    split
    · omega
    · exact h0 i
  · by_cases hq0 : 0 = q
    · subst hq0; rw [uB_s]; have : (v : Int) ≤ 2 := hg; omega
    · rw [uB_n _ _ hq0]; exact h1
  · by_cases hq0 : 1 = q
    · subst hq0; rw [uB_s]; have : (v : Int) ≤ 29 := hg; omega
    · rw [uB_n _ _ hq0]; exact h2
  · by_cases hq0 : 2 = q
    · subst hq0; rw [uB_s]; have : (v : Int) ≤ 6 := hg; omega
    · rw [uB_n _ _ hq0]; exact h3
  · by_cases hq0 : 5 = q
    · subst hq0; rw [uB_s]; have : (v : Int) ≤ 2 := hg; omega
    · rw [uB_n _ _ hq0]; exact h4
  · rw [e 6 (by omega)] at hx
    rw [e (9 + 4 * x) (by omega), e (9 + 4 * x + 1) (by omega), e (9 + 4 * x + 2) (by omega), e (9 + 4 * x + 3) (by omega)]
    exact h7 x hx
  · rw [e 7 (by omega)] at hz
    rw [e 6 (by omega), e (57 + 3 * z) (by omega), e (57 + 3 * z + 1) (by omega)]
    exact h8 z hz
theorem MB_up2 {r : fr_N} {B : Nat → Nat} (h : MB (r 2) 0 B) {j v : Nat} : MB (fr_up r 2 j (nI v) 2) 0 (uB B j v) := by
  intro i hi
  rw [Nat.zero_add]
  by_cases hij : i = j
  · subst hij
    rw [sp_up_same, uB_s]
  · rw [sp_up_slot _ _ _ hij, uB_n _ _ hij]
    have := h i hi
    rwa [Nat.zero_add] at this
theorem DR_law {f m : fr_N} {q v : Nat} {D : Nat → Nat} (h : DR f m q D) (hq : q < 6) : DR (fr_up f 36 q (nI v)) (fr_up m 2 q (nI v)) (q + 1) (uB D q v) := by
  obtain ⟨h1, h2, h3, h4, h5, h6, h7⟩ := h
  have e : ∀ i, 6 ≤ i → uB D q v i = D i := fun i hi => uB_n _ _ (by omega)
  unfold DR
  rw [sp_up_cell _ _ _ (show (35 : Nat) ≠ 36 by omega), sp_up_cell _ _ _ (show (37 : Nat) ≠ 36 by omega), sp_up_cell _ _ _ (show (38 : Nat) ≠ 36 by omega), sp_up_cell _ _ _ (show (39 : Nat) ≠ 36 by omega), sp_up_cell _ _ _ (show (40 : Nat) ≠ 36 by omega), sp_up_cell _ _ _ (show (41 : Nat) ≠ 36 by omega), sp_up_cell _ _ _ (show (42 : Nat) ≠ 36 by omega), e 6 (by omega), e 7 (by omega)]
  refine ⟨h1, h2, fun i hi => ?_, fun i hi => ?_, fun z hz => ?_, fun c hc => ?_, MB_up2 h7⟩
  · by_cases hi2 : i = q
    · subst hi2; rw [sp_up_same, uB_s]
    · rw [sp_up_slot _ _ _ hi2, uB_n _ _ hi2]; exact h3 i (by omega)
  · rw [e (9 + i) (by omega)]; exact h4 i hi
  · rw [e (57 + 3 * z) (by omega), e (57 + 3 * z + 1) (by omega), e (57 + 3 * z + 2) (by omega)]; exact h5 z hz
  · rw [e (69 + 2 * c) (by omega), e (69 + 2 * c + 1) (by omega)]; exact h6 c hc
theorem both_lawN {f m : fr_N} {t : Nat} {T : Nat → Nat} {p s q : Nat} {D : Nat → Nat} (h : RN f m t T p) (hD : DR f m q D) (hV : VP D) (hq : q < 6) (hs : s = 44 ∨ s = 59) :
    (∃ p' v f' m1, fX4_lawNumber (nI q) (nI s) f = some (true, f') ∧ fX8_number (fr_tb1 q) (fr_tb2 q) (nI s) m = some (nI v, m1) ∧ RN f' (fr_up m1 2 q (nI v)) t T p' ∧ DR f' (fr_up m1 2 q (nI v)) (q + 1) (uB D q v) ∧ VP (uB D q v) ∧ ((fr_tb1 q).toInt ≤ (v : Int) ∧ (v : Int) ≤ (fr_tb2 q).toInt) ∧ EF f f' ∧ EM m (fr_up m1 2 q (nI v)) ∧ f' 35 = f 35) ∨
    (∃ r f' m', fX4_lawNumber (nI q) (nI s) f = some (false, f') ∧ fX8_number (fr_tb1 q) (fr_tb2 q) (nI s) m = some (r, m') ∧ FA f' m' ∧ EF f f' ∧ EM m m') := by
  rw [F_lawNumber hq]
  rcases both_number h hs (fr_tb1 q) (fr_tb2 q) with ⟨p', v, f', m', e1, e2, e3, e4, e5, e6, e7, e8⟩ | ⟨r, f', m', e1, e2, e3, e4, e5⟩
  · rw [e1, sp_bd2, if_pos rfl, e3]
    refine Or.inl ⟨p', v, _, m', rfl, e2, e6.put (fun c hc => sp_up_cell _ _ _ (by omega)) (fun c hc => sp_up_cell _ _ _ hc), DR_law (hD.read e7 e8) hq, VP_law hV hq e5.1 e5.2, e5, e7.ef.trans (EF.up (by omega)), e8.em.trans EM.up, ?_⟩
    rw [sp_up_cell _ _ _ (by omega), e7 35 (by omega)]
  · rw [e1, sp_bd2, if_neg Bool.false_ne_true]
    exact Or.inr ⟨r, f', m', rfl, e2, e3, e4.ef, e5.em⟩
/-! the end, the choirs, the psalter -/
theorem T_end {f m : fr_N} {t : Nat} {T : Nat → Nat} {p : Nat} {D : Nat → Nat} (h : RN f m t T p) (hD : DR f m 6 D) (hV : VP D) (h3 : 10 ≤ D 3 ∧ D 3 ≤ 150) (h4 : 1 ≤ D 4 ∧ D 4 ≤ 9) (h8 : 2 ≤ D 8 ∧ D 8 ≤ 5) (h35 : f 35 3 = nI (D 8)) : RES f m (zE f) (wE m) := by
  obtain ⟨h2, hp, hTS⟩ := id h
  have h160 := h2.1
  have hpt := hTS.2.2.1
  unfold zE wE fX4_end
  rw [h2.2.1, hp]
  have tok : m 0 10 = 0 ↔ p = t := by
    rcases hTS.2.2.2 with ⟨q1, q2⟩ | ⟨q1, q2, q3, q4, q5, q6⟩ | ⟨q1, q2, q4, q5, q6⟩ | ⟨q1, q2, q3, q4, q5, q6⟩ | ⟨d, q1, q2, q3, q4, q5, q6⟩
    · exact ⟨fun _ => q1, fun _ => q2⟩
    · rw [q4]; exact ⟨fun z => absurd z (by decide), fun z => by omega⟩
    · rw [q4]; exact ⟨fun z => absurd z (by decide), fun z => by omega⟩
    · rw [q6]; exact ⟨fun z => absurd z (by decide), fun z => by omega⟩
    · rcases q6 with ⟨-, q7, -⟩ | ⟨-, q7⟩
      · rw [q7]; exact ⟨fun z => absurd z (by decide), fun z => by omega⟩
      · rw [q7]; exact ⟨fun z => absurd z (by decide), fun z => by omega⟩
  by_cases e : p = t
  · rw [if_pos ((n_le (by omega) (by omega)).mpr (by omega)), sp_bd2, if_pos rfl, if_pos (tok.mpr e)]
    obtain ⟨v0, v1, v2, v3, v4, v5, v6, v7, v8⟩ := hV
    obtain ⟨d1, d2, d3, d4, d5, d6, d7⟩ := hD
    exact Or.inl ⟨f, m, D, rfl, rfl, hTS.1, ⟨v0, v1, v2, v3, v4, v5, v6, h8.2, fun z => absurd z (by omega), fun _ => ⟨h8.1, h3.1, h3.2, h4.1, h4.2⟩, v7, v8⟩, by omega, ⟨d1, d2, h35, d3, d4, d5, d6⟩, d7, fun _ _ => rfl, ⟨fun _ _ _ => rfl, fun _ _ => rfl⟩⟩
  · obtain ⟨f', g1, g2, g3, g4⟩ := F_fail hp 1
    obtain ⟨m', k1, k2, k3, k4⟩ := M_bad hTS.1 hTS.2.1 1
    rw [if_neg (fun z => by have := (n_le (by omega) (by omega)).mp z; omega), g1, sp_bd2, if_neg Bool.false_ne_true, sp_bd2, if_neg Bool.false_ne_true, if_neg (fun z => e (tok.mp z)), k1, sp_bd]
    exact Or.inr ⟨f', m', rfl, rfl, ⟨1, p, by omega, by omega, by omega, g2, k2, g3, k3⟩, g4.ef, k4.em⟩
theorem T_choirs {f m : fr_N} {t : Nat} {T : Nat → Nat} {p : Nat} {D : Nat → Nat} (h : RN f m t T p) (hD : DR f m 5 D) (hV : VP D) (h3 : 10 ≤ D 3 ∧ D 3 ≤ 150) (h4 : 1 ≤ D 4 ∧ D 4 ≤ 9) : RES f m (zC f) (wC m) := by
  unfold zC wC fX4_choirs
  rcases both_sign (c := 99) h (by omega) with ⟨p1, f1, m1, e1, e2, e3, e4, e5⟩ | ⟨f1, m1, e1, e2, e3, e4, e5⟩
  · rw [show fX4_sign 99 f = _ from e1, show fX8_letter 99 m = _ from e2, sp_bd2, if_pos rfl, sp_bd]
    refine RES.behind e4.ef e5.em ?_
    rcases both_number (s := 44) e3 (Or.inl rfl) 2 5 with ⟨p2, v, f2, m2, a1, a2, a3, a4, a5, a6, a7, a8⟩ | ⟨r, f2, m2, a1, a2, a3, a4, a5⟩
    · have a5' : 2 ≤ v ∧ v ≤ 5 := by
        have q1 : (2 : Int) ≤ v := a5.1
        have q2 : (v : Int) ≤ 5 := a5.2
        omega
      rw [show fX4_number 2 5 44 f1 = _ from a1, show fX8_number 2 5 44 m1 = _ from a2, sp_bd2, if_pos rfl, sp_bd2, sp_lt, sp_lt, a3]
      refine RES.behind (a7.ef.trans (EF.up (c := 35) (j := 3) (v := nI v) (by omega))) (a8.em.trans (EM.up (j := 8) (v := nI v))) ?_
      have hD2 := (hD.read e4 e5).read a7 a8
      have r2 : RN (fr_up f2 35 3 (nI v)) (fr_up m2 2 8 (nI v)) t T p2 := a6.put (fun c hc => sp_up_cell _ _ _ (by omega)) (fun c hc => sp_up_cell _ _ _ hc)
      have e : ∀ i, i ≠ 8 → uB D 8 v i = D i := fun i hi => uB_n _ _ hi
      have hD3 : DR (fr_up f2 35 3 (nI v)) (fr_up m2 2 8 (nI v)) 5 (uB D 8 v) := by
        obtain ⟨d1, d2, d3, d4, d5, d6, d7⟩ := hD2
        unfold DR
        rw [sp_up_slot _ _ _ (show (1 : Nat) ≠ 3 by omega), sp_up_slot _ _ _ (show (2 : Nat) ≠ 3 by omega), sp_up_cell _ _ _ (show (36 : Nat) ≠ 35 by omega), sp_up_cell _ _ _ (show (37 : Nat) ≠ 35 by omega), sp_up_cell _ _ _ (show (38 : Nat) ≠ 35 by omega), sp_up_cell _ _ _ (show (39 : Nat) ≠ 35 by omega), sp_up_cell _ _ _ (show (40 : Nat) ≠ 35 by omega), sp_up_cell _ _ _ (show (41 : Nat) ≠ 35 by omega), sp_up_cell _ _ _ (show (42 : Nat) ≠ 35 by omega), e 6 (by omega), e 7 (by omega)]
        refine ⟨d1, d2, fun i hi => ?_, fun i hi => ?_, fun z hz => ?_, fun c hc => ?_, MB_up2 d7⟩
        · rw [e i (by omega)]; exact d3 i hi
        · rw [e (9 + i) (by omega)]; exact d4 i hi
        · rw [e (57 + 3 * z) (by omega), e (57 + 3 * z + 1) (by omega), e (57 + 3 * z + 2) (by omega)]; exact d5 z hz
        · rw [e (69 + 2 * c) (by omega), e (69 + 2 * c + 1) (by omega)]; exact d6 c hc
      have hV3 : VP (uB D 8 v) := by
        obtain ⟨v0, v1, v2, v3, v4, v5, v6, v7, v8⟩ := hV
        unfold VP
        rw [e 0 (by omega), e 1 (by omega), e 2 (by omega), e 5 (by omega), e 6 (by omega), e 7 (by omega)]
        refine ⟨fun i => ?_, v1, v2, v3, v4, v5, v6, fun x hx => ?_, fun z hz => ?_⟩
        · unfold uB
          split
          · omega
          · exact v0 i
        · rw [e (9 + 4 * x) (by omega), e (9 + 4 * x + 1) (by omega), e (9 + 4 * x + 2) (by omega), e (9 + 4 * x + 3) (by omega)]; exact v7 x hx
        · rw [e (57 + 3 * z) (by omega), e (57 + 3 * z + 1) (by omega)]; exact v8 z hz
      rcases both_lawN (q := 5) (s := 59) r2 hD3 hV3 (by omega) (Or.inr rfl) with ⟨p3, w, f3, m3, b1, b2, b3, b4, b5, b6, b7, b8, b9⟩ | ⟨r, f3, m3, b1, b2, b3, b4, b5⟩
      · rw [show fX4_lawNumber 5 59 (fr_up f2 35 3 (nI v)) = _ from b1, show fX8_number 0 2 59 (fr_up m2 2 8 (nI v)) = _ from b2, sp_bd2, sp_bd2, if_pos rfl, sp_bd2, sp_lt]
        refine RES.behind b7 b8 ?_
        have e5 : ∀ i, i ≠ 5 → uB (uB D 8 v) 5 w i = uB D 8 v i := fun i hi => uB_n _ _ hi
        exact T_end b3 b4 b5 (by rw [e5 3 (by omega), e 3 (by omega)]; exact h3) (by rw [e5 4 (by omega), e 4 (by omega)]; exact h4) (by rw [e5 8 (by omega), uB_s]; exact a5') (by rw [b9, sp_up_same, e5 8 (by omega), uB_s])
      · rw [show fX4_lawNumber 5 59 (fr_up f2 35 3 (nI v)) = _ from b1, show fX8_number 0 2 59 (fr_up m2 2 8 (nI v)) = _ from b2, sp_bd2, sp_bd2, if_neg Bool.false_ne_true, sp_bd2]
        exact RES.fail b4 b5 b3 (D_C2 b3.dead r)
    · rw [show fX4_number 2 5 44 f1 = _ from a1, show fX8_number 2 5 44 m1 = _ from a2, sp_bd2, if_neg Bool.false_ne_true, sp_bd2, if_neg Bool.false_ne_true, sp_bd2]
      exact RES.fail a4.ef a5.em a3 (D_C1 a3.dead r)
  · rw [show fX4_sign 99 f = _ from e1, show fX8_letter 99 m = _ from e2, sp_bd2, if_neg Bool.false_ne_true, sp_bd2, if_neg Bool.false_ne_true, sp_bd]
    exact RES.fail e4.ef e5.em e3 (D_C0 e3.dead)
theorem T_psalter {f m : fr_N} {t : Nat} {T : Nat → Nat} {p : Nat} {D : Nat → Nat} (h : RN f m t T p) (hD : DR f m 3 D) (hV : VP D) : RES f m (zP f) (wP m) := by
  unfold zP wP fX4_psalter
  rcases both_sign (c := 112) h (by omega) with ⟨p1, f1, m1, e1, e2, e3, e4, e5⟩ | ⟨f1, m1, e1, e2, e3, e4, e5⟩
  · rw [show fX4_sign 112 f = _ from e1, show fX8_letter 112 m = _ from e2, sp_bd2, if_pos rfl, sp_bd]
    refine RES.behind e4.ef e5.em ?_
    rcases both_lawN (q := 3) (s := 44) e3 (hD.read e4 e5) hV (by omega) (Or.inl rfl) with ⟨p2, v, f2, m2, b1, b2, b3, b4, b5, b6, b7, b8, b9⟩ | ⟨r, f2, m2, b1, b2, b3, b4, b5⟩
    · rw [show fX4_lawNumber 3 44 f1 = _ from b1, show fX8_number 10 150 44 m1 = _ from b2, sp_bd2, if_pos rfl, sp_bd2, sp_lt]
      refine RES.behind b7 b8 ?_
      rcases both_lawN (q := 4) (s := 59) b3 b4 b5 (by omega) (Or.inr rfl) with ⟨p3, w, f3, m3, c1, c2, c3, c4, c5, c6, c7, c8, c9⟩ | ⟨r, f3, m3, c1, c2, c3, c4, c5⟩
      · rw [show fX4_lawNumber 4 59 f2 = _ from c1, show fX8_number 1 9 59 (fr_up m2 2 3 (nI v)) = _ from c2, sp_bd2, if_pos rfl, sp_bd2, if_pos rfl, sp_bd2, sp_lt]
        refine RES.behind c7 c8 (T_choirs c3 c4 c5 ?_ ?_)
        · rw [uB_n _ _ (by omega), uB_s]
          have q1 : (10 : Int) ≤ v := b6.1
          have q2 : (v : Int) ≤ 150 := b6.2
          omega
        · rw [uB_s]
          have q1 : (1 : Int) ≤ w := c6.1
          have q2 : (w : Int) ≤ 9 := c6.2
          omega
      · rw [show fX4_lawNumber 4 59 f2 = _ from c1, show fX8_number 1 9 59 (fr_up m2 2 3 (nI v)) = _ from c2, sp_bd2, if_neg Bool.false_ne_true, sp_bd2, if_neg Bool.false_ne_true, sp_bd2]
        exact RES.fail c4 c5 c3 (D_P2 c3.dead r)
    · rw [show fX4_lawNumber 3 44 f1 = _ from b1, show fX8_number 10 150 44 m1 = _ from b2, sp_bd2, if_neg Bool.false_ne_true, sp_bd2, if_neg Bool.false_ne_true, sp_bd2]
      exact RES.fail b4 b5 b3 (D_P1 b3.dead r)
  · rw [show fX4_sign 112 f = _ from e1, show fX8_letter 112 m = _ from e2, sp_bd2, if_neg Bool.false_ne_true, sp_bd2, if_neg Bool.false_ne_true, sp_bd]
    exact RES.fail e4.ef e5.em e3 (D_P0 e3.dead)
