/-! THE REFERENCE'S SETTLING -/
theorem n_lt {a b : Nat} (ha : a < 2 ^ 31) (hb : b < 2 ^ 31) : nI a < nI b ↔ a < b := by rw [fa_lt, nI_toInt ha, nI_toInt hb]; omega
theorem n_le {a b : Nat} (ha : a < 2 ^ 31) (hb : b < 2 ^ 31) : nI a ≤ nI b ↔ a ≤ b := by rw [fa_le, nI_toInt ha, nI_toInt hb]; omega
theorem n_0 {a : Nat} (ha : a < 2 ^ 31) : nI a = 0 ↔ a = 0 := nI_eq (b := 0) ha (by omega)
theorem M_isFree {m : fr_N} {d : Nat} {h : Nat → Nat} (hd : d ≤ 366) (hh : m 7 d = nI (h d)) (hb : h d < 1000) : fX8_isFree (nI d) m = some (decide (h d = 0)) := by
  unfold fX8_isFree
  rw [sp_ck (by omega) (by omega), nI_clamp (by omega), hh]
  by_cases h0 : h d = 0
  · rw [if_pos (by rw [h0]; rfl), decide_eq_true h0]
  · rw [if_neg (fun z => h0 ((n_0 (by omega)).mp z)), decide_eq_false h0]
theorem M_freeBehind {m : fr_N} {D la : Nat} {h : Nat → Nat} (hD : m 0 20 = nI D) (hD2 : D ≤ 366) (hla : la ≤ 1000) (hh : ∀ d, d ≤ 366 → m 7 d = nI (h d)) (hb : ∀ d, h d < 1000) : ∀ (k d : Nat), 1 ≤ d → d ≤ 1000 → min la D + 1 - d < k → fX8_freeBehind_4 m k (nI la) (nI d) = some (nd (ff h d (min la D + 1 - d)))
  | 0, _, _, _, hk => absurd hk (by omega)
  | k + 1, d, hd, hdl, hk => by
    rw [fX8_freeBehind_4, hD]
    by_cases he : la < d
    · rw [if_pos ((n_lt (by omega) (by omega)).mpr he), show min la D + 1 - d = 0 by omega]
      rfl
    · rw [if_neg (fun z => he ((n_lt (by omega) (by omega)).mp z))]
      by_cases he2 : D < d
      · rw [if_pos ((n_lt (by omega) (by omega)).mpr he2), show min la D + 1 - d = 0 by omega]
        rfl
      · rw [if_neg (fun z => he2 ((n_lt (by omega) (by omega)).mp z)), M_isFree (by omega) (hh d (by omega)) (hb d), sp_bd, show min la D + 1 - d = (min la D - d) + 1 by omega, ff]
        by_cases h0 : h d = 0
        · rw [decide_eq_true h0, if_pos rfl, if_pos h0, nd_n (by omega)]
        · rw [decide_eq_false h0, if_neg (by decide), if_neg h0, nI_1, M_freeBehind hD hD2 hla hh hb k (d + 1) (by omega) (by omega) (by omega), show min la D + 1 - (d + 1) = min la D - d by omega]
theorem nd_pos {d : Nat} (h : d < 1000) : nd d ≤ 0 ↔ d = 0 := by
  unfold nd
  by_cases h0 : d = 0
  · rw [if_pos h0]
    exact ⟨fun _ => h0, fun _ => by decide⟩
  · rw [if_neg h0, show (0 : Int32) = nI 0 from rfl, n_le (by omega) (by omega)]
    omega
/-- a feast is noted -/
def hM (f d a : Nat) (L : LL) : LL := (uB L.1 f a, uB L.2.1 f d, if d = 0 ∨ 2 < a then L.2.2 else uB L.2.2 d (f + 1))
theorem M_holds {m : fr_N} {F f d a : Nat} {L : LL} (hf : f < F) (hF : F ≤ 12) (hd : d ≤ 366) (ha : a ≤ 5) (hL' : ML m F L) : ∃ m', fX8_holds (nI f) (nI a) (nd d) m = some m' ∧ ML m' F (hM f d a L) ∧ ∀ c, c ≠ 7 → c ≠ 9 → c ≠ 10 → m' c = m c := by
  unfold fX8_holds
  rw [sp_ck (by omega) (by omega), sp_lt, sp_ck (by omega) (by omega), sp_lt, nI_clamp (by omega)]
  have g9 : ∀ g, g < F → fr_up (fr_up m 9 f (nI a)) 10 f (nd d) 9 g = nI (uB L.1 f a g) := by
    intro g hg
    rw [sp_up_cell _ _ _ (by omega)]
    by_cases hgf : g = f
    · subst hgf; rw [sp_up_same, uB_s]
    · rw [sp_up_slot _ _ _ hgf, uB_n _ _ hgf]; exact (hL'.1 g hg).1
  have g10 : ∀ g, g < F → fr_up (fr_up m 9 f (nI a)) 10 f (nd d) 10 g = nd (uB L.2.1 f d g) := by
    intro g hg
    by_cases hgf : g = f
    · subst hgf; rw [sp_up_same, uB_s]
    · rw [sp_up_slot _ _ _ hgf, sp_up_cell _ _ _ (by omega), uB_n _ _ hgf]; exact (hL'.1 g hg).2
  have g7 : ∀ e, e ≤ 366 → fr_up (fr_up m 9 f (nI a)) 10 f (nd d) 7 e = nI (L.2.2 e) := by
    intro e he
    rw [sp_up_cell _ _ _ (by omega), sp_up_cell _ _ _ (by omega)]; exact hL'.2 e he
  have gc : ∀ c, c ≠ 7 → c ≠ 9 → c ≠ 10 → fr_up (fr_up m 9 f (nI a)) 10 f (nd d) c = m c := by
    intro c h7 h9 h10
    rw [sp_up_cell _ _ _ h10, sp_up_cell _ _ _ h9]
  by_cases h0 : d = 0
  · rw [if_pos ((nd_pos (by omega)).mpr h0)]
    refine ⟨_, rfl, ⟨fun g hg => ⟨g9 g hg, g10 g hg⟩, fun e he => ?_⟩, gc⟩
    unfold hM; rw [if_pos (Or.inl h0)]; exact g7 e he
  · rw [if_neg (fun z => h0 ((nd_pos (by omega)).mp z))]
    by_cases h2 : 2 < a
    · rw [if_pos (show (2 : Int32) < nI a from (n_lt (a := 2) (by omega) (by omega)).mpr h2)]
      refine ⟨_, rfl, ⟨fun g hg => ⟨g9 g hg, g10 g hg⟩, fun e he => ?_⟩, gc⟩
      unfold hM; rw [if_pos (Or.inr h2)]; exact g7 e he
    · rw [if_neg (show ¬ (2 : Int32) < nI a from fun z => h2 ((n_lt (a := 2) (by omega) (by omega)).mp z)), nd_n h0, sp_ck (by omega) (by omega), sp_lt, nI_clamp (by omega), nI_1, ← nd_n h0]
      refine ⟨_, rfl, ⟨fun g hg => ⟨?_, ?_⟩, fun e he => ?_⟩, fun c h7 h9 h10 => ?_⟩
      · rw [sp_up_cell _ _ _ (by omega)]; exact g9 g hg
      · rw [sp_up_cell _ _ _ (by omega)]; exact g10 g hg
      · unfold hM; rw [if_neg (by omega)]
        by_cases hed : e = d
        · subst hed; rw [sp_up_same]; show _ = nI (uB L.2.2 e (f + 1) e); rw [uB_s]
        · rw [sp_up_slot _ _ _ hed]; show _ = nI (uB L.2.2 d (f + 1) e); rw [uB_n _ _ hed]; exact g7 e he
      · rw [sp_up_cell _ _ _ h7]; exact gc c h7 h9 h10
theorem uB_self {v : Nat → Nat} {i x : Nat} (h : v i = x) : uB v i x = v := by
  funext j
  by_cases hj : j = i
  · subst hj; rw [uB_s, h]
  · rw [uB_n _ _ hj]
theorem M_settle {m : fr_N} {F f d r D s : Nat} {L : LL} (hf : f < F) (hF : F ≤ 12) (hD : m 0 20 = nI D) (hs : m 0 21 = nI s) (hs7 : s < 7) (hD2 : D ≤ 366) (hd : 1 ≤ d ∧ d ≤ D) (hr : 1 ≤ r ∧ r ≤ 5) (ho : m 8 f = nI d) (hk : m 1 (9 + 4 * f + 2) = nI r) (hL' : ML m F L) (hV : LV F L) (hz : L.2.1 f = 0) : ∃ m', fX8_comes (nI f) m = some m' ∧ ML m' F (sS s D d r f L) ∧ ∀ c, c ≠ 7 → c ≠ 9 → c ≠ 10 → m' c = m c := by
  have hb : ∀ d, L.2.2 d < 1000 := fun d => Nat.lt_of_le_of_lt (hV.2 d) (by omega)
  have hfree := M_isFree (m := m) (h := L.2.2) (d := d) (by omega) (hL'.2 d (by omega)) (hb d)
  have hh : ∀ e a, e ≤ 366 → a ≤ 5 → ∃ m', fr_bd (fX8_holds (nI f) (nI a) (nd e) m) (fun n => some n) = some m' ∧ ML m' F (hM f e a L) ∧ ∀ c, c ≠ 7 → c ≠ 9 → c ≠ 10 → m' c = m c := by
    intro e a h1 h2
    obtain ⟨m', g1, g2⟩ := M_holds hf hF h1 h2 hL'
    rw [g1, sp_bd]
    exact ⟨m', rfl, g2⟩
  have hh2 : ∀ e a, 1 ≤ e → e ≤ 366 → a ≤ 5 → ∃ m', fr_bd (fX8_holds (nI f) (nI a) (nI e) m) (fun n => some n) = some m' ∧ ML m' F (hM f e a L) ∧ ∀ c, c ≠ 7 → c ≠ 9 → c ≠ 10 → m' c = m c := by
    intro e a h0 h1 h2
    have := hh e a h1 h2
    rw [nd_n (by omega)] at this
    exact this
  have z1 : ∀ e a, 1 ≤ e → a ≤ 2 → hM f e a L = hL f e a L := by
    intro e a h1 h2
    unfold hM hL
    rw [if_neg (by omega)]
  have p57 : ∃ m', fX8_comes_57 (nI f) (nI d) (nI r) m = some m' ∧ ML m' F (if ff L.2.2 (d + 1) (nT r d D) = 0 then (if r = 3 ∨ r = 2 then (uB L.1 f 3, uB L.2.1 f d, L.2.2) else (uB L.1 f (if r = 1 then 4 else 5), L.2.1, L.2.2)) else hL f (ff L.2.2 (d + 1) (nT r d D)) 2 L) ∧ ∀ c, c ≠ 7 → c ≠ 9 → c ≠ 10 → m' c = m c := by
    unfold fX8_comes_57
    have bd := ff_bd L.2.2 (nT r d D) (d + 1)
    have hnT : nT r d D ≤ D - d := by unfold nT; split <;> (try split) <;> omega
    by_cases r3 : r ≤ 3
    · rw [if_pos (show nI r ≤ 3 from (n_le (b := 3) (by omega) (by omega)).mpr r3)]
      by_cases r4 : r = 3
      · rw [if_pos (show nI r = 3 by rw [r4]; rfl)]
        unfold fX8_freeBehind
        rw [show nI d + 7 = nI (d + 7) from nI_add d 7, nI_1, M_freeBehind hD hD2 (by omega) hL'.2 hb 2000 (d + 1) (by omega) (by omega) (by omega), sp_bd, show min (d + 7) D + 1 - (d + 1) = nT r d D by unfold nT; rw [if_neg (by omega), if_pos r4]; omega]
        rcases bd with e0 | ⟨e1, e2, e3⟩
        · rw [e0, if_pos nd_0, if_pos rfl, if_pos (Or.inl r4)]
          unfold fX8_comes_125 fX8_comes_138
          rw [if_pos nd_0]
          have := hh2 d 3 (by omega) (by omega) (by omega)
          unfold hM at this
          rw [if_pos (Or.inr (by omega))] at this
          exact this
        · have ne : ¬ nd (ff L.2.2 (d + 1) (nT r d D)) = -1000000 := fun z => by have := (nd_iff (d := ff L.2.2 (d + 1) (nT r d D)) (by omega)).mp z; omega
          rw [if_neg ne, if_neg (by omega)]
          unfold fX8_comes_125 fX8_comes_138
          rw [if_neg ne, ← z1 _ 2 (by omega) (by omega)]
          exact hh (ff L.2.2 (d + 1) (nT r d D)) 2 (by omega) (by omega)
      · have n0 : nT r d D = 0 := by unfold nT; rw [if_neg (by omega), if_neg r4]
        rw [if_neg (show ¬ nI r = 3 from fun z => r4 ((nI_eq (b := 3) (by omega) (by omega)).mp z)), n0, show ff L.2.2 (d + 1) 0 = 0 from rfl, if_pos rfl]
        unfold fX8_comes_156 fX8_comes_167
        by_cases r2 : r = 2
        · rw [if_pos (show nI r = 2 by rw [r2]; rfl), if_pos (show nI r = 2 by rw [r2]; rfl), if_pos (Or.inr r2)]
          have := hh2 d 3 (by omega) (by omega) (by omega)
          unfold hM at this
          rw [if_pos (Or.inr (by omega))] at this
          exact this
        · have nr2 : ¬ nI r = 2 := fun z => r2 ((nI_eq (b := 2) (by omega) (by omega)).mp z)
          rw [if_neg nr2, if_neg nr2, if_neg (show ¬ (r = 3 ∨ r = 2) by omega), if_pos (show r = 1 by omega)]
          have := hh 0 4 (by omega) (by omega)
          unfold hM at this
          rw [if_pos (Or.inl rfl), uB_self hz] at this
          exact this
    · rw [if_neg (show ¬ nI r ≤ 3 from fun z => r3 ((n_le (b := 3) (by omega) (by omega)).mp z))]
      unfold fX8_freeBehind
      rw [hD, nI_1, M_freeBehind hD hD2 (by omega) hL'.2 hb 2000 (d + 1) (by omega) (by omega) (by omega), sp_bd, show min D D + 1 - (d + 1) = nT r d D by unfold nT; rw [if_pos (by omega)]; omega]
      unfold fX8_comes_87
      rcases bd with e0 | ⟨e1, e2, e3⟩
      · rw [e0, if_pos nd_0, if_pos rfl, if_neg (show ¬ (r = 3 ∨ r = 2) by omega), if_neg (show ¬ r = 1 by omega)]
        have := hh 0 5 (by omega) (by omega)
        unfold hM at this
        rw [if_pos (Or.inl rfl), uB_self hz] at this
        exact this
      · have ne : ¬ nd (ff L.2.2 (d + 1) (nT r d D)) = -1000000 := fun z => by have := (nd_iff (d := ff L.2.2 (d + 1) (nT r d D)) (by omega)).mp z; omega
        rw [if_neg ne, if_neg (by omega), ← z1 _ 2 (by omega) (by omega)]
        exact hh (ff L.2.2 (d + 1) (nT r d D)) 2 (by omega) (by omega)
  have p32 : ∀ z : Bool, (z = true ↔ 2 < r ∨ wk s d ≠ 0) → ∃ m', fX8_comes_32 (nI f) (nI d) (nI r) z m = some m' ∧ ML m' F (sS s D d r f L) ∧ ∀ c, c ≠ 7 → c ≠ 9 → c ≠ 10 → m' c = m c := by
    intro z hz2
    unfold fX8_comes_32 sS
    rw [hfree, sp_bd]
    by_cases h0 : L.2.2 d = 0
    · rw [decide_eq_true h0, if_pos rfl]
      by_cases hz3 : z = true
      · rw [if_pos hz3, if_pos (show L.2.2 d = 0 ∧ (2 < r ∨ wk s d ≠ 0) from ⟨h0, hz2.mp hz3⟩), ← z1 d 1 (by omega) (by omega)]
        exact hh2 d 1 (by omega) (by omega) (by omega)
      · rw [if_neg hz3, if_neg (show ¬ (L.2.2 d = 0 ∧ (2 < r ∨ wk s d ≠ 0)) from fun q => hz3 (hz2.mpr q.2))]
        exact p57
    · rw [decide_eq_false h0, if_neg (by decide), if_neg (show ¬ (L.2.2 d = 0 ∧ (2 < r ∨ wk s d ≠ 0)) from fun q => h0 q.1)]
      exact p57
  unfold fX8_comes
  rw [sp_ck (by omega) (by omega), nI_clamp (by omega), ho, show fX8_of (nI f) 2 m = some (m 1 (9 + 4 * f + 2)) from sp_mof (w := 2) (by omega) (by omega), sp_bd, hk]
  by_cases r2 : 2 < r
  · rw [if_pos (show (2 : Int32) < nI r from (n_lt (a := 2) (by omega) (by omega)).mpr r2)]
    exact p32 true ⟨fun _ => Or.inl r2, fun _ => rfl⟩
  · rw [if_neg (show ¬ (2 : Int32) < nI r from fun z => r2 ((n_lt (a := 2) (by omega) (by omega)).mp z)), M_weekday hs hs7 (by omega), sp_bd]
    have hw : wk s d < 7 := Nat.mod_lt _ (by omega)
    by_cases hw0 : wk s d = 0
    · rw [if_pos (by rw [hw0]; rfl)]
      exact p32 false ⟨fun q => absurd q (by decide), fun q => by omega⟩
    · rw [if_neg (fun z => hw0 ((n_0 (by omega)).mp z))]
      exact p32 true ⟨fun _ => Or.inr hw0, fun _ => rfl⟩
