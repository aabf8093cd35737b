/-! OWN DAYS; how a feast is settled -/
/-- a day, or none -/
def nd (d : Nat) : Int32 := if d = 0 then -1000000 else nI d
theorem nd_0 : nd 0 = -1000000 := rfl
theorem nd_n {d : Nat} (h : d ≠ 0) : nd d = nI d := if_neg h
theorem nd_iff {d : Nat} (h : d < 1000) : nd d = -1000000 ↔ d = 0 := by
  constructor
  · intro e
    rcases Nat.eq_zero_or_pos d with h0 | h0
    · exact h0
    · rw [nd_n (by omega), fa_eq, nI_toInt (by omega)] at e
      exact absurd e (by show ¬ (d : Int) = -1000000; omega)
  · rintro rfl; rfl
theorem nd_eq {a b : Nat} (ha : a < 1000) (hb : b < 1000) : nd a = nd b ↔ a = b := by
  constructor
  · intro h
    by_cases h0 : a = 0
    · subst h0
      rw [nd_0] at h
      exact ((nd_iff hb).mp h.symm).symm
    · by_cases h1 : b = 0
      · subst h1
        rw [nd_0] at h
        exact absurd ((nd_iff ha).mp h) h0
      · rw [nd_n h0, nd_n h1, nI_eq (by omega) (by omega)] at h
        exact h
  · rintro rfl; rfl
def ud (B : Nat → Nat) (y f : Nat) : Nat := if B (9 + 4 * f) = 0 then sg B y - B (9 + 4 * f + 1) else if B (9 + 4 * f) = 1 then sg B y + B (9 + 4 * f + 1) else if B (9 + 4 * f) = 2 then sf (st B y) (dd (B 0) y (B (9 + 4 * f + 1))) else dd (B 0) y (B (9 + 4 * f + 1))
def od (B : Nat → Nat) (y f : Nat) : Nat := if 1 ≤ ud B y f ∧ ud B y f ≤ dy (B 0) y then ud B y f else 0
theorem dy_bd (l y : Nat) : 365 ≤ dy l y ∧ dy l y ≤ 366 := by
  rcases dy_cases l y with ⟨_, h⟩ | ⟨_, h⟩ <;> omega
theorem od_bd (B : Nat → Nat) (y f : Nat) : od B y f ≤ dy (B 0) y := by
  unfold od
  split
  · next h => exact h.2
  · omega
theorem sg_bd (B : Nat → Nat) (y : Nat) : 81 ≤ sg B y ∧ sg B y ≤ 117 := by
  have h1 := mo_bd B y
  have h2 := sf_bd (st B y) (mo B y + 1)
  unfold sg
  omega
theorem dd_bd (l y d : Nat) : d ≤ dd l y d ∧ dd l y d ≤ d + 1 := by
  unfold dd
  split <;> omega
theorem F_bound {D d : Nat} (hD : D < 1000) (hd : d < 1000) : fr_bd (fX7_within (nI d) (1 : Int32) (nI D)) (fun r3 => if r3 = true then some (nI d) else some (-1000000 : Int32)) = some (nd (if 1 ≤ d ∧ d ≤ D then d else 0)) := by
  rw [sp_within, sp_bd, nI_toInt (by omega), nI_toInt (by omega)]
  by_cases h : 1 ≤ d ∧ d ≤ D
  · rw [decide_eq_true (show (1 : Int32).toInt ≤ _ ∧ _ from ⟨by show (1 : Int) ≤ _; omega, by omega⟩), if_pos rfl, if_pos h, nd_n (by omega)]
  · rw [decide_eq_false (show ¬ ((1 : Int32).toInt ≤ (d : Int) ∧ _) from fun z => h ⟨by have : (1 : Int) ≤ _ := z.1; omega, by omega⟩), if_neg (by decide), if_neg h]
    rfl
theorem F_ownDayOf {n : fr_N} {B : Nat → Nat} {y f : Nat} (hv : VB B) (hF : FB n 3 B) (hC : CF n B y) (hf : f < B 6) : fX3_ownDayOf (nI f) n = some (nd (od B y f)) := by
  have v6 := hv.2.2.2.2.2.1
  have hD := dy_bd (B 0) y
  have hs := sg_bd B y
  obtain ⟨b0, b1, b2, -, -⟩ := hv.2.2.2.2.2.2.2.2.2.2.1 f hf
  have k0 : fX1_mark_3 (nI f) 0 n = some (nI (B (9 + 4 * f))) := by
    rw [show fX1_mark_3 (nI f) 0 n = some (n 5 (4 * f + 0)) from sp_mark (w := 0) hF.1 v6 hf (by omega)]
    exact congrArg some (hF.2.2.2.2.1 (4 * f) (by omega))
  have k1 : fX1_mark_3 (nI f) 1 n = some (nI (B (9 + 4 * f + 1))) := by
    rw [show fX1_mark_3 (nI f) 1 n = some (n 5 (4 * f + 1)) from sp_mark (w := 1) hF.1 v6 hf (by omega)]
    exact congrArg some (hF.2.2.2.2.1 (4 * f + 1) (by omega))
  have hdd := dd_bd (B 0) y (B (9 + 4 * f + 1))
  have hn : B (9 + 4 * f + 1) ≤ 365 := by omega
  unfold fX3_ownDayOf fX2_ownDay fX2_unboundDay
  rw [k0, sp_bd, k1, sp_bd, hC.1, hC.2.2.2]
  unfold od ud
  rcases (show B (9 + 4 * f) = 0 ∨ B (9 + 4 * f) = 1 ∨ B (9 + 4 * f) = 2 ∨ B (9 + 4 * f) = 3 by omega) with h | h | h | h
  · rw [h, if_pos (show nI 0 = 0 from rfl), sp_bd, if_pos rfl]
    by_cases hlt : B (9 + 4 * f + 1) < sg B y
    · rw [pk_sub (by omega), F_bound (by omega) (by omega), sp_bd]
    · have e : (nI (sg B y) - nI (B (9 + 4 * f + 1))).toInt ≤ 0 := by
        rw [pk_sub_toInt (by omega) (by omega)]
        omega
      rw [sp_within, sp_bd, decide_eq_false (fun z => by have : (1 : Int) ≤ _ := z.1; omega), if_neg (by decide), sp_bd, if_neg (by omega)]
      rfl
  · rw [h, if_neg (show ¬ nI 1 = 0 by decide), if_pos (show nI 1 = 1 from rfl), sp_bd, nI_add, F_bound (by omega) (by omega), sp_bd]
    rfl
  · have hsf := sf_bd (st B y) (dd (B 0) y (B (9 + 4 * f + 1)))
    rw [h, if_neg (show ¬ nI 2 = 0 by decide), if_neg (show ¬ nI 2 = 1 by decide), if_pos (show nI 2 = 2 from rfl), F_dayOfDate hC.1 (by omega), sp_bd, F_sundayFrom hC.2.1 (st_lt B y) (by omega), sp_bd, sp_bd, F_bound (by omega) (by omega), sp_bd]
    rfl
  · rw [h, if_neg (show ¬ nI 3 = 0 by decide), if_neg (show ¬ nI 3 = 1 by decide), if_neg (show ¬ nI 3 = 2 by decide), F_dayOfDate hC.1 (by omega), sp_bd, sp_bd, F_bound (by omega) (by omega), sp_bd]
    rfl
theorem M_bound {m : fr_N} {D d : Nat} (hm : m 0 20 = nI D) (hD : D < 1000) (hd : d < 1000) : fX8_ownDay_72 m (nI d) = some (nd (if 1 ≤ d ∧ d ≤ D then d else 0)) := by
  unfold fX8_ownDay_72
  rw [hm, sp_in, sp_bd, sp_wide, sp_wide, nI_toInt (by omega), nI_toInt (by omega)]
  by_cases h : 1 ≤ d ∧ d ≤ D
  · rw [decide_eq_true (show (1 : Int64).toInt ≤ _ ∧ _ from ⟨by show (1 : Int) ≤ _; omega, by omega⟩), if_pos rfl, if_pos h, nd_n (by omega)]
  · rw [decide_eq_false (show ¬ ((1 : Int64).toInt ≤ (d : Int) ∧ _) from fun z => h ⟨by have : (1 : Int) ≤ _ := z.1; omega, by omega⟩), if_neg (by decide), if_neg h]
    rfl
theorem M_ownDay {m : fr_N} {B : Nat → Nat} {y f : Nat} (hv : VB B) (hM : MB (m 1) 0 B) (hC : CM m B y) (hy : 1 ≤ y ∧ y < 1000) (hf : f < B 6) : fX8_ownDay (nI y) (nI f) m = some (nd (od B y f)) := by
  have v6 := hv.2.2.2.2.2.1
  have hD := dy_bd (B 0) y
  have hs := sg_bd B y
  obtain ⟨b0, b1, b2, -, -⟩ := hv.2.2.2.2.2.2.2.2.2.2.1 f hf
  have l0 : m 1 0 = nI (B 0) := hM 0 (by omega)
  have get : ∀ i, i < 79 → m 1 i = nI (B i) := fun i hi => by have := hM i hi; rwa [Nat.zero_add] at this
  have k0 : fX8_of (nI f) 0 m = some (nI (B (9 + 4 * f))) := by
    rw [show fX8_of (nI f) 0 m = some (m 1 (9 + 4 * f + 0)) from sp_mof (w := 0) (by omega) (by omega)]
    exact congrArg some (get (9 + 4 * f) (by omega))
  have k1 : fX8_of (nI f) 1 m = some (nI (B (9 + 4 * f + 1))) := by
    rw [show fX8_of (nI f) 1 m = some (m 1 (9 + 4 * f + 1)) from sp_mof (w := 1) (by omega) (by omega)]
    exact congrArg some (get (9 + 4 * f + 1) (by omega))
  have hdd := dd_bd (B 0) y (B (9 + 4 * f + 1))
  have hn : B (9 + 4 * f + 1) ≤ 365 := by omega
  unfold fX8_ownDay
  rw [k1, sp_bd, k0, sp_bd]
  unfold od ud
  rcases (show B (9 + 4 * f) = 0 ∨ B (9 + 4 * f) = 1 ∨ B (9 + 4 * f) = 2 ∨ B (9 + 4 * f) = 3 by omega) with h | h | h | h
  · rw [h, if_neg (show ¬ nI 0 = 3 by decide), if_neg (show ¬ nI 0 = 2 by decide), if_neg (show ¬ nI 0 = 1 by decide), M_spring hv hM hC hy, sp_bd, if_pos rfl]
    by_cases hlt : B (9 + 4 * f + 1) < sg B y
    · rw [pk_sub (by omega), M_bound hC.1 (by omega) (by omega)]
    · have e : (nI (sg B y) - nI (B (9 + 4 * f + 1))).toInt ≤ 0 := by
        rw [pk_sub_toInt (by omega) (by omega)]
        omega
      unfold fX8_ownDay_72
      rw [sp_in, sp_bd, sp_wide, decide_eq_false (fun z => by have : (1 : Int) ≤ _ := z.1; omega), if_neg (by decide), if_neg (by omega)]
      rfl
  · rw [h, if_neg (show ¬ nI 1 = 3 by decide), if_neg (show ¬ nI 1 = 2 by decide), if_pos (show nI 1 = 1 from rfl), M_spring hv hM hC hy, sp_bd, nI_add, M_bound hC.1 (by omega) (by omega)]
    rfl
  · have hsf := sf_bd (st B y) (dd (B 0) y (B (9 + 4 * f + 1)))
    rw [h, if_neg (show ¬ nI 2 = 3 by decide), if_pos (show nI 2 = 2 from rfl), M_dayOfDate l0 hv.2.1 hy.2 (by omega), sp_bd, M_sunday hC.2 (st_lt B y) (by omega), sp_bd, M_bound hC.1 (by omega) (by omega)]
    rfl
  · rw [h, if_pos (show nI 3 = 3 from rfl), M_dayOfDate l0 hv.2.1 hy.2 (by omega), sp_bd, M_bound hC.1 (by omega) (by omega)]
    rfl
/-! a layout: how each feast is, its day, who holds a day (and 1) -/
abbrev LL : Type := (Nat → Nat) × (Nat → Nat) × (Nat → Nat)
def nh (x : Nat) : Int32 := if x = 0 then -1 else nI (x - 1)
def FL (n : fr_N) (F : Nat) (L : LL) : Prop := (∀ f, f < F → n 14 f = nI (L.1 f) ∧ n 15 f = nd (L.2.1 f)) ∧ ∀ d, d ≤ 366 → n 16 d = nh (L.2.2 d)
def ML (m : fr_N) (F : Nat) (L : LL) : Prop := (∀ f, f < F → m 9 f = nI (L.1 f) ∧ m 10 f = nd (L.2.1 f)) ∧ ∀ d, d ≤ 366 → m 7 d = nI (L.2.2 d)
def LV (F : Nat) (L : LL) : Prop := (∀ f, L.1 f ≤ 5 ∧ L.2.1 f ≤ 366) ∧ ∀ d, L.2.2 d ≤ F
theorem nh_iff {x : Nat} (h : x < 1000) : nh x = -1 ↔ x = 0 := by
  unfold nh
  constructor
  · intro e
    by_cases h0 : x = 0
    · exact h0
    · rw [if_neg h0, fa_eq, nI_toInt (by omega)] at e
      exact absurd e (by show ¬ ((x - 1 : Nat) : Int) = -1; omega)
  · rintro rfl; rfl
/-- the first free day of n days from d on -/
def ff (h : Nat → Nat) : Nat → Nat → Nat
  | _, 0 => 0
  | d, n + 1 => if h d = 0 then d else ff h (d + 1) n
theorem ff_bd (h : Nat → Nat) : ∀ n d, ff h d n = 0 ∨ (d ≤ ff h d n ∧ ff h d n < d + n ∧ h (ff h d n) = 0)
  | 0, d => Or.inl rfl
  | n + 1, d => by
    rw [ff]
    by_cases hd : h d = 0
    · rw [if_pos hd]
      exact Or.inr ⟨Nat.le_refl _, by omega, hd⟩
    · rw [if_neg hd]
      rcases ff_bd h n (d + 1) with h1 | ⟨h1, h2, h3⟩
      · exact Or.inl h1
      · exact Or.inr ⟨by omega, by omega, h3⟩
def hL (f d a : Nat) (L : LL) : LL := (uB L.1 f a, uB L.2.1 f d, uB L.2.2 d (f + 1))
def nT (r d D : Nat) : Nat := if 3 < r then D - d else if r = 3 then min (d + 7) D - d else 0
/-- a feast comes -/
def sS (s D d r f : Nat) (L : LL) : LL := if L.2.2 d = 0 ∧ (2 < r ∨ wk s d ≠ 0) then hL f d 1 L else if ff L.2.2 (d + 1) (nT r d D) = 0 then (if r = 3 ∨ r = 2 then (uB L.1 f 3, uB L.2.1 f d, L.2.2) else (uB L.1 f (if r = 1 then 4 else 5), L.2.1, L.2.2)) else hL f (ff L.2.2 (d + 1) (nT r d D)) 2 L
theorem F_isFree {n : fr_N} {D d : Nat} {h : Nat → Nat} (hD : n 12 0 = nI D) (hd : 1 ≤ d ∧ d ≤ D) (hD2 : D ≤ 366) (hh : n 16 d = nh (h d)) (hb : h d < 1000) : fX3_isFree (nI d) n = some (decide (h d = 0)) := by
  unfold fX3_isFree
  rw [hD, sp_within, sp_bd, nI_toInt (by omega), nI_toInt (by omega), decide_eq_true (show (1 : Int32).toInt ≤ _ ∧ _ from ⟨by show (1 : Int) ≤ _; omega, by omega⟩), if_pos rfl, sp_ck (by omega) (by omega), nI_clamp (by omega), hh]
  by_cases h0 : h d = 0
  · rw [if_pos ((nh_iff hb).mpr h0), decide_eq_true h0]
  · rw [if_neg (fun z => h0 ((nh_iff hb).mp z)), decide_eq_false h0]
theorem F_firstFree {n : fr_N} {D la : Nat} {h : Nat → Nat} (hD : n 12 0 = nI D) (hD2 : D ≤ 366) (hla : la ≤ D) (hh : ∀ d, d ≤ 366 → n 16 d = nh (h d)) (hb : ∀ d, h d < 1000) : ∀ (k d : Nat), 1 ≤ d → d ≤ la + 1 → la + 1 - d < k → fX3_firstFree_2 n k (nI la) (nI d) = some (nd (ff h d (la + 1 - d)))
  | 0, _, _, _, hk => absurd hk (by omega)
  | k + 1, d, hd, hdl, hk => by
    rw [fX3_firstFree_2]
    by_cases he : d = la + 1
    · subst he
      rw [if_pos (by rw [fa_lt, nI_toInt (by omega), nI_toInt (by omega)]; omega), Nat.sub_self]
      rfl
    · rw [if_neg (by rw [fa_lt, nI_toInt (by omega), nI_toInt (by omega)]; omega), F_isFree hD ⟨hd, by omega⟩ hD2 (hh d (by omega)) (hb d), sp_bd, show la + 1 - d = (la - d) + 1 by omega, ff]
      by_cases h0 : h d = 0
      · rw [decide_eq_true h0, if_pos rfl, if_pos h0, nd_n (by omega)]
      · rw [decide_eq_false h0, if_neg (by decide), if_neg h0, nI_1, F_firstFree hD hD2 hla hh hb k (d + 1) (by omega) (by omega) (by omega), show la + 1 - (d + 1) = la - d by omega]
theorem F_hold {n : fr_N} {F f d a : Nat} {L : LL} (hf : f < F) (hF : F ≤ 12) (hd : d ≤ 366) (hd1 : 1 ≤ d) (hL' : FL n F L) : ∃ n', fX3_hold (nI f) (nI d) (nI a) n = some n' ∧ FL n' F (hL f d a L) ∧ ∀ c, (c < 14 ∨ 16 < c) → n' c = n c := by
  unfold fX3_hold
  rw [sp_ck (by omega) (by omega), sp_lt, sp_ck (by omega) (by omega), sp_lt, sp_ck (by omega) (by omega), sp_lt, nI_clamp (by omega), nI_clamp (by omega)]
  refine ⟨_, rfl, ⟨fun g hg => ⟨?_, ?_⟩, fun e he => ?_⟩, fun c hc => ?_⟩
  · rw [sp_up_cell _ _ _ (by omega), sp_up_cell _ _ _ (by omega)]
    by_cases hgf : g = f
    · subst hgf; rw [sp_up_same]; show _ = nI (uB L.1 g a g); rw [uB_s]
    · rw [sp_up_slot _ _ _ hgf]; show _ = nI (uB L.1 f a g); rw [uB_n _ _ hgf]; exact (hL'.1 g hg).1
  · rw [sp_up_cell _ _ _ (by omega)]
    by_cases hgf : g = f
    · subst hgf; rw [sp_up_same]; show _ = nd (uB L.2.1 g d g); rw [uB_s, nd_n (by omega)]
    · rw [sp_up_slot _ _ _ hgf, sp_up_cell _ _ _ (by omega)]; show _ = nd (uB L.2.1 f d g); rw [uB_n _ _ hgf]; exact (hL'.1 g hg).2
  · by_cases hed : e = d
    · subst hed; rw [sp_up_same]; show _ = nh (uB L.2.2 e (f + 1) e); rw [uB_s]; rfl
    · rw [sp_up_slot _ _ _ hed, sp_up_cell _ _ _ (by omega), sp_up_cell _ _ _ (by omega)]; show _ = nh (uB L.2.2 d (f + 1) e); rw [uB_n _ _ hed]; exact hL'.2 e he
  · rw [sp_up_cell _ _ _ (by omega), sp_up_cell _ _ _ (by omega), sp_up_cell _ _ _ (by omega)]
theorem F_settle {n : fr_N} {F f d r D s : Nat} {L : LL} (hf : f < F) (hF : F ≤ 12) (hD : n 12 0 = nI D) (hs : n 12 1 = nI s) (hs7 : s < 7) (hD2 : D ≤ 366) (hd : 1 ≤ d ∧ d ≤ D) (hr : 1 ≤ r ∧ r ≤ 5) (ho : n 13 f = nI d) (hL' : FL n F L) (hV : LV F L) : ∃ n', fX3_settle (nI f) (nI r) n = some n' ∧ FL n' F (sS s D d r f L) ∧ ∀ c, (c < 14 ∨ 16 < c) → n' c = n c := by
  have hb : ∀ d, L.2.2 d < 1000 := fun d => Nat.lt_of_le_of_lt (hV.2 d) (by omega)
  have hfree := F_isFree hD hd hD2 (hL'.2 d (by omega)) (hb d)
  -- the first day it comes onto
  have p31 : ∃ n', fX3_settle_31 (nI f) (nI d) n = some n' ∧ FL n' F (hL f d 1 L) ∧ ∀ c, (c < 14 ∨ 16 < c) → n' c = n c := by
    unfold fX3_settle_31
    obtain ⟨n', g1, g2⟩ := F_hold (a := 1) hf hF (show d ≤ 366 by omega) hd.1 hL'
    rw [show (1 : Int32) = nI 1 from rfl, g1, sp_bd]
    exact ⟨n', rfl, g2⟩
  have p118 : ∃ n', fX3_settle_118 (nI f) (nI d) n = some n' ∧ FL n' F (uB L.1 f 3, uB L.2.1 f d, L.2.2) ∧ ∀ c, (c < 14 ∨ 16 < c) → n' c = n c := by
    unfold fX3_settle_118
    rw [sp_ck (by omega) (by omega), sp_lt, sp_ck (by omega) (by omega), sp_lt, nI_clamp (by omega)]
    refine ⟨_, rfl, ⟨fun g hg => ⟨?_, ?_⟩, fun e he => ?_⟩, fun c hc => ?_⟩
    · rw [sp_up_cell _ _ _ (by omega)]
      by_cases hgf : g = f
      · subst hgf; rw [sp_up_same]; show _ = nI (uB L.1 g 3 g); rw [uB_s]; rfl
      · rw [sp_up_slot _ _ _ hgf]; show _ = nI (uB L.1 f 3 g); rw [uB_n _ _ hgf]; exact (hL'.1 g hg).1
    · by_cases hgf : g = f
      · subst hgf; rw [sp_up_same]; show _ = nd (uB L.2.1 g d g); rw [uB_s, nd_n (by omega)]
      · rw [sp_up_slot _ _ _ hgf, sp_up_cell _ _ _ (by omega)]; show _ = nd (uB L.2.1 f d g); rw [uB_n _ _ hgf]; exact (hL'.1 g hg).2
    · rw [sp_up_cell _ _ _ (by omega), sp_up_cell _ _ _ (by omega)]; exact hL'.2 e he
    · rw [sp_up_cell _ _ _ (by omega), sp_up_cell _ _ _ (by omega)]
  have p150 : ∀ a : Nat, ∃ n', fX3_settle_150 (nI a) (nI f) n = some n' ∧ FL n' F (uB L.1 f a, L.2.1, L.2.2) ∧ ∀ c, (c < 14 ∨ 16 < c) → n' c = n c := by
    intro a
    unfold fX3_settle_150
    rw [sp_ck (by omega) (by omega), sp_lt, nI_clamp (by omega)]
    refine ⟨_, rfl, ⟨fun g hg => ⟨?_, ?_⟩, fun e he => ?_⟩, fun c hc => ?_⟩
    · by_cases hgf : g = f
      · subst hgf; rw [sp_up_same]; show _ = nI (uB L.1 g a g); rw [uB_s]
      · rw [sp_up_slot _ _ _ hgf]; show _ = nI (uB L.1 f a g); rw [uB_n _ _ hgf]; exact (hL'.1 g hg).1
    · rw [sp_up_cell _ _ _ (by omega)]; exact (hL'.1 g hg).2
    · rw [sp_up_cell _ _ _ (by omega)]; exact hL'.2 e he
    · rw [sp_up_cell _ _ _ (by omega)]
  have p77 : ∀ la : Nat, d ≤ la → la ≤ D → la - d = nT r d D → ∃ n', fX3_settle_77 (nI f) (nI r) (nI d) (nI la) n = some n' ∧ FL n' F (if ff L.2.2 (d + 1) (nT r d D) = 0 then (if r = 3 ∨ r = 2 then (uB L.1 f 3, uB L.2.1 f d, L.2.2) else (uB L.1 f (if r = 1 then 4 else 5), L.2.1, L.2.2)) else hL f (ff L.2.2 (d + 1) (nT r d D)) 2 L) ∧ ∀ c, (c < 14 ∨ 16 < c) → n' c = n c := by
    intro la h1 h2 h3
    unfold fX3_settle_77 fX3_firstFree
    rw [nI_1, F_firstFree hD hD2 h2 hL'.2 hb 2000 (d + 1) (by omega) (by omega) (by omega), sp_bd, show la + 1 - (d + 1) = nT r d D by omega]
    rcases ff_bd L.2.2 (nT r d D) (d + 1) with e0 | ⟨e1, e2, e3⟩
    · rw [e0, if_pos nd_0, if_pos rfl]
      by_cases r3 : r = 3
      · rw [if_pos (show nI r = 3 by rw [r3]; rfl), if_pos (show r = 3 ∨ r = 2 from Or.inl r3)]; exact p118
      · rw [if_neg (show ¬ nI r = 3 by rw [show (3 : Int32) = nI 3 from rfl, nI_eq (by omega) (by omega)]; exact r3)]
        by_cases r2 : r = 2
        · rw [if_pos (show nI r = 2 by rw [r2]; rfl), if_pos (show r = 3 ∨ r = 2 from Or.inr r2)]; exact p118
        · rw [if_neg (show ¬ nI r = 2 by rw [show (2 : Int32) = nI 2 from rfl, nI_eq (by omega) (by omega)]; exact r2), if_neg (show ¬ (r = 3 ∨ r = 2) by omega)]
          by_cases r1 : r = 1
          · rw [if_pos (show nI r = 1 by rw [r1]; rfl), if_pos r1]; exact p150 4
          · rw [if_neg (show ¬ nI r = 1 by rw [show (1 : Int32) = nI 1 from rfl, nI_eq (by omega) (by omega)]; exact r1), if_neg r1]; exact p150 5
    · rw [if_neg (fun z => by have := (nd_iff (d := ff L.2.2 (d + 1) (nT r d D)) (by omega)).mp z; omega), if_neg (by omega), nd_n (by omega)]
      obtain ⟨n', g1, g2⟩ := F_hold (a := 2) hf hF (show ff L.2.2 (d + 1) (nT r d D) ≤ 366 by omega) (by omega) hL'
      rw [show (2 : Int32) = nI 2 from rfl, g1, sp_bd]
      exact ⟨n', rfl, g2⟩
  have p39 : ∃ n', fX3_settle_39 (nI f) (nI r) (nI d) n = some n' ∧ FL n' F (if ff L.2.2 (d + 1) (nT r d D) = 0 then (if r = 3 ∨ r = 2 then (uB L.1 f 3, uB L.2.1 f d, L.2.2) else (uB L.1 f (if r = 1 then 4 else 5), L.2.1, L.2.2)) else hL f (ff L.2.2 (d + 1) (nT r d D)) 2 L) ∧ ∀ c, (c < 14 ∨ 16 < c) → n' c = n c := by
    unfold fX3_settle_39
    rw [hD]
    by_cases r3 : r ≤ 3
    · rw [if_pos (by rw [fa_le, nI_toInt (by omega)]; show _ ≤ (3 : Int); omega)]
      by_cases r4 : r = 3
      · rw [if_pos (by rw [r4]; rfl), show nI d + 7 = nI (d + 7) from nI_add d 7]
        by_cases hm : D < d + 7
        · rw [if_pos (by rw [fa_lt, nI_toInt (by omega), nI_toInt (by omega)]; omega)]
          exact p77 D (by omega) (by omega) (by unfold nT; rw [if_neg (by omega), if_pos r4]; omega)
        · rw [if_neg (by rw [fa_lt, nI_toInt (by omega), nI_toInt (by omega)]; omega)]
          exact p77 (d + 7) (by omega) (by omega) (by unfold nT; rw [if_neg (by omega), if_pos r4]; omega)
      · rw [if_neg (by rw [show (3 : Int32) = nI 3 from rfl, nI_eq (by omega) (by omega)]; exact r4)]
        exact p77 d (by omega) (by omega) (by unfold nT; rw [if_neg (by omega), if_neg r4]; omega)
    · rw [if_neg (by rw [fa_le, nI_toInt (by omega)]; show ¬ _ ≤ (3 : Int); omega)]
      exact p77 D (by omega) (by omega) (by unfold nT; rw [if_pos (by omega)])
  unfold fX3_settle sS
  rw [sp_ck (by omega) (by omega), nI_clamp (by omega), ho, hfree, sp_bd]
  by_cases h0 : L.2.2 d = 0
  · rw [decide_eq_true h0, if_pos rfl]
    by_cases r2 : 2 < r
    · rw [if_pos (by rw [fa_lt, nI_toInt (by omega)]; show (2 : Int) < _; omega), if_pos ⟨h0, Or.inl r2⟩]; exact p31
    · rw [if_neg (by rw [fa_lt, nI_toInt (by omega)]; show ¬ (2 : Int) < _; omega), F_weekday hs hs7 (by omega), sp_bd]
      have hw : wk s d < 7 := Nat.mod_lt _ (by omega)
      by_cases hw0 : wk s d = 0
      · rw [if_pos (by rw [hw0]; rfl), if_neg (by omega)]; exact p39
      · rw [if_neg (by rw [show (0 : Int32) = nI 0 from rfl, nI_eq (by omega) (by omega)]; exact hw0), if_pos ⟨h0, Or.inr hw0⟩]; exact p31
  · rw [decide_eq_false h0, if_neg (by decide), if_neg (fun z => h0 z.1)]; exact p39
