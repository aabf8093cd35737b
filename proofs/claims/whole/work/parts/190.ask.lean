/-! QUESTIONS: the doors before them, the laid year -/
theorem Q_told {f m : fr_N} {B : Nat → Nat} (h1 : R1 f m B) {X Y : Option (Int32 × fr_N)} (h : 0 < B 8 → OQ f m X Y) : OQ f m (if f 3 0 = 0 then some (-1000002, f) else X) (fr_bd (fX8_isBook m) fun r => if r = true then Y else some (-1000002, m)) := by
  have h8 := h1.1.2.2.2.2.2.2.2.1
  rw [sp_isBook (show m 1 8 = nI (B 8) from h1.2.2.2 8 (by omega)) (by omega), sp_bd]
  by_cases hb : 0 < B 8
  · rw [if_neg (fun h => (told_iff h1).mp h hb), decide_eq_true hb, if_pos rfl]
    exact h hb
  · rw [if_pos ((told_iff h1).mpr hb), decide_eq_false hb, if_neg (by decide)]
    exact OQ.same
theorem F_isYear (a : Int32) : fX7_isYear a = some (decide (1 ≤ a.toInt ∧ a.toInt ≤ 999)) := by
  unfold fX7_isYear
  rw [sp_within, sp_bd]
  rfl
theorem M_isYear (a : Int32) : fX8_isYear a = some (decide (1 ≤ a.toInt ∧ a.toInt ≤ 999)) := by
  unfold fX8_isYear
  rw [sp_in, sp_bd, sp_wide]
  rfl
theorem sp_year {a : Int32} (h : 1 ≤ a.toInt ∧ a.toInt ≤ 999) : ∃ y, 1 ≤ y ∧ y < 1000 ∧ a = nI y := by
  obtain ⟨j, hj, rfl⟩ := sp_of (n := 999) (by omega) h.2
  have h1 := h.1
  rw [nI_toInt (by omega)] at h1
  exact ⟨j, by omega, by omega, rfl⟩
theorem Q_year {f m : fr_N} {a : Int32} {X Y : Option (Int32 × fr_N)} (h : ∀ y, 1 ≤ y → y < 1000 → a = nI y → OQ f m X Y) : OQ f m (fr_bd (fX7_isYear a) fun r => if r = true then X else some (-1000001, f)) (fr_bd (fX8_isYear a) fun r => if r = true then Y else some (-1000001, m)) := by
  rw [F_isYear, M_isYear, sp_bd, sp_bd]
  by_cases hy : 1 ≤ a.toInt ∧ a.toInt ≤ 999
  · rw [decide_eq_true hy, if_pos rfl, if_pos rfl]
    obtain ⟨y, e1, e2, e3⟩ := sp_year hy
    exact h y e1 e2 e3
  · rw [decide_eq_false hy, if_neg (by decide), if_neg (by decide)]
    exact OQ.same
theorem Q_in {f m : fr_N} {a : Int32} {p q : Int32} {p' q' : Int64} {i j : Nat} {X Y : Option (Int32 × fr_N)} (hp : p.toInt = i) (hq : q.toInt = j) (hp' : p'.toInt = i) (hq' : q'.toInt = j) (h : ∀ x, i ≤ x → x ≤ j → a = nI x → OQ f m X Y) : OQ f m (fr_bd (fX7_within a p q) fun r => if r = true then X else some (-1000001, f)) (fr_bd (fX8_in (Int32.toInt64 a) p' q') fun r => if r = true then Y else some (-1000001, m)) := by
  rw [sp_within, sp_in, sp_bd, sp_bd, sp_wide, hp, hq, hp', hq']
  by_cases hy : (i : Int) ≤ a.toInt ∧ a.toInt ≤ j
  · rw [decide_eq_true hy, if_pos rfl, if_pos rfl]
    obtain ⟨x, e1, rfl⟩ := sp_of (n := j) (by omega) hy.2
    have hq2 : j < 2 ^ 31 := by have := q.toInt_lt; omega
    have h1 := hy.1
    rw [nI_toInt (by omega)] at h1
    exact h x (by omega) e1 rfl
  · rw [decide_eq_false hy, if_neg (by decide), if_neg (by decide)]
    exact OQ.same
theorem Q_feast {f m : fr_N} {B : Nat → Nat} (h1 : R1 f m B) {a : Int32} {X Y : Option (Int32 × fr_N)} (h : ∀ x, x < B 6 → a = nI x → OQ f m X Y) : OQ f m (fr_bd (fX1_hasFeast_3 a f) fun r => if r = true then X else some (-1000001, f)) (fr_bd (fX8_isFeast a m) fun r => if r = true then Y else some (-1000001, m)) := by
  have v6 := h1.1.2.2.2.2.2.1
  rw [sp_hasFeast h1.2.1.1 (by omega), sp_isFeast (show m 1 6 = nI (B 6) from h1.2.2.2 6 (by omega)) (by omega), sp_bd, sp_bd]
  by_cases hy : 0 ≤ a.toInt ∧ a.toInt < (B 6 : Int)
  · rw [decide_eq_true hy, if_pos rfl, if_pos rfl]
    obtain ⟨x, e1, e2⟩ := sp_at hy
    exact h x e1 e2
  · rw [decide_eq_false hy, if_neg (by decide), if_neg (by decide)]
    exact OQ.same
theorem Q_choir {f m : fr_N} {B : Nat → Nat} (h1 : R1 f m B) {a : Int32} {X Y : Option (Int32 × fr_N)} (h : ∀ x, x < B 8 → a = nI x → OQ f m X Y) : OQ f m (fr_bd (fX1_hasChoir_3 a f) fun r => if r = true then X else some (-1000001, f)) (fr_bd (fX8_isChoir a m) fun r => if r = true then Y else some (-1000001, m)) := by
  have h8 := h1.1.2.2.2.2.2.2.2.1
  rw [sp_hasChoir h1.2.1.2.2.1 (by omega), sp_isChoir (show m 1 8 = nI (B 8) from h1.2.2.2 8 (by omega)) (by omega), sp_bd, sp_bd]
  by_cases hy : 0 ≤ a.toInt ∧ a.toInt < (B 8 : Int)
  · rw [decide_eq_true hy, if_pos rfl, if_pos rfl]
    obtain ⟨x, e1, e2⟩ := sp_at hy
    exact h x e1 e2
  · rw [decide_eq_false hy, if_neg (by decide), if_neg (by decide)]
    exact OQ.same
/-- both have laid a year -/
def LD (f m : fr_N) (B : Nat → Nat) (y : Nat) (L : LL) : Prop := VB B ∧ FB f 3 B ∧ MB (m 1) 0 B ∧ CF f B y ∧ CM m B y ∧ FL f (B 6) L ∧ ML m (B 6) L ∧ LV (B 6) L
theorem ow_none {B : Nat → Nat} {y : Nat} {w : Int32} (hw : ∀ j, j < 12 → ¬ nI j = w) {f : Nat} (hf : f < 12) : ow B y w f = od B y f := by
  unfold ow
  rw [if_neg (hw f hf)]
theorem no_1 : ∀ j, j < 12 → ¬ nI j = (-1 : Int32) := fun j hj h => by
  rw [fa_eq, nI_toInt (by omega)] at h
  have : (j : Int) = -1 := h
  omega
theorem no_m : ∀ j, j < 12 → ¬ nI j = (-1000000 : Int32) := fun j hj h => by
  rw [fa_eq, nI_toInt (by omega)] at h
  have : (j : Int) = -1000000 := h
  omega
theorem lo_cong {B : Nat → Nat} {y : Nat} {w w' : Int32} (h : ∀ f, f < 12 → ow B y w f = ow B y w' f) : ∀ p, lo B y w p = lo B y w' p
  | 0 => rfl
  | p + 1 => by
    rw [lo, lo, lo_cong h p]
    unfold sP
    rw [h (p % 12) (Nat.mod_lt _ (by omega))]
theorem both_lay {f m : fr_N} {B : Nat → Nat} {y : Nat} (hv : VB B) (hF : FB f 3 B) (hM : MB (m 1) 0 B) (hy : 1 ≤ y ∧ y < 1000) (w w' : Int32) (hw : ∀ g, g < 12 → ow B y w g = ow B y w' g) : ∃ f' m', fX3_lay (nI y) w f = some f' ∧ fX8_lays (nI y) w' m = some m' ∧ LD f' m' B y (lo B y w 240) ∧ (∀ g, g < B 6 → f' 13 g = nd (ow B y w g) ∧ m' 8 g = nd (od B y g)) ∧ SF f f' ∧ SM m m' := by
  obtain ⟨f', a1, a2, a3, a4, a5⟩ := F_lay w hv hF hy
  obtain ⟨m', b1, b2, b3, b4, b5, b6⟩ := M_lays w' hv hM hy
  refine ⟨f', m', a1, b1, ⟨hv, hF.kept fun c e1 e2 => a5 c (by omega), by rw [b5 1 (by omega)]; exact hM, a3, b3, a2, by rw [lo_cong hw]; exact b2, lo_LV B y w 240⟩, fun g hg => ⟨a4 g hg, b4 g hg⟩, fun c hc => a5 c (by omega), ⟨fun j hj => b6 j (by omega) (by omega), b5 1 (by omega), fun c e1 e2 => b5 c (by omega)⟩⟩
theorem both_lay0 {f m : fr_N} {B : Nat → Nat} {y : Nat} (hv : VB B) (hF : FB f 3 B) (hM : MB (m 1) 0 B) (hy : 1 ≤ y ∧ y < 1000) : ∃ f' m', fX3_lay (nI y) (-1) f = some f' ∧ fX8_lays (nI y) (-1000000) m = some m' ∧ LD f' m' B y (lo B y (-1) 240) ∧ (∀ g, g < B 6 → f' 13 g = nd (od B y g) ∧ m' 8 g = nd (od B y g)) ∧ SF f f' ∧ SM m m' := by
  obtain ⟨f', m', a1, a2, a3, a4, a5⟩ := both_lay hv hF hM hy (-1) (-1000000) (fun g hg => by rw [ow_none no_1 hg, ow_none no_m hg])
  refine ⟨f', m', a1, a2, a3, fun g hg => ?_, a5⟩
  have := a4 g hg
  rw [ow_none no_1 (by have := hv.2.2.2.2.2.1; omega)] at this
  exact this
/-- behind the doors: both lay the year -/
theorem Q_lay {f m : fr_N} {B : Nat → Nat} {y : Nat} (h1 : R1 f m B) (hy1 : 1 ≤ y) (hy2 : y < 1000) {X Y : fr_N → Option (Int32 × fr_N)} (h : ∀ f' m' L, LD f' m' B y L → (∀ g, g < B 6 → f' 13 g = nd (od B y g) ∧ m' 8 g = nd (od B y g)) → SF f f' → SM m m' → OQ f' m' (X f') (Y m')) : OQ f m (fr_bd (fX3_lay (nI y) (-1) f) X) (fr_bd (fX8_lays (nI y) (-1000000) m) Y) := by
  obtain ⟨f', m', a1, a2, a3, a4, a5, a6⟩ := both_lay0 h1.1 h1.2.1 h1.2.2.2 ⟨hy1, hy2⟩
  rw [a1, a2, sp_bd, sp_bd]
  obtain ⟨r, f2, m2, g1, g2, g3, g4⟩ := h f' m' _ a3 a4 a5 a6
  exact ⟨r, f2, m2, g1, g2, a5.trans g3, a6.trans g4⟩
theorem F_isDay {f m : fr_N} {B : Nat → Nat} (h1 : R1 f m B) (a d : Int32) : fX7_isDay a d f = some (decide ((1 ≤ a.toInt ∧ a.toInt ≤ 999) ∧ 1 ≤ d.toInt ∧ d.toInt ≤ (dy (B 0) a.toInt.toNat : Int))) := by
  unfold fX7_isDay
  rw [F_isYear, sp_bd]
  by_cases hy : 1 ≤ a.toInt ∧ a.toInt ≤ 999
  · obtain ⟨y, e1, e2, rfl⟩ := sp_year hy
    have hb := dy_bd (B 0) y
    rw [decide_eq_true hy, if_pos rfl, h1.2.1.2.2.2.1 0 (by omega), F_daysOf h1.1.2.1 e2, sp_bd, sp_within, sp_bd, nI_toInt (n := dy (B 0) y) (by omega), nI_toInt (by omega)]
    by_cases hd : (1 : Int32).toInt ≤ d.toInt ∧ d.toInt ≤ (dy (B 0) y : Int)
    · rw [decide_eq_true hd, if_pos rfl, decide_eq_true ⟨by omega, hd.1, hd.2⟩]
    · rw [decide_eq_false hd, if_neg (by decide), decide_eq_false (fun z => hd z.2)]
  · rw [decide_eq_false hy, if_neg (by decide), decide_eq_false (fun z => hy z.1)]
/-- the day's door: the class asks the year's length, the reference lays the year first -/
theorem Q_day {f m : fr_N} {B : Nat → Nat} (h1 : R1 f m B) {a d : Int32} {X : Option (Int32 × fr_N)} {Y : fr_N → Option (Int32 × fr_N)} (h : ∀ y x f' m' L, 1 ≤ y → y < 1000 → a = nI y → 1 ≤ x → x ≤ dy (B 0) y → d = nI x → fX3_lay a (-1) f = some f' → LD f' m' B y L → SF f f' → SM m m' → OQ f m X (Y m')) : OQ f m (fr_bd (fX7_isDay a d f) fun r => if r = true then X else some (-1000001, f)) (fr_bd2 (fX8_hasDay a d 1 m) fun r n => if r = true then Y n else some (-1000001, n)) := by
  rw [F_isDay h1, sp_bd]
  unfold fX8_hasDay
  rw [M_isYear, sp_bd]
  by_cases hy : 1 ≤ a.toInt ∧ a.toInt ≤ 999
  · obtain ⟨y, e1, e2, rfl⟩ := sp_year hy
    have hb := dy_bd (B 0) y
    obtain ⟨f', m', a1, a2, a3, a4, a5, a6⟩ := both_lay0 h1.1 h1.2.1 h1.2.2.2 ⟨e1, e2⟩
    rw [decide_eq_true hy, if_pos rfl, a2, sp_bd, sp_in, sp_bd, sp_wide, sp_wide, sp_wide, a3.2.2.2.2.1.1, sp_bd2, nI_toInt (n := dy (B 0) y) (by omega), nI_toInt (n := y) (by omega), Int.toNat_natCast]
    by_cases hd : (1 : Int32).toInt ≤ d.toInt ∧ d.toInt ≤ (dy (B 0) y : Int)
    · rw [decide_eq_true hd, if_pos rfl, decide_eq_true ⟨by omega, hd.1, hd.2⟩, if_pos rfl]
      obtain ⟨x, q1, rfl⟩ := sp_of (n := dy (B 0) y) (by have : (1 : Int) ≤ _ := hd.1; omega) hd.2
      have q2 := hd.1
      rw [nI_toInt (by omega)] at q2
      exact h y x f' m' _ e1 e2 rfl (by have : (1 : Int) ≤ _ := q2; omega) q1 rfl a1 a3 a5 a6
    · rw [decide_eq_false hd, show decide ((1 ≤ (y : Int) ∧ (y : Int) ≤ 999) ∧ 1 ≤ d.toInt ∧ d.toInt ≤ (dy (B 0) y : Int)) = false from decide_eq_false (fun z => hd z.2), if_neg Bool.false_ne_true, if_neg Bool.false_ne_true]
      exact ⟨_, _, _, rfl, rfl, SF.rf, a6⟩
  · rw [decide_eq_false hy, show decide ((1 ≤ a.toInt ∧ a.toInt ≤ 999) ∧ 1 ≤ d.toInt ∧ d.toInt ≤ (dy (B 0) a.toInt.toNat : Int)) = false from decide_eq_false (fun z => hy z.1), if_neg Bool.false_ne_true, if_neg Bool.false_ne_true, sp_bd2, if_neg Bool.false_ne_true]
    exact OQ.same
/-! a laid year's days -/
def rk (B : Nat → Nat) (y : Nat) (L : LL) (d : Nat) : Nat := if L.2.2 d = 0 then (if wk (st B y) d = 0 then 3 else 0) else B (9 + 4 * (L.2.2 d - 1) + 2)
def sv (r : Nat) : Nat := if r < 2 then 1 else if r < 4 then 2 else r - 1
theorem rk_bd {f m : fr_N} {B : Nat → Nat} {y : Nat} {L : LL} (h : LD f m B y L) (d : Nat) : rk B y L d ≤ 5 := by
  unfold rk
  by_cases h0 : L.2.2 d = 0
  · rw [if_pos h0]; split <;> omega
  · rw [if_neg h0]
    have hl := h.2.2.2.2.2.2.2.2 d
    obtain ⟨-, -, -, b3, -⟩ := h.1.2.2.2.2.2.2.2.2.2.2.1 (L.2.2 d - 1) (by omega)
    exact b3.2
theorem F_holder {f m : fr_N} {B : Nat → Nat} {y : Nat} {L : LL} (h : LD f m B y L) {d : Nat} (hd : 1 ≤ d ∧ d ≤ dy (B 0) y) : fX3_holderOf (nI d) f = some (nh (L.2.2 d)) := by
  obtain ⟨hv, hF, hM, hC, hC', hL', hL2, hV⟩ := h
  have hb := dy_bd (B 0) y
  unfold fX3_holderOf
  rw [hC.1, sp_within, sp_bd, nI_toInt (by omega), nI_toInt (by omega), decide_eq_true (show (1 : Int32).toInt ≤ _ ∧ _ from ⟨by show (1 : Int) ≤ _; omega, by omega⟩), if_pos rfl, sp_ck (by omega) (by omega), nI_clamp (by omega), hL'.2 d (by omega)]
theorem F_mark {f : fr_N} {B : Nat → Nat} (hv : VB B) (hF : FB f 3 B) {g : Nat} (hg : g < B 6) {w : Nat} (hw : w ≤ 3) : fX1_mark_3 (nI g) (nI w) f = some (nI (B (9 + 4 * g + w))) := by
  have v6 := hv.2.2.2.2.2.1
  rw [sp_mark hF.1 v6 hg hw, hF.2.2.2.2.1 (4 * g + w) (by omega), Nat.add_assoc]
theorem M_of {m : fr_N} {B : Nat → Nat} (hv : VB B) (hM : MB (m 1) 0 B) {g : Nat} (hg : g < B 6) {w : Nat} (hw : w ≤ 3) : fX8_of (nI g) (nI w) m = some (nI (B (9 + 4 * g + w))) := by
  have v6 := hv.2.2.2.2.2.1
  rw [sp_mof (by omega) hw]
  have := hM (9 + 4 * g + w) (by omega)
  rw [Nat.zero_add] at this
  rw [this]
theorem F_rank {f m : fr_N} {B : Nat → Nat} {y : Nat} {L : LL} (h : LD f m B y L) {d : Nat} (hd : 1 ≤ d ∧ d ≤ dy (B 0) y) : fX3_rankOf (nI d) f = some (nI (rk B y L d)) := by
  have hb := dy_bd (B 0) y
  have hl := h.2.2.2.2.2.2.2.2 d
  have v6 := h.1.2.2.2.2.2.1
  unfold fX3_rankOf rk
  rw [F_holder h hd, sp_bd]
  by_cases h0 : L.2.2 d = 0
  · have hw : wk (st B y) d < 7 := Nat.mod_lt _ (by omega)
    rw [if_pos ((nh_iff (by omega)).mpr h0), if_pos h0, F_weekday h.2.2.2.1.2.1 (st_lt B y) (by omega), sp_bd]
    by_cases hw0 : wk (st B y) d = 0
    · rw [if_pos ((n_0 (by omega)).mpr hw0), if_pos hw0]; rfl
    · rw [if_neg (fun z => hw0 ((n_0 (by omega)).mp z)), if_neg hw0]; rfl
  · rw [if_neg (fun z => h0 ((nh_iff (by omega)).mp z)), if_neg h0, show nh (L.2.2 d) = nI (L.2.2 d - 1) from if_neg h0, show (2 : Int32) = nI 2 from rfl, F_mark h.1 h.2.1 (by omega) (by omega), sp_bd]
theorem M_rank {f m : fr_N} {B : Nat → Nat} {y : Nat} {L : LL} (h : LD f m B y L) {d : Nat} (hd : 1 ≤ d ∧ d ≤ dy (B 0) y) : fX8_rankOf (nI d) m = some (nI (rk B y L d)) := by
  have hb := dy_bd (B 0) y
  have hl := h.2.2.2.2.2.2.2.2 d
  have v6 := h.1.2.2.2.2.2.1
  unfold fX8_rankOf rk
  rw [sp_ck (by omega) (by omega), nI_clamp (by omega), h.2.2.2.2.2.2.1.2 d (by omega)]
  by_cases h0 : L.2.2 d = 0
  · have hw : wk (st B y) d < 7 := Nat.mod_lt _ (by omega)
    rw [if_pos (by rw [h0]; decide), if_pos h0, M_weekday h.2.2.2.2.1.2 (st_lt B y) (by omega), sp_bd]
    by_cases hw0 : wk (st B y) d = 0
    · rw [if_pos ((n_0 (by omega)).mpr hw0), if_pos hw0]; rfl
    · rw [if_neg (fun z => hw0 ((n_0 (by omega)).mp z)), if_neg hw0]; rfl
  · rw [if_neg (show ¬ nI (L.2.2 d) ≤ 0 from fun z => h0 (by have := (n_le (b := 0) (by omega) (by omega)).mp z; omega)), if_neg h0, sp_ck (by omega) (by omega), show nI (L.2.2 d) - 1 = nI (L.2.2 d - 1) from pk_sub (b := 1) (by omega), show (2 : Int32) = nI 2 from rfl, M_of h.1 h.2.2.1 (by omega) (by omega), sp_bd]
theorem F_services {f m : fr_N} {B : Nat → Nat} {y : Nat} {L : LL} (h : LD f m B y L) {d : Nat} (hd : 1 ≤ d ∧ d ≤ dy (B 0) y) : fX3_servicesOf (nI d) f = some (nI (sv (rk B y L d))) := by
  unfold fX3_servicesOf
  have hr := rk_bd h d
  rw [F_rank h hd, sp_bd, sp_within, sp_bd, decide_eq_true (by rw [nI_toInt (by omega)]; exact ⟨by show (0 : Int) ≤ _; omega, by show _ ≤ (5 : Int); omega⟩), if_pos rfl, sp_ck (by omega) (by omega), nI_clamp (by omega)]
  generalize rk B y L d = r at hr
  rcases (show r = 0 ∨ r = 1 ∨ r = 2 ∨ r = 3 ∨ r = 4 ∨ r = 5 by omega) with rfl | rfl | rfl | rfl | rfl | rfl <;> rfl
theorem M_services {f m : fr_N} {B : Nat → Nat} {y : Nat} {L : LL} (h : LD f m B y L) {d : Nat} (hd : 1 ≤ d ∧ d ≤ dy (B 0) y) : fX8_servicesOf (nI d) m = some (nI (sv (rk B y L d))) := by
  unfold fX8_servicesOf
  have hr := rk_bd h d
  rw [M_rank h hd, sp_bd]
  generalize rk B y L d = r at hr
  rcases (show r = 0 ∨ r = 1 ∨ r = 2 ∨ r = 3 ∨ r = 4 ∨ r = 5 by omega) with rfl | rfl | rfl | rfl | rfl | rfl <;> rfl
theorem sv_bd {r : Nat} (h : r ≤ 5) : 1 ≤ sv r ∧ sv r ≤ 4 := by
  unfold sv
  split <;> (try split) <;> omega
