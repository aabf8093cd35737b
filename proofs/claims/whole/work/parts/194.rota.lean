/-! THE ROTA -/
set_option maxRecDepth 20000 in
theorem bit_get : ∀ s, s < 32 → ∀ c, c < 5 → ((nI s >>> (nI c &&& 31)) &&& (1 : Int32) = 0 ↔ s.testBit c = false) := by decide
set_option maxRecDepth 20000 in
theorem bit_set : ∀ s, s < 32 → ∀ c, c < 5 → (nI s ||| ((1 : Int32) <<< (nI c &&& 31)) = nI (s ||| 2 ^ c) ∧ s ||| 2 ^ c < 32) := by decide
theorem M_had5 {m : fr_N} {td : Nat → Nat} {c x : Nat} (hx : x ≤ 4) (hc : c < 5) (hT : ∀ i, i < x → m 14 i = nx (td i) ∧ td i ≤ 5) : ∀ (k j : Nat) (b : Bool), j ≤ x → x - j < k → ∃ z, fX8_had_5 m k (nI c) (nI x) b (nI j) = some z ∧ (z = true ↔ b = true ∨ ∃ i, j ≤ i ∧ i < x ∧ td i = c + 1)
  | 0, _, _, _, hk => absurd hk (by omega)
  | k + 1, j, b, hj, hk => by
    rw [fX8_had_5]
    by_cases he : j = x
    · rw [if_pos ((n_le (by omega) (by omega)).mpr (by omega))]
      exact ⟨b, rfl, fun h => Or.inl h, fun h => h.elim id fun ⟨i, h1, h2, _⟩ => absurd h1 (by omega)⟩
    · obtain ⟨t1, t2⟩ := hT j (by omega)
      rw [if_neg (fun z => by have := (n_le (by omega) (by omega)).mp z; omega), sp_ck (by omega) (by omega), nI_clamp (by omega), t1, nI_1]
      obtain ⟨z1, y1, y2⟩ := M_had5 hx hc hT k (j + 1) true (by omega) (by omega)
      obtain ⟨z2, w1, w2⟩ := M_had5 hx hc hT k (j + 1) false (by omega) (by omega)
      by_cases hb : b = true
      · rw [if_pos hb]
        exact ⟨z1, y1, fun _ => Or.inl hb, fun _ => y2.mpr (Or.inl rfl)⟩
      · rw [if_neg hb]
        by_cases ht : td j = c + 1
        · rw [if_pos (by rw [ht]; rfl)]
          exact ⟨z1, y1, fun _ => Or.inr ⟨j, Nat.le_refl _, by omega, ht⟩, fun _ => y2.mpr (Or.inl rfl)⟩
        · rw [if_neg (fun z => ht (by
            unfold nx at z
            by_cases h0 : td j = 0
            · rw [if_pos h0, fa_eq, nI_toInt (by omega)] at z
              exact absurd z (by show ¬ (-1000000 : Int) = _; omega)
            · rw [if_neg h0] at z
              have := (nI_eq (by omega) (by omega)).mp z
              omega))]
          refine ⟨z2, w1, fun h => ?_, fun h => w2.mpr ?_⟩
          · rcases w2.mp h with q | ⟨i, q1, q2, q3⟩
            · exact absurd q (by decide)
            · exact Or.inr ⟨i, by omega, q2, q3⟩
          · rcases h with q | ⟨i, q1, q2, q3⟩
            · exact absurd q hb
            · refine Or.inr ⟨i, ?_, q2, q3⟩
              have : i ≠ j := fun e => ht (by rw [← e]; exact q3)
              omega
def aw (B : Nat → Nat) (c d : Nat) : Bool := decide (B (69 + 2 * c) ≤ d ∧ d ≤ B (69 + 2 * c + 1))
theorem F_away {f m : fr_N} {B : Nat → Nat} {y : Nat} {L : LL} (h : LD f m B y L) {c d : Nat} (hc : c < B 8) (hd : d < 1000) : fX1_isAway_3 (nI c) (nI d) f = some (aw B c d) := by
  have h8 := h.1.2.2.2.2.2.2.2.1
  obtain ⟨q1, q2⟩ := h.2.1.2.2.2.2.2.2 c (by omega)
  have b1 := h.1.1 (69 + 2 * c)
  have b2 := h.1.1 (69 + 2 * c + 1)
  unfold fX1_isAway_3 aw
  rw [sp_hasChoir h.2.1.2.2.1 (by omega), sp_bd, decide_eq_true (by rw [nI_toInt (by omega)]; omega), if_pos rfl, sp_ck (by omega) (by omega), sp_ck (by omega) (by omega), nI_clamp (by omega), show f 9 c = nI (B (69 + 2 * c)) from q1, show f 10 c = nI (B (69 + 2 * c + 1)) from q2, sp_within, sp_bd, nI_toInt (by omega), nI_toInt (by omega), nI_toInt (by omega)]
  by_cases e : B (69 + 2 * c) ≤ d ∧ d ≤ B (69 + 2 * c + 1)
  · rw [decide_eq_true e, decide_eq_true (by omega), if_pos rfl]
  · rw [decide_eq_false e, decide_eq_false (by omega), if_neg Bool.false_ne_true]
theorem M_away {f m : fr_N} {B : Nat → Nat} {y : Nat} {L : LL} (h : LD f m B y L) {c d : Nat} (hc : c < B 8) (hd : d < 1000) : fX8_isAway (nI c) (nI d) m = some (aw B c d) := by
  have h8 := h.1.2.2.2.2.2.2.2.1
  have b1 := h.1.1 (69 + 2 * c)
  have b2 := h.1.1 (69 + 2 * c + 1)
  unfold fX8_isAway aw
  have e0 : (69 : Int32) + (2 : Int32) * nI c = nI (69 + 2 * c) := by
    rw [show (2 : Int32) = nI 2 from rfl, show (69 : Int32) = nI 69 from rfl, pk_mul, nI_add]
  rw [e0, nI_1, sp_ck (by omega) (by omega), sp_ck (by omega) (by omega), nI_clamp (by omega), nI_clamp (by omega), h.m1 (by omega), h.m1 (by omega), sp_in, sp_bd, sp_wide, sp_wide, sp_wide, nI_toInt (by omega), nI_toInt (by omega), nI_toInt (by omega)]
  congr 1
  apply decide_eq_decide.mpr
  omega
/-- the two rotas stand alike: services had, when the latest, missed, dealt -/
def RT (f m : fr_N) (sv : Nat) : Prop := ∃ (hs la lb : Nat → Nat) (ms dl : Nat), (∀ c, c < 5 → f 49 c = nI (hs c) ∧ m 12 c = nI (hs c) ∧ f 50 c = nI (la c) ∧ m 13 c = nI (lb c) ∧ la c ≤ dl ∧ lb c ≤ sv ∧ hs c ≤ sv) ∧ (∀ a b, a < 5 → b < 5 → (la a < la b ↔ lb a < lb b)) ∧ f 48 6 = nI ms ∧ m 0 26 = nI ms ∧ f 48 5 = nI dl ∧ m 0 25 = nI sv ∧ ms ≤ sv ∧ dl ≤ sv
/-- the day's services so far -/
def TD (f m : fr_N) (x : Nat) : Prop := ∃ (td : Nat → Nat) (s : Nat), f 48 7 = nI s ∧ s < 32 ∧ (∀ c, c < 5 → (s.testBit c = true ↔ ∃ i, i < x ∧ td i = c + 1)) ∧ ∀ i, i < x → f 51 i = nh (td i) ∧ m 14 i = nx (td i) ∧ td i ≤ 5
theorem both_better {f m : fr_N} {sv lw c b : Nat} (hR : RT f m sv) (hs : sv < 10000) (hl : lw ≤ 2) (hc : c < 5) (hb : b < c) : ∃ z, fX5_goesAheadOf (nI c) (nI b) (nI lw) f = some z ∧ fX8_isBetter (nI lw) (nI c) (nI b) m = some z := by
  obtain ⟨hs, la, lb, ms, dl, h1, h2, -, -, -, -, -, hdl⟩ := hR
  obtain ⟨c1, c2, c3, c4, c5, c6, c7⟩ := h1 c hc
  obtain ⟨b1, b2, b3, b4, b5, b6, b7⟩ := h1 b (by omega)
  unfold fX5_goesAheadOf fX8_isBetter
  rw [sp_ck (by omega) (by omega), sp_ck (by omega) (by omega), sp_ck (by omega) (by omega), sp_ck (by omega) (by omega), sp_ck (by omega) (by omega), sp_ck (by omega) (by omega), sp_ck (by omega) (by omega), sp_ck (by omega) (by omega), sp_ck (by omega) (by omega), sp_ck (by omega) (by omega), sp_ck (by omega) (by omega), sp_ck (by omega) (by omega), sp_ck (by omega) (by omega), sp_ck (by omega) (by omega), nI_clamp (by omega), nI_clamp (by omega), c1, c2, c3, c4, b1, b2, b3, b4]
  by_cases e : hs c = hs b
  · rw [if_pos (show nI (hs c) = nI (hs b) by rw [e]), if_pos (show nI (hs c) = nI (hs b) by rw [e])]
    rcases (show lw = 0 ∨ lw = 1 ∨ lw = 2 by omega) with rfl | rfl | rfl
    · rw [if_neg (show ¬ nI 0 = 1 by decide), if_neg (show ¬ nI 0 = 2 by decide), if_pos (show nI 0 = 0 from rfl), if_pos ((n_le (by omega) (by omega)).mpr (by omega))]
      exact ⟨_, rfl, rfl⟩
    · rw [if_pos (show nI 1 = 1 from rfl), if_neg (show ¬ nI 1 = 0 by decide), if_neg (show ¬ nI 1 = 2 by decide)]
      by_cases q : la c < la b
      · rw [if_neg (fun z => by have := (n_le (by omega) (by omega)).mp z; omega), if_pos ((n_lt (by omega) (by omega)).mpr ((h2 c b hc (by omega)).mp q))]
        exact ⟨_, rfl, rfl⟩
      · rw [if_pos ((n_le (by omega) (by omega)).mpr (by omega)), if_neg (fun z => q ((h2 c b hc (by omega)).mpr ((n_lt (by omega) (by omega)).mp z))), if_pos (show nI b ≤ nI c from (n_le (by omega) (by omega)).mpr (by omega))]
        split <;> exact ⟨_, rfl, rfl⟩
    · rw [if_neg (show ¬ nI 2 = 1 by decide), if_pos (show nI 2 = 2 from rfl), if_neg (show ¬ nI 2 = 0 by decide), if_pos (show nI 2 = 2 from rfl), if_neg (show ¬ nI c ≤ nI b from fun z => by have := (n_le (by omega) (by omega)).mp z; omega)]
      exact ⟨_, rfl, rfl⟩
  · rw [if_neg (fun z => e ((nI_eq (by omega) (by omega)).mp z)), if_neg (fun z => e ((nI_eq (by omega) (by omega)).mp z))]
    split <;> exact ⟨_, rfl, rfl⟩
theorem both_choose {f m : fr_N} {B : Nat → Nat} {y : Nat} {L : LL} (h : LD f m B y L) {sv lw d : Nat} (hR : RT f m sv) (hs : sv < 10000) (hl : lw ≤ 2) (hd : d < 1000) {sg x3 : Int32} {stt : Bool} {e : Nat → Bool} (hF : ∀ c, c < 5 → ((sg >>> (nI c &&& 31)) &&& (1 : Int32) = 0 ↔ e c = true)) (hM : stt = true → ∀ c, c < 5 → fX8_had (nI c) x3 m = some (!e c)) (hM2 : stt = false → ∀ c, c < 5 → e c = true) : ∀ (k j x : Nat), x ≤ j → j ≤ B 8 → B 8 - j < k → ∃ x', fX5_choose_6 f k (nI lw) (nI d) sg (nh x) (nI j) = some (nh x') ∧ fX8_choose_7 m k (nI lw) (nI d) x3 stt (nx x) (nI j) = some (nx x') ∧ x' ≤ B 8
  | 0, _, _, _, _, hk => absurd hk (by omega)
  | k + 1, j, x, hx, hj, hk => by
    have h8 := h.1.2.2.2.2.2.2.2.1
    rw [fX5_choose_6, fX8_choose_7, h.2.1.2.2.1, h.m1 (by omega)]
    by_cases he : j = B 8
    · rw [if_pos ((n_le (by omega) (by omega)).mpr (by omega)), if_pos ((n_le (by omega) (by omega)).mpr (by omega))]
      exact ⟨x, rfl, rfl, by omega⟩
    · have ne : ¬ nI (B 8) ≤ nI j := fun z => by have := (n_le (by omega) (by omega)).mp z; omega
      rw [if_neg ne, if_neg ne, F_away h (by omega) hd, M_away h (by omega) hd, sp_bd, sp_bd]
      have yes : ∃ x', fX5_choose_45 (fX5_choose_6 f k) f (nI lw) (nI d) sg (nh x) (nI j) true = some (nh x') ∧ fX8_choose_49 (fX8_choose_7 m k) m (nI lw) (nI d) x3 stt (nx x) (nI j) true = some (nx x') ∧ x' ≤ B 8 := by
        unfold fX5_choose_45 fX8_choose_49
        rw [if_pos rfl, if_pos rfl, nI_1]
        have t1 := both_choose h hR hs hl hd hF hM hM2 k (j + 1) (j + 1) (by omega) (by omega) (by omega)
        have t2 := both_choose h hR hs hl hd hF hM hM2 k (j + 1) x (by omega) (by omega) (by omega)
        by_cases h0 : x = 0
        · rw [if_pos ((nh_iff (by omega)).mpr h0), if_pos ((nx_iff (by omega)).mpr h0)]; exact t1
        · obtain ⟨z, z1, z2⟩ := both_better (c := j) (b := x - 1) hR hs hl (by omega) (by omega)
          rw [if_neg (fun q => h0 ((nh_iff (by omega)).mp q)), if_neg (fun q => h0 ((nx_iff (by omega)).mp q)), show nh x = nI (x - 1) from if_neg h0, show nx x = nI (x - 1) from if_neg h0, z1, z2, sp_bd, sp_bd]
          rw [show nh x = nI (x - 1) from if_neg h0, show nx x = nI (x - 1) from if_neg h0] at t2
          by_cases hz : z = true
          · rw [if_pos hz, if_pos hz]; exact t1
          · rw [if_neg hz, if_neg hz]; exact t2
      have no : ∃ x', fX5_choose_45 (fX5_choose_6 f k) f (nI lw) (nI d) sg (nh x) (nI j) false = some (nh x') ∧ fX8_choose_49 (fX8_choose_7 m k) m (nI lw) (nI d) x3 stt (nx x) (nI j) false = some (nx x') ∧ x' ≤ B 8 := by
        unfold fX5_choose_45 fX8_choose_49
        rw [if_neg Bool.false_ne_true, if_neg Bool.false_ne_true, nI_1]
        exact both_choose h hR hs hl hd hF hM hM2 k (j + 1) x (by omega) (by omega) (by omega)
      cases hj2 : e j with
      | true =>
        rw [if_pos ((hF j (by omega)).mpr hj2)]
        cases ha : aw B j d with
        | true => rw [if_pos rfl, if_pos rfl]; exact no
        | false =>
          rw [if_neg Bool.false_ne_true, if_neg Bool.false_ne_true]
          by_cases hst : stt = true
          · rw [if_pos hst, hM hst j (by omega), sp_bd, hj2, if_neg (by decide)]; exact yes
          · rw [if_neg hst]; exact yes
      | false =>
        rw [if_neg (fun z => by have := (hF j (by omega)).mp z; rw [hj2] at this; exact absurd this (by decide))]
        cases ha : aw B j d with
        | true => rw [if_pos rfl]; exact no
        | false =>
          rw [if_neg Bool.false_ne_true]
          by_cases hst : stt = true
          · rw [if_pos hst, hM hst j (by omega), sp_bd, hj2, if_pos (by decide)]; exact no
          · have := hM2 (Bool.eq_false_iff.mpr hst) j (by omega)
            rw [hj2] at this
            exact absurd this (by decide)
def KF (f f' : fr_N) : Prop := ∀ c, (c < 48 ∨ 51 < c) → f' c = f c
def KM (m m' : fr_N) : Prop := (∀ c, c ≠ 0 → c ≠ 12 → c ≠ 13 → c ≠ 14 → m' c = m c) ∧ ∀ j, j ≠ 25 → j ≠ 26 → m' 0 j = m 0 j
theorem KF.sf {f f' : fr_N} (h : KF f f') : SF f f' := fun c hc => h c (by omega)
theorem KM.sm {m m' : fr_N} (h : KM m m') : SM m m' := ⟨fun j hj => h.2 j (by omega) (by omega), h.1 1 (by omega) (by omega) (by omega) (by omega), fun c h1 h2 => h.1 c (by omega) (by omega) (by omega) (by omega)⟩
theorem KF.trans {f g h : fr_N} (a : KF f g) (b : KF g h) : KF f h := fun c hc => (b c hc).trans (a c hc)
theorem KM.trans {f g h : fr_N} (a : KM f g) (b : KM g h) : KM f h := ⟨fun c h0 h1 h2 h3 => (b.1 c h0 h1 h2 h3).trans (a.1 c h0 h1 h2 h3), fun j h1 h2 => (b.2 j h1 h2).trans (a.2 j h1 h2)⟩
theorem LD.rota {f m f' m' : fr_N} {B : Nat → Nat} {y : Nat} {L : LL} (h : LD f m B y L) (hf : KF f f') (hm : KM m m') : LD f' m' B y L := by
  obtain ⟨hv, hF, hM, hC, hC', hL', hL2, hV⟩ := h
  refine ⟨hv, hF.kept fun c e1 e2 => hf c (by omega), ?_, ?_, ?_, ⟨fun g hg => ?_, fun d hd => ?_⟩, ⟨fun g hg => ?_, fun d hd => ?_⟩, hV⟩
  · rw [hm.1 1 (by omega) (by omega) (by omega) (by omega)]; exact hM
  · unfold CF; rw [hf 12 (by omega)]; exact hC
  · unfold CM; rw [hm.2 20 (by omega) (by omega), hm.2 21 (by omega) (by omega)]; exact hC'
  · rw [hf 14 (by omega), hf 15 (by omega)]; exact hL'.1 g hg
  · rw [hf 16 (by omega)]; exact hL'.2 d hd
  · rw [hm.1 9 (by omega) (by omega) (by omega) (by omega), hm.1 10 (by omega) (by omega) (by omega) (by omega)]; exact hL2.1 g hg
  · rw [hm.1 7 (by omega) (by omega) (by omega) (by omega)]; exact hL2.2 d hd
theorem nh_s (c : Nat) : nh (c + 1) = nI c := rfl
/-- one service is given -/
theorem both_give {f m : fr_N} {sv x t : Nat} (hR : RT f m sv) (hT : TD f m x) (hs : sv < 10000) (hx : x < 4) (ht : t ≤ 5) : ∃ f' m', fX5_give (nh t) (fr_up f 51 x (nh t)) = some f' ∧ (∀ k39 k47 x1 x2 x3, fX8_laysRota_89 k39 k47 x1 x2 x3 (nI x) (nx t) m = k47 x1 x2 x3 (nI (x + 1)) m') ∧ RT f' m' (sv + 1) ∧ TD f' m' (x + 1) ∧ KF f f' ∧ KM m m' := by
  obtain ⟨hs', la, lb, ms, dl, h1, h2, h3, h4, h5, h6, h7, h8⟩ := hR
  obtain ⟨td, s, t1, t2, t3, t4⟩ := hT
  by_cases h0 : t = 0
  · subst h0
    refine ⟨fr_up (fr_up f 51 x (nh 0)) 48 6 (nI (ms + 1)), fr_up (fr_up (fr_up m 0 25 (nI (sv + 1))) 14 x (nx 0)) 0 26 (nI (ms + 1)), ?_, fun k39 k47 x1 x2 x3 => ?_, ?_, ?_, fun c hc => ?_, ⟨fun c e1 e2 e3 e4 => ?_, fun j e1 e2 => ?_⟩⟩
    · unfold fX5_give
      rw [if_pos (show nh 0 = -1 from rfl), sp_lt, sp_up_cell _ _ _ (show (48 : Nat) ≠ 51 by omega), h3, nI_1]
    · unfold fX8_laysRota_89 fX8_laysRota_127
      rw [sp_lt, sp_ck (by omega) (by omega), sp_lt, nI_clamp (by omega), if_pos (show nx 0 = -1000000 from rfl), sp_lt, if_pos (show nx 0 = -1000000 from rfl), h6, nI_1, nI_1, sp_up_cell _ _ _ (show (0 : Nat) ≠ 14 by omega), sp_up_slot _ _ _ (show (26 : Nat) ≠ 25 by omega), h4, show fr_b true = 1 from rfl, nI_1]
    · refine ⟨hs', la, lb, ms + 1, dl, fun c hc => ?_, h2, ?_, ?_, ?_, ?_, by omega, by omega⟩
      · obtain ⟨c1, c2, c3, c4, c5, c6, c7⟩ := h1 c hc
        rw [sp_up_cell _ _ _ (show (49 : Nat) ≠ 48 by omega), sp_up_cell _ _ _ (show (49 : Nat) ≠ 51 by omega), sp_up_cell _ _ _ (show (50 : Nat) ≠ 48 by omega), sp_up_cell _ _ _ (show (50 : Nat) ≠ 51 by omega), sp_up_cell _ _ _ (show (12 : Nat) ≠ 0 by omega), sp_up_cell _ _ _ (show (12 : Nat) ≠ 14 by omega), sp_up_cell _ _ _ (show (12 : Nat) ≠ 0 by omega), sp_up_cell _ _ _ (show (13 : Nat) ≠ 0 by omega), sp_up_cell _ _ _ (show (13 : Nat) ≠ 14 by omega), sp_up_cell _ _ _ (show (13 : Nat) ≠ 0 by omega)]
        exact ⟨c1, c2, c3, c4, c5, by omega, by omega⟩
      · rw [sp_up_same]
      · rw [sp_up_same]
      · rw [sp_up_slot _ _ _ (by omega), sp_up_cell _ _ _ (by omega)]; exact h5
      · rw [sp_up_slot _ _ _ (by omega), sp_up_cell _ _ _ (by omega), sp_up_same]
    · refine ⟨uB td x 0, s, ?_, t2, fun c hc => ?_, fun i hi => ?_⟩
      · rw [sp_up_slot _ _ _ (by omega), sp_up_cell _ _ _ (by omega)]; exact t1
      · rw [t3 c hc]
        constructor
        · rintro ⟨i, i1, i2⟩
          exact ⟨i, by omega, by rw [uB_n _ _ (by omega)]; exact i2⟩
        · rintro ⟨i, i1, i2⟩
          by_cases hi : i = x
          · subst hi; rw [uB_s] at i2; omega
          · rw [uB_n _ _ hi] at i2; exact ⟨i, by omega, i2⟩
      · rw [sp_up_cell _ _ _ (show (51 : Nat) ≠ 48 by omega), sp_up_cell _ _ _ (show (14 : Nat) ≠ 0 by omega)]
        by_cases hi2 : i = x
        · subst hi2; rw [sp_up_same, sp_up_same, uB_s]; exact ⟨rfl, rfl, by omega⟩
        · rw [sp_up_slot _ _ _ hi2, sp_up_slot _ _ _ hi2, sp_up_cell _ _ _ (by omega), uB_n _ _ hi2]; exact t4 i (by omega)
    · rw [sp_up_cell _ _ _ (by omega), sp_up_cell _ _ _ (by omega)]
    · rw [sp_up_cell _ _ _ e1, sp_up_cell _ _ _ e4, sp_up_cell _ _ _ e1]
    · rw [sp_up_slot _ _ _ e2, sp_up_cell _ _ _ (by omega), sp_up_slot _ _ _ e1]
  · obtain ⟨c, rfl⟩ : ∃ c, t = c + 1 := ⟨t - 1, by omega⟩
    have hc : c < 5 := by omega
    obtain ⟨c1, c2, c3, c4, c5, c6, c7⟩ := h1 c hc
    obtain ⟨bs1, bs2⟩ := bit_set s t2 c hc
    refine ⟨fr_up (fr_up (fr_up (fr_up (fr_up f 51 x (nI c)) 48 5 (nI (dl + 1))) 49 c (nI (hs' c + 1))) 50 c (nI (dl + 1))) 48 7 (nI (s ||| 2 ^ c)), fr_up (fr_up (fr_up (fr_up (fr_up m 0 25 (nI (sv + 1))) 14 x (nI c)) 0 26 (nI ms)) 12 c (nI (hs' c + 1))) 13 c (nI (sv + 1)), ?_, fun k39 k47 x1 x2 x3 => ?_, ?_, ?_, fun d hd => ?_, ⟨fun d e1 e2 e3 e4 => ?_, fun j e1 e2 => ?_⟩⟩
    · unfold fX5_give
      rw [if_neg (show ¬ nh (c + 1) = -1 from fun z => by have := (nh_iff (by omega)).mp z; omega), nh_s, sp_lt, sp_ck (by omega) (by omega), sp_ck (by omega) (by omega), sp_lt, sp_ck (by omega) (by omega), sp_lt, sp_lt, nI_clamp (by omega), sp_up_cell _ _ _ (show (48 : Nat) ≠ 51 by omega), h5, nI_1, sp_up_cell _ _ _ (show (49 : Nat) ≠ 48 by omega), sp_up_cell _ _ _ (show (49 : Nat) ≠ 51 by omega), c1, nI_1, sp_up_cell _ _ _ (show (48 : Nat) ≠ 49 by omega), sp_up_same, sp_up_cell _ _ _ (show (48 : Nat) ≠ 50 by omega), sp_up_cell _ _ _ (show (48 : Nat) ≠ 49 by omega), sp_up_slot _ _ _ (show (7 : Nat) ≠ 5 by omega), sp_up_cell _ _ _ (show (48 : Nat) ≠ 51 by omega), t1, bs1]
    · have nn : ¬ nx (c + 1) = -1000000 := fun z => by have := (nx_iff (by omega)).mp z; omega
      unfold fX8_laysRota_89 fX8_laysRota_127
      rw [sp_lt, sp_ck (by omega) (by omega), sp_lt, nI_clamp (by omega), if_neg nn, sp_lt, if_neg nn, nx_s, sp_ck (by omega) (by omega), sp_ck (by omega) (by omega), sp_lt, sp_ck (by omega) (by omega), sp_lt, nI_clamp (n := c) (by omega), h6, nI_1, nI_1, sp_up_cell _ _ _ (show (0 : Nat) ≠ 14 by omega), sp_up_slot _ _ _ (show (26 : Nat) ≠ 25 by omega), h4, show fr_b false = 0 from rfl, n_z, sp_up_cell _ _ _ (show (12 : Nat) ≠ 0 by omega), sp_up_cell _ _ _ (show (12 : Nat) ≠ 14 by omega), sp_up_cell _ _ _ (show (12 : Nat) ≠ 0 by omega), c2, nI_1, sp_up_cell _ _ _ (show (0 : Nat) ≠ 12 by omega), sp_up_slot _ _ _ (show (25 : Nat) ≠ 26 by omega), sp_up_cell _ _ _ (show (0 : Nat) ≠ 14 by omega), sp_up_same]
    · refine ⟨uB hs' c (hs' c + 1), uB la c (dl + 1), uB lb c (sv + 1), ms, dl + 1, fun a ha => ?_, fun a b ha hb => ?_, ?_, ?_, ?_, ?_, by omega, by omega⟩
      · obtain ⟨a1, a2, a3, a4, a5, a6, a7⟩ := h1 a ha
        rw [sp_up_cell _ _ _ (show (49 : Nat) ≠ 48 by omega), sp_up_cell _ _ _ (show (49 : Nat) ≠ 50 by omega), sp_up_cell _ _ _ (show (12 : Nat) ≠ 13 by omega), sp_up_cell _ _ _ (show (50 : Nat) ≠ 48 by omega)]
        by_cases hac : a = c
        · subst hac
          rw [sp_up_same, sp_up_same, sp_up_same, sp_up_same, uB_s, uB_s, uB_s]
          exact ⟨rfl, rfl, rfl, rfl, by omega, by omega, by omega⟩
        · rw [sp_up_slot _ _ _ hac, sp_up_slot _ _ _ hac, sp_up_slot _ _ _ hac, sp_up_slot _ _ _ hac, uB_n _ _ hac, uB_n _ _ hac, uB_n _ _ hac, sp_up_cell _ _ _ (show (49 : Nat) ≠ 48 by omega), sp_up_cell _ _ _ (show (49 : Nat) ≠ 51 by omega), sp_up_cell _ _ _ (show (50 : Nat) ≠ 49 by omega), sp_up_cell _ _ _ (show (50 : Nat) ≠ 48 by omega), sp_up_cell _ _ _ (show (50 : Nat) ≠ 51 by omega), sp_up_cell _ _ _ (show (12 : Nat) ≠ 0 by omega), sp_up_cell _ _ _ (show (12 : Nat) ≠ 14 by omega), sp_up_cell _ _ _ (show (12 : Nat) ≠ 0 by omega), sp_up_cell _ _ _ (show (13 : Nat) ≠ 12 by omega), sp_up_cell _ _ _ (show (13 : Nat) ≠ 0 by omega), sp_up_cell _ _ _ (show (13 : Nat) ≠ 14 by omega), sp_up_cell _ _ _ (show (13 : Nat) ≠ 0 by omega)]
          exact ⟨a1, a2, a3, a4, by omega, by omega, by omega⟩
      · obtain ⟨-, -, -, -, a5, a6, -⟩ := h1 a ha
        obtain ⟨-, -, -, -, b5, b6, -⟩ := h1 b hb
        by_cases hac : a = c
        · subst hac
          rw [uB_s, uB_s]
          by_cases hbc : b = a
          · subst hbc; rw [uB_s, uB_s]; omega
          · rw [uB_n _ _ hbc, uB_n _ _ hbc]; omega
        · rw [uB_n _ _ hac, uB_n _ _ hac]
          by_cases hbc : b = c
          · subst hbc; rw [uB_s, uB_s]; omega
          · rw [uB_n _ _ hbc, uB_n _ _ hbc]; exact h2 a b ha hb
      · rw [sp_up_slot _ _ _ (by omega), sp_up_cell _ _ _ (by omega), sp_up_cell _ _ _ (by omega), sp_up_slot _ _ _ (by omega), sp_up_cell _ _ _ (by omega)]; exact h3
      · rw [sp_up_cell _ _ _ (by omega), sp_up_cell _ _ _ (by omega), sp_up_same]
      · rw [sp_up_slot _ _ _ (by omega), sp_up_cell _ _ _ (by omega), sp_up_cell _ _ _ (by omega), sp_up_same]
      · rw [sp_up_cell _ _ _ (by omega), sp_up_cell _ _ _ (by omega), sp_up_slot _ _ _ (by omega), sp_up_cell _ _ _ (by omega), sp_up_same]
    · refine ⟨uB td x (c + 1), s ||| 2 ^ c, ?_, bs2, fun a ha => ?_, fun i hi => ?_⟩
      · rw [sp_up_same]
      · rw [fb_bit_set, Bool.or_eq_true, t3 a ha]
        constructor
        · rintro (⟨i, i1, i2⟩ | q)
          · exact ⟨i, by omega, by rw [uB_n _ _ (by omega)]; exact i2⟩
          · exact ⟨x, by omega, by rw [uB_s, of_decide_eq_true q]⟩
        · rintro ⟨i, i1, i2⟩
          by_cases hi : i = x
          · subst hi; rw [uB_s] at i2; exact Or.inr (decide_eq_true (by omega))
          · rw [uB_n _ _ hi] at i2; exact Or.inl ⟨i, by omega, i2⟩
      · rw [sp_up_cell _ _ _ (show (51 : Nat) ≠ 48 by omega), sp_up_cell _ _ _ (show (51 : Nat) ≠ 50 by omega), sp_up_cell _ _ _ (show (51 : Nat) ≠ 49 by omega), sp_up_cell _ _ _ (show (51 : Nat) ≠ 48 by omega), sp_up_cell _ _ _ (show (14 : Nat) ≠ 13 by omega), sp_up_cell _ _ _ (show (14 : Nat) ≠ 12 by omega), sp_up_cell _ _ _ (show (14 : Nat) ≠ 0 by omega)]
        by_cases hi2 : i = x
        · subst hi2; rw [sp_up_same, sp_up_same, uB_s]; exact ⟨rfl, rfl, by omega⟩
        · rw [sp_up_slot _ _ _ hi2, sp_up_slot _ _ _ hi2, sp_up_cell _ _ _ (by omega), uB_n _ _ hi2]; exact t4 i (by omega)
    · rw [sp_up_cell _ _ _ (by omega), sp_up_cell _ _ _ (by omega), sp_up_cell _ _ _ (by omega), sp_up_cell _ _ _ (by omega), sp_up_cell _ _ _ (by omega)]
    · rw [sp_up_cell _ _ _ e3, sp_up_cell _ _ _ e2, sp_up_cell _ _ _ e1, sp_up_cell _ _ _ e4, sp_up_cell _ _ _ e1]
    · rw [sp_up_cell _ _ _ (by omega), sp_up_cell _ _ _ (by omega), sp_up_slot _ _ _ e2, sp_up_cell _ _ _ (by omega), sp_up_slot _ _ _ e1]
