/-! THE CALLS that tell: feed, fault, undo, alter, add, law, away, feast, count, image, restore -/
theorem op_fault {f m : fr_N} (hr : RR f m) : ∃ r, fX7_fault f = some r ∧ fX8_fault m = some r := by
  obtain ⟨B, k, H, t, T, h1, h2, h3, h4, h5⟩ := hr
  exact ⟨f 0 7, rfl, by rw [h5]; rfl⟩
theorem op_count {f m : fr_N} (hr : RR f m) (a : Int32) : ∃ r, fX7_count a f = some r ∧ fX8_count a m = some r := by
  obtain ⟨B, k, H, t, T, ⟨hv, ⟨b1, b2, b3, -⟩, -, hm⟩, h2, h3, h4, h5⟩ := hr
  refine ⟨(if a = 0 then f 3 1 else if a = 1 then f 3 2 else if a = 2 then f 3 3 else if a = 3 then f 43 4 else if a = 4 then f 1 1 else -1000001), ?_, ?_⟩
  · unfold fX7_count
    repeat' split
    all_goals rfl
  unfold fX8_count
  have e6 : m 1 6 = nI (B 6) := hm 6 (by omega)
  have e7 : m 1 7 = nI (B 7) := hm 7 (by omega)
  have e8 : m 1 8 = nI (B 8) := hm 8 (by omega)
  rw [e6, e7, e8, b1, b2, b3, h3.2.1, h3.2.2.1, h2.2.1, h2.2.2.1]
  repeat' split
  all_goals rfl
theorem op_feed {f m : fr_N} (hr : RR f m) (a : Int32) : OK (fX7_feed a f) (fX8_feed a m) := by
  obtain ⟨B, k, H, t, T, h1, h2, h3, h4, h5⟩ := id hr
  have e1 := h2.2.1
  have e2 := h2.2.2.1
  have ht := h2.1
  unfold fX7_feed fX8_feed
  rw [sp_within, sp_bd, sp_in, sp_bd, sp_wide]
  by_cases ha : 0 ≤ a.toInt ∧ a.toInt ≤ 255
  · rw [decide_eq_true (show (0 : Int32).toInt ≤ a.toInt ∧ a.toInt ≤ (255 : Int32).toInt from ha), decide_eq_true (show (0 : Int64).toInt ≤ a.toInt ∧ a.toInt ≤ (255 : Int64).toInt from ha), if_pos rfl, if_pos rfl]
    unfold fX6_put
    rw [e1, e2]
    by_cases ht2 : t < 160
    · rw [if_pos (by rw [fa_lt, nI_toInt (by omega)]; show _ < (160 : Int); omega), sp_ck ht2 (by omega), sp_lt, nI_clamp (by omega), if_neg (by rw [show (160 : Int32) = nI 160 from rfl, nI_eq (by omega) (by omega)]; omega), sp_ck ht2 (by omega), sp_lt]
      rw [sp_up_cell f _ _ (show (1 : Nat) ≠ 2 by omega), e1, nI_1, sp_lt, sp_bd2, if_pos rfl, sp_up_same, sp_up_cell m _ _ (show (0 : Nat) ≠ 6 by omega), e2, nI_1, sp_lt, sp_up_same]
      obtain ⟨c, hc, rfl⟩ := sp_of (n := 255) ha.1 ha.2
      refine ⟨_, _, _, rfl, rfl, B, k, H, t + 1, fun i => if i = t then c else T i, h1.kept (fun c h1 h2 => ?_) ?_, ⟨by omega, sp_up_same _ _ _ _, sp_up_same _ _ _ _, fun i hi => ?_⟩, h3.kept (fun c h1 h2 => ?_) ?_ ?_, ⟨h4.1.kept (fun c h1 h2 => ?_) ?_ ?_, h4.2.kept (fun c h1 h2 => ?_) ?_ ?_⟩, ?_⟩
      · rw [sp_up_cell _ _ _ (by omega), sp_up_cell _ _ _ (by omega)]
      · rw [sp_up_cell _ _ _ (by omega), sp_up_cell _ _ _ (by omega)]
      · rw [sp_up_cell (fr_up f 2 t (nI c)) 1 _ (show (2 : Nat) ≠ 1 by omega), sp_up_cell (fr_up m 6 t (nI c)) 7 _ (show (6 : Nat) ≠ 0 by omega)]
        dsimp only
        by_cases hit : i = t
        · subst hit
          rw [sp_up_same, sp_up_same, if_pos rfl]
          exact ⟨rfl, rfl, by omega⟩
        · rw [sp_up_slot _ _ _ hit, sp_up_slot _ _ _ hit, if_neg hit]
          exact h2.2.2.2 i (by omega)
      · rw [sp_up_cell _ _ _ (by omega), sp_up_cell _ _ _ (by omega)]
      · rw [sp_up_cell _ _ _ (by omega), sp_up_cell _ _ _ (by omega)]
      · rw [sp_up_slot _ _ _ (by omega), sp_up_cell _ _ _ (by omega)]
      · rw [sp_up_cell _ _ _ (by omega), sp_up_cell _ _ _ (by omega)]
      · rw [sp_up_cell _ _ _ (by omega), sp_up_cell _ _ _ (by omega)]
      · rw [sp_up_cell _ _ _ (by omega), sp_up_cell _ _ _ (by omega)]
      · rw [sp_up_cell _ _ _ (by omega), sp_up_cell _ _ _ (by omega)]
      · rw [sp_up_cell _ _ _ (by omega), sp_up_cell _ _ _ (by omega)]
      · rw [sp_up_cell _ _ _ (by omega), sp_up_cell _ _ _ (by omega)]
      · rw [sp_up_cell _ _ _ (by omega), sp_up_cell _ _ _ (by omega), sp_up_slot _ _ _ (by omega), sp_up_cell _ _ _ (by omega)]
        exact h5
    · have : t = 160 := by omega
      subst this
      rw [if_neg (by rw [fa_lt]; exact Int.lt_irrefl _), sp_bd2, if_neg (by decide), if_pos (show nI 160 = 160 from rfl)]
      exact OK.same hr
  · rw [decide_eq_false (show ¬ ((0 : Int32).toInt ≤ a.toInt ∧ a.toInt ≤ (255 : Int32).toInt) from ha), decide_eq_false (show ¬ ((0 : Int64).toInt ≤ a.toInt ∧ a.toInt ≤ (255 : Int64).toInt) from ha), if_neg (by decide), if_neg (by decide)]
    exact OK.same hr
theorem op_feast {f m : fr_N} (hr : RR f m) (a b : Int32) : ∃ r, fX7_feast a b f = some r ∧ fX8_feast a b m = some r := by
  obtain ⟨B, k, H, t, T, ⟨hv, hF, -, hm⟩, -⟩ := hr
  have h6 := hv.2.2.2.2.2.1
  unfold fX7_feast fX8_feast
  rw [sp_hasFeast hF.1 (by omega), sp_isFeast (show m 1 6 = nI (B 6) from hm 6 (by omega)) (by omega), sp_bd, sp_bd]
  by_cases ha : 0 ≤ a.toInt ∧ a.toInt < (B 6 : Int)
  · rw [decide_eq_true ha, if_pos rfl, if_pos rfl, sp_within, sp_in, sp_bd, sp_bd, sp_wide]
    by_cases hb : 0 ≤ b.toInt ∧ b.toInt ≤ 3
    · rw [decide_eq_true (show (0 : Int32).toInt ≤ b.toInt ∧ b.toInt ≤ (3 : Int32).toInt from hb), decide_eq_true (show (0 : Int64).toInt ≤ b.toInt ∧ b.toInt ≤ (3 : Int64).toInt from hb), if_pos rfl, if_pos rfl]
      obtain ⟨i, hi, rfl⟩ := sp_at ha
      obtain ⟨w, hw, rfl⟩ := sp_of (n := 3) hb.1 hb.2
      rw [sp_mark hF.1 h6 hi hw, sp_bd, sp_mof (by omega) hw, sp_bd]
      refine ⟨_, rfl, ?_⟩
      have e1 : f 5 (4 * i + w) = nI (B (9 + (4 * i + w))) := hF.2.2.2.2.1 _ (by omega)
      have e2 := hm (9 + 4 * i + w) (by omega)
      rw [Nat.zero_add] at e2
      rw [e1, e2, Nat.add_assoc]
    · rw [decide_eq_false (show ¬ ((0 : Int32).toInt ≤ b.toInt ∧ b.toInt ≤ (3 : Int32).toInt) from hb), decide_eq_false (show ¬ ((0 : Int64).toInt ≤ b.toInt ∧ b.toInt ≤ (3 : Int64).toInt) from hb), if_neg (by decide), if_neg (by decide)]
      exact ⟨_, rfl, rfl⟩
  · rw [decide_eq_false ha, if_neg (by decide), if_neg (by decide)]
    exact ⟨_, rfl, rfl⟩
/-- a number of the book told anew -/
def uB (B : Nat → Nat) (j v : Nat) : Nat → Nat := fun i => if i = j then v else B i
theorem uB_s (B : Nat → Nat) (j v : Nat) : uB B j v j = v := if_pos rfl
theorem uB_n (B : Nat → Nat) {i j : Nat} (v : Nat) (h : i ≠ j) : uB B j v i = B i := if_neg h
theorem MB_up {r : fr_N} {B : Nat → Nat} (h : MB (r 1) 0 B) {j v : Nat} : MB (fr_up r 1 j (nI v) 1) 0 (uB B j v) := by
  intro i hi
  rw [Nat.zero_add]
  by_cases hij : i = j
  · subst hij
    rw [sp_up_same, uB_s]
  · rw [sp_up_slot _ _ _ hij, uB_n _ _ hij]
    have := h i hi
    rwa [Nat.zero_add] at this
theorem VB_law {B : Nat → Nat} (h : VB B) {j v : Nat} (hj : j < 6) (hl : (fr_tb1 j).toInt ≤ (v : Int)) (hg : (v : Int) ≤ (fr_tb2 j).toInt) : VB (uB B j v) := by
  obtain ⟨h0, h1, h2, h3, h4, h5, h6, h7, h8, h9, h10, h11⟩ := h
  have k6 : uB B j v 6 = B 6 := uB_n _ _ (by omega)
  have k7 : uB B j v 7 = B 7 := uB_n _ _ (by omega)
  have k8 : uB B j v 8 = B 8 := uB_n _ _ (by omega)
  have hv : v < 1000 ∧ (j = 0 → v ≤ 2) ∧ (j = 1 → v ≤ 29) ∧ (j = 2 → v ≤ 6) ∧ (j = 3 → 10 ≤ v ∧ v ≤ 150) ∧ (j = 4 → 1 ≤ v ∧ v ≤ 9) ∧ (j = 5 → v ≤ 2) := by
    rcases (show j = 0 ∨ j = 1 ∨ j = 2 ∨ j = 3 ∨ j = 4 ∨ j = 5 by omega) with rfl | rfl | rfl | rfl | rfl | rfl
    · have : (v : Int) ≤ 2 := hg
      omega
    · have : (v : Int) ≤ 29 := hg
      omega
    · have : (v : Int) ≤ 6 := hg
      omega
    · have : (v : Int) ≤ 150 := hg
      have : (10 : Int) ≤ v := hl
      omega
    · have : (v : Int) ≤ 9 := hg
      have : (1 : Int) ≤ v := hl
      omega
    · have : (v : Int) ≤ 2 := hg
      omega
  have get : ∀ i, uB B j v i = if i = j then v else B i := fun _ => rfl
  refine ⟨fun i => ?_, ?_, ?_, ?_, ?_, by rw [k6]; exact h5, by rw [k7]; exact h6, by rw [k8]; exact h7, by rw [k8, k6, k7]; exact h8, fun h => ?_, fun i hi => ?_, fun z hz => ?_⟩
  · rw [get]; split
    · exact hv.1
    · exact h0 i
  · rw [get]; split
    · next e => exact hv.2.1 e.symm
    · exact h1
  · rw [get]; split
    · next e => exact hv.2.2.1 e.symm
    · exact h2
  · rw [get]; split
    · next e => exact hv.2.2.2.1 e.symm
    · exact h3
  · rw [get]; split
    · next e => exact hv.2.2.2.2.2.2 e.symm
    · exact h4
  · rw [k8] at h ⊢
    obtain ⟨a1, a2, a3, a4, a5⟩ := h9 h
    refine ⟨a1, ?_⟩
    rw [get, get]
    split
    · next e => exact ⟨(hv.2.2.2.2.1 e.symm).1, (hv.2.2.2.2.1 e.symm).2, by rw [if_neg (by omega)]; exact ⟨a4, a5⟩⟩
    · split
      · next e => exact ⟨a2, a3, hv.2.2.2.2.2.1 e.symm⟩
      · exact ⟨a2, a3, a4, a5⟩
  · rw [k6] at hi
    rw [uB_n _ _ (by omega), uB_n _ _ (by omega), uB_n _ _ (by omega), uB_n _ _ (by omega)]
    exact h10 i hi
  · rw [k7] at hz
    rw [k6, uB_n _ _ (by omega), uB_n _ _ (by omega)]
    exact h11 z hz
theorem FB_law {n : fr_N} {B : Nat → Nat} (h : FB n 3 B) {j v : Nat} (hj : j < 6) : FB (fr_up n 4 j (nI v)) 3 (uB B j v) := by
  obtain ⟨h1, h2, h3, h4, h5, h6, h7⟩ := h
  refine ⟨?_, ?_, ?_, fun i hi => ?_, fun i hi => ?_, fun z hz => ?_, fun c hc => ?_⟩
  · rw [sp_up_cell _ _ _ (by omega), uB_n _ _ (by omega)]; exact h1
  · rw [sp_up_cell _ _ _ (by omega), uB_n _ _ (by omega)]; exact h2
  · rw [sp_up_cell _ _ _ (by omega), uB_n _ _ (by omega)]; exact h3
  · show fr_up n 4 j (nI v) 4 i = _
    by_cases hij : i = j
    · subst hij; rw [sp_up_same, uB_s]
    · rw [sp_up_slot _ _ _ hij, uB_n _ _ hij]; exact h4 i hi
  · rw [uB_n _ _ (by omega)] at hi
    rw [sp_up_cell _ _ _ (by omega), uB_n _ _ (by omega)]; exact h5 i hi
  · rw [uB_n _ _ (by omega)] at hz
    rw [sp_up_cell _ _ _ (by omega), sp_up_cell _ _ _ (by omega), sp_up_cell _ _ _ (by omega), uB_n _ _ (by omega), uB_n _ _ (by omega), uB_n _ _ (by omega)]; exact h6 z hz
  · rw [sp_up_cell _ _ _ (by omega), sp_up_cell _ _ _ (by omega), uB_n _ _ (by omega), uB_n _ _ (by omega)]; exact h7 c hc
theorem told_iff {f m : fr_N} {B : Nat → Nat} (h : R1 f m B) : (f 3 0 = 0 ↔ ¬ 0 < B 8) := by
  rw [h.2.2.1]
  by_cases h1 : 0 < B 8
  · rw [decide_eq_true h1]
    exact ⟨fun h => absurd h (by decide), fun h => absurd h1 h⟩
  · rw [decide_eq_false h1]
    exact ⟨fun _ => h1, fun _ => rfl⟩
theorem sp_isLaw (a b : Int32) : ∃ z : Bool, fX8_isLaw a b = some z ∧ (z = true ↔ ∃ j, j < 6 ∧ a = nI j ∧ (fr_tb1 j).toInt ≤ b.toInt ∧ b.toInt ≤ (fr_tb2 j).toInt) := by
  unfold fX8_isLaw
  have key : ∀ (j : Nat) (x y : Int64), j < 6 → x.toInt = (fr_tb1 j).toInt → y.toInt = (fr_tb2 j).toInt → a = nI j → ∃ z : Bool, fr_bd (fX8_in (Int32.toInt64 b) x y) (fun r => some r) = some z ∧ (z = true ↔ ∃ j, j < 6 ∧ a = nI j ∧ (fr_tb1 j).toInt ≤ b.toInt ∧ b.toInt ≤ (fr_tb2 j).toInt) := by
    intro j x y hj hx hy ha
    rw [sp_in, sp_bd, sp_wide, hx, hy]
    refine ⟨_, rfl, ?_⟩
    rw [decide_eq_true_iff]
    constructor
    · intro h
      exact ⟨j, hj, ha, h⟩
    · rintro ⟨i, hi, e, h⟩
      rw [ha, nI_eq (by omega) (by omega)] at e
      subst e
      exact h
  by_cases h0 : a = 0
  · rw [if_pos h0]; exact key 0 _ _ (by omega) rfl rfl h0
  rw [if_neg h0]
  by_cases h1 : a = 1
  · rw [if_pos h1]; exact key 1 _ _ (by omega) rfl rfl h1
  rw [if_neg h1]
  by_cases h2 : a = 2
  · rw [if_pos h2]; exact key 2 _ _ (by omega) rfl rfl h2
  rw [if_neg h2]
  by_cases h3 : a = 3
  · rw [if_pos h3]; exact key 3 _ _ (by omega) rfl rfl h3
  rw [if_neg h3]
  by_cases h4 : a = 4
  · rw [if_pos h4]; exact key 4 _ _ (by omega) rfl rfl h4
  rw [if_neg h4]
  by_cases h5 : a = 5
  · rw [if_pos h5]; exact key 5 _ _ (by omega) rfl rfl h5
  rw [if_neg h5]
  refine ⟨false, rfl, fun h => absurd h (by decide), ?_⟩
  rintro ⟨j, hj, e, -⟩
  rcases (show j = 0 ∨ j = 1 ∨ j = 2 ∨ j = 3 ∨ j = 4 ∨ j = 5 by omega) with rfl | rfl | rfl | rfl | rfl | rfl
  · exact absurd e h0
  · exact absurd e h1
  · exact absurd e h2
  · exact absurd e h3
  · exact absurd e h4
  · exact absurd e h5
theorem op_law {f m : fr_N} (hr : RR f m) (a b : Int32) : OK (fX7_law a b f) (fX8_law a b m) := by
  obtain ⟨B, k, H, t, T, h1, h2, h3, h4, h5⟩ := id hr
  obtain ⟨hv, hF, hT, hM⟩ := id h1
  have e8 : m 1 8 = nI (B 8) := hM 8 (by omega)
  have h8 := hv.2.2.2.2.2.2.2.1
  unfold fX7_law fX8_law
  rw [sp_isBook e8 (by omega), sp_bd]
  by_cases hb : 0 < B 8
  · rw [if_neg (fun h => (told_iff h1).mp h hb), decide_eq_true hb, if_pos rfl, sp_within, sp_bd]
    obtain ⟨z, hz1, hz2⟩ := sp_isLaw a b
    rw [hz1, sp_bd]
    by_cases ha : 0 ≤ a.toInt ∧ a.toInt ≤ 5
    · rw [decide_eq_true (show (0 : Int32).toInt ≤ a.toInt ∧ a.toInt ≤ (5 : Int32).toInt from ha), if_pos rfl]
      obtain ⟨j, hj, rfl⟩ := sp_of (n := 5) ha.1 ha.2
      rw [sp_ck (by omega) (by omega), sp_ck (by omega) (by omega), nI_clamp (by omega), sp_within, sp_bd]
      by_cases hc : (fr_tb1 j).toInt ≤ b.toInt ∧ b.toInt ≤ (fr_tb2 j).toInt
      · rw [decide_eq_true hc, if_pos rfl, if_pos (hz2.mpr ⟨j, by omega, rfl, hc⟩), sp_ck (by omega) (by omega)]
        have hb0 : 0 ≤ b.toInt := by
          rcases (show j = 0 ∨ j = 1 ∨ j = 2 ∨ j = 3 ∨ j = 4 ∨ j = 5 by omega) with rfl | rfl | rfl | rfl | rfl | rfl
          · exact hc.1
          · exact hc.1
          · exact hc.1
          · exact Int.le_trans (by decide) hc.1
          · exact Int.le_trans (by decide) hc.1
          · exact hc.1
        obtain ⟨v, hv2, rfl⟩ := nI_of (x := b) (by rw [fa_lt]; show ¬ b.toInt < 0; omega)
        rw [nI_toInt hv2] at hc
        obtain ⟨f1, g1, g2⟩ := sp_keep h3.1 h3.2.1 2 (nI j) (f 4 j) 0
        obtain ⟨m1, g3, g4⟩ := sp_notes h3.1 h3.2.2.1
        rw [g1, sp_bd, g3, sp_bd, sp_ck (by omega) (by omega), sp_ck (by omega) (by omega), sp_ck (by omega) (by omega), sp_lt, sp_lt]
        have eo : f 4 j = nI (B j) := hF.2.2.2.1 j (by omega)
        have eo2 : m1 1 j = nI (B j) := by
          rw [g4.1 1 (by omega) (by omega)]
          have := hM j (by omega)
          rwa [Nat.zero_add] at this
        have hu : UA 2 (nI j) (f 4 j) 0 (uB B j v) B := Or.inr (Or.inr (Or.inl ⟨rfl, j, by omega, rfl, eo, fun i hi => uB_n _ _ hi⟩))
        obtain ⟨k', H', h3'⟩ := R3.act (f' := fr_up f1 4 j (nI v)) (m' := fr_up m1 1 j (nI v)) h3 hv hM g2 g4 hu (fun c a1 a2 => sp_up_cell _ _ _ (by omega)) (sp_up_cell _ _ _ (by omega)) (by rw [sp_up_cell _ _ _ (by omega)])
        rw [eo, eo2]
        refine ⟨_, _, _, rfl, rfl, uB B j v, k', H', t, T, ⟨VB_law hv (by omega) hc.1 hc.2, FB_law (hF.kept (fun c a1 a2 => g2.1 c (by omega))) (by omega), ?_, MB_up (by rw [g4.1 1 (by omega) (by omega)]; exact hM)⟩, h2.kept (fun c a1 a2 => ?_) ?_ ?_, h3', ⟨h4.1.kept (fun c a1 a2 => ?_) ?_ ?_, h4.2.kept (fun c a1 a2 => ?_) ?_ ?_⟩, ?_⟩
        · rw [sp_up_cell _ _ _ (by omega), uB_n _ _ (by omega), g2.1 3 (by omega)]; exact hT
        · rw [sp_up_cell _ _ _ (by omega), g2.1 c (by omega)]
        · rw [sp_up_cell _ _ _ (by omega), g4.1 6 (by omega) (by omega)]
        · rw [sp_up_cell _ _ _ (by omega), g4.2.1 7 (by omega)]
        · rw [sp_up_cell _ _ _ (by omega), g2.1 c (by omega)]
        · rw [sp_up_cell _ _ _ (by omega), g4.1 5 (by omega) (by omega)]
        · rw [sp_up_cell _ _ _ (by omega), g4.1 4 (by omega) (by omega)]
        · rw [sp_up_cell _ _ _ (by omega), g2.1 c (by omega)]
        · rw [sp_up_cell _ _ _ (by omega), g4.1 5 (by omega) (by omega)]
        · rw [sp_up_cell _ _ _ (by omega), g4.1 4 (by omega) (by omega)]
        · rw [sp_up_cell _ _ _ (by omega), g2.1 0 (by omega), sp_up_cell _ _ _ (by omega), g4.2.1 14 (by omega)]
          exact h5
      · have hn : ¬ z = true := by
          intro h
          obtain ⟨i, hi, e, h⟩ := hz2.mp h
          rw [nI_eq (by omega) (by omega)] at e
          subst e
          exact hc h
        rw [decide_eq_false hc, if_neg (by decide), if_neg hn]
        exact OK.same hr
    · rw [decide_eq_false (show ¬ ((0 : Int32).toInt ≤ a.toInt ∧ a.toInt ≤ (5 : Int32).toInt) from ha), if_neg (by decide)]
      have hn : ¬ z = true := by
        intro h
        obtain ⟨i, hi, rfl, h⟩ := hz2.mp h
        rw [nI_toInt (by omega)] at ha
        omega
      rw [if_neg hn]
      exact OK.same hr
  · rw [if_pos ((told_iff h1).mpr hb), decide_eq_false hb, if_neg (by decide)]
    exact OK.same hr
