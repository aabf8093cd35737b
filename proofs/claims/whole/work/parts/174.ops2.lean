/-! away, alter, add, undo -/
theorem RR_act {f m f1 m1 f' m' : fr_N} {B B' : Nat → Nat} {k : Nat} {H : Nat → Nat → Nat} {t : Nat} {T : Nat → Nat} {s x w v : Int32} (h1 : R1 f m B) (h2 : R2 f m t T) (h3 : R3 f m B k H) (h4 : IM f m 18 0 ∧ IM f m 26 1) (h5 : f 0 7 = m 0 14) (g2 : KP f f1 k s x w v) (g4 : NP m m1 k) (hu : UA s x w v B' B) (ef : ∀ c, (c < 3 ∨ 10 < c) → f' c = f1 c) (em : ∀ c, c ≠ 1 → m' c = m1 c) (hR : R1 f' m' B') : RR f' m' := by
  obtain ⟨k', H', h3'⟩ := R3.act (f' := f') (m' := m') h3 h1.1 h1.2.2.2 g2 g4 hu (fun c a1 a2 => ef c (by omega)) (em 3 (by omega)) (by rw [em 0 (by omega)])
  refine ⟨B', k', H', t, T, hR, h2.kept (fun c a1 a2 => ?_) ?_ ?_, h3', ⟨h4.1.kept (fun c a1 a2 => ?_) ?_ ?_, h4.2.kept (fun c a1 a2 => ?_) ?_ ?_⟩, ?_⟩
  · rw [ef c (by omega), g2.1 c (by omega)]
  · rw [em 6 (by omega), g4.1 6 (by omega) (by omega)]
  · rw [em 0 (by omega), g4.2.1 7 (by omega)]
  · rw [ef c (by omega), g2.1 c (by omega)]
  · rw [em 5 (by omega), g4.1 5 (by omega) (by omega)]
  · rw [em 4 (by omega), g4.1 4 (by omega) (by omega)]
  · rw [ef c (by omega), g2.1 c (by omega)]
  · rw [em 5 (by omega), g4.1 5 (by omega) (by omega)]
  · rw [em 4 (by omega), g4.1 4 (by omega) (by omega)]
  · rw [ef 0 (by omega), g2.1 0 (by omega), em 0 (by omega), g4.2.1 14 (by omega)]
    exact h5
/-- numbers behind the laws, the counts, the marks and the seasons -/
theorem VB_far {B : Nat → Nat} (h : VB B) {j v : Nat} (hj : 69 ≤ j) (hv : v < 1000) : VB (uB B j v) := by
  obtain ⟨h0, h1, h2, h3, h4, h5, h6, h7, h8, h9, h10, h11⟩ := h
  have e : ∀ i, i < 69 → uB B j v i = B i := fun i hi => uB_n _ _ (by omega)
  refine ⟨fun i => ?_, by rw [e _ (by omega)]; exact h1, by rw [e _ (by omega)]; exact h2, by rw [e _ (by omega)]; exact h3, by rw [e _ (by omega)]; exact h4, by rw [e _ (by omega)]; exact h5, by rw [e _ (by omega)]; exact h6, by rw [e _ (by omega)]; exact h7, by rw [e 8 (by omega), e 6 (by omega), e 7 (by omega)]; exact h8, by rw [e 8 (by omega), e 3 (by omega), e 4 (by omega)]; exact h9, fun i hi => ?_, fun z hz => ?_⟩
  · unfold uB; split
    · exact hv
    · exact h0 i
  · rw [e 6 (by omega)] at hi
    rw [e (9 + 4 * i) (by omega), e (9 + 4 * i + 1) (by omega), e (9 + 4 * i + 2) (by omega), e (9 + 4 * i + 3) (by omega)]
    exact h10 i hi
  · rw [e 7 (by omega)] at hz
    rw [e 6 (by omega), e (57 + 3 * z) (by omega), e (57 + 3 * z + 1) (by omega)]
    exact h11 z hz
theorem op_away {f m : fr_N} (hr : RR f m) (a x y : Int32) : OK (fX7_away a x y f) (fX8_away a x y m) := by
  obtain ⟨B, k, H, t, T, h1, h2, h3, h4, h5⟩ := id hr
  obtain ⟨hv, hF, hT, hM⟩ := id h1
  have h8 := hv.2.2.2.2.2.2.2.1
  unfold fX7_away fX8_away
  rw [sp_hasChoir hF.2.2.1 (by omega), sp_isChoir (show m 1 8 = nI (B 8) from hM 8 (by omega)) (by omega), sp_bd, sp_bd]
  by_cases ha : 0 ≤ a.toInt ∧ a.toInt < (B 8 : Int)
  · rw [decide_eq_true ha, if_pos rfl, if_pos rfl, sp_within, sp_bd, sp_in, sp_bd, sp_wide]
    by_cases hx : 0 ≤ x.toInt ∧ x.toInt ≤ 366
    · rw [decide_eq_true (show (0 : Int32).toInt ≤ x.toInt ∧ x.toInt ≤ (366 : Int32).toInt from hx), decide_eq_true (show (0 : Int64).toInt ≤ x.toInt ∧ x.toInt ≤ (366 : Int64).toInt from hx), if_pos rfl, if_pos rfl, sp_within, sp_bd, sp_in, sp_bd, sp_wide]
      by_cases hy : 0 ≤ y.toInt ∧ y.toInt ≤ 366
      · rw [decide_eq_true (show (0 : Int32).toInt ≤ y.toInt ∧ y.toInt ≤ (366 : Int32).toInt from hy), decide_eq_true (show (0 : Int64).toInt ≤ y.toInt ∧ y.toInt ≤ (366 : Int64).toInt from hy), if_pos rfl, if_pos rfl]
        obtain ⟨c, hc, rfl⟩ := sp_at ha
        obtain ⟨p, hp, rfl⟩ := sp_of (n := 366) hx.1 hx.2
        obtain ⟨q, hq, rfl⟩ := sp_of (n := 366) hy.1 hy.2
        rw [nI_clamp (by omega), sp_ck (by omega) (by omega), sp_ck (by omega) (by omega)]
        obtain ⟨f1, g1, g2⟩ := sp_keep h3.1 h3.2.1 3 (nI c) (f 9 c) (f 10 c)
        obtain ⟨m1, g3, g4⟩ := sp_notes h3.1 h3.2.2.1
        have e1 : (69 : Int32) + (2 : Int32) * nI c = nI (69 + 2 * c) := by
          rw [show (69 : Int32) = nI 69 from rfl, show (2 : Int32) = nI 2 from rfl, pk_mul, nI_add]
        rw [g1, sp_bd, g3, sp_bd, sp_ck (by omega) (by omega), sp_lt, sp_ck (by omega) (by omega), sp_lt, e1, nI_1, sp_ck (by omega) (by omega), sp_lt, sp_ck (by omega) (by omega), sp_lt, nI_clamp (by omega), nI_clamp (by omega)]
        have w1 : f 9 c = nI (B (69 + 2 * c)) := (hF.2.2.2.2.2.2 c (by omega)).1
        have w2 : f 10 c = nI (B (69 + 2 * c + 1)) := (hF.2.2.2.2.2.2 c (by omega)).2
        refine ⟨_, _, _, rfl, rfl, RR_act h1 h2 h3 h4 h5 g2 g4 (B' := uB (uB B (69 + 2 * c) p) (69 + 2 * c + 1) q) (Or.inr (Or.inr (Or.inr ⟨rfl, c, by omega, rfl, w1, w2, fun i a1 a2 => by rw [uB_n _ _ a2, uB_n _ _ a1]⟩))) (fun d hd => by rw [sp_up_cell _ _ _ (by omega), sp_up_cell _ _ _ (by omega)]) (fun d hd => by rw [sp_up_cell _ _ _ hd, sp_up_cell _ _ _ hd]) ⟨VB_far (VB_far hv (by omega) (by omega)) (by omega) (by omega), ?_, ?_, MB_up (MB_up (by rw [g4.1 1 (by omega) (by omega)]; exact hM))⟩⟩
        · obtain ⟨b1, b2, b3, b4, b5, b6, b7⟩ := hF.kept (n' := f1) (fun d a1 a2 => g2.1 d (by omega))
          have e : ∀ i, i < 69 → uB (uB B (69 + 2 * c) p) (69 + 2 * c + 1) q i = B i := fun i hi => by rw [uB_n _ _ (by omega), uB_n _ _ (by omega)]
          refine ⟨?_, ?_, ?_, fun i hi => ?_, fun i hi => ?_, fun z hz => ?_, fun d hd => ?_⟩
          · rw [sp_up_cell _ _ _ (by omega), sp_up_cell _ _ _ (by omega), e _ (by omega)]; exact b1
          · rw [sp_up_cell _ _ _ (by omega), sp_up_cell _ _ _ (by omega), e _ (by omega)]; exact b2
          · rw [sp_up_cell _ _ _ (by omega), sp_up_cell _ _ _ (by omega), e _ (by omega)]; exact b3
          · rw [sp_up_cell _ _ _ (by omega), sp_up_cell _ _ _ (by omega), e _ (by omega)]; exact b4 i hi
          · rw [e _ (by omega)] at hi
            have h6 := hv.2.2.2.2.2.1
            rw [sp_up_cell _ _ _ (by omega), sp_up_cell _ _ _ (by omega), e _ (by omega)]; exact b5 i hi
          · rw [e _ (by omega)] at hz
            have h7 := hv.2.2.2.2.2.2.1
            rw [e _ (by omega), e _ (by omega), e _ (by omega)]
            have := b6 z hz
            exact this
          · show fr_up (fr_up f1 9 c (nI p)) 10 c (nI q) 9 d = _ ∧ fr_up (fr_up f1 9 c (nI p)) 10 c (nI q) 10 d = _
            rw [sp_up_cell (fr_up f1 9 c (nI p)) c _ (show (9 : Nat) ≠ 10 by omega)]
            by_cases hdc : d = c
            · subst hdc
              rw [sp_up_same, sp_up_same, uB_s, uB_n _ _ (by omega), uB_s]
              exact ⟨rfl, rfl⟩
            · rw [sp_up_slot _ _ _ hdc, sp_up_slot _ _ _ hdc, sp_up_cell _ _ _ (by omega), uB_n _ _ (by omega), uB_n _ _ (by omega), uB_n _ _ (by omega), uB_n _ _ (by omega)]
              exact b7 d hd
        · rw [sp_up_cell _ _ _ (by omega), sp_up_cell _ _ _ (by omega), uB_n _ _ (by omega), uB_n _ _ (by omega), g2.1 3 (by omega)]
          exact hT
      · rw [decide_eq_false (show ¬ ((0 : Int32).toInt ≤ y.toInt ∧ y.toInt ≤ (366 : Int32).toInt) from hy), decide_eq_false (show ¬ ((0 : Int64).toInt ≤ y.toInt ∧ y.toInt ≤ (366 : Int64).toInt) from hy), if_neg (by decide), if_neg (by decide)]
        exact OK.same hr
    · rw [decide_eq_false (show ¬ ((0 : Int32).toInt ≤ x.toInt ∧ x.toInt ≤ (366 : Int32).toInt) from hx), decide_eq_false (show ¬ ((0 : Int64).toInt ≤ x.toInt ∧ x.toInt ≤ (366 : Int64).toInt) from hx), if_neg (by decide), if_neg (by decide)]
      exact OK.same hr
  · rw [decide_eq_false ha, if_neg (by decide), if_neg (by decide)]
    exact OK.same hr
/-- a mark of a feast told anew -/
theorem VB_mark {B : Nat → Nat} (h : VB B) {i w v : Nat} (hi : i < B 6) (hw : w ≤ 3) (hc : cB (uB B (9 + 4 * i + w) v (9 + 4 * i)) (uB B (9 + 4 * i + w) v (9 + 4 * i + 1)) (uB B (9 + 4 * i + w) v (9 + 4 * i + 2)) (uB B (9 + 4 * i + w) v (9 + 4 * i + 3))) : VB (uB B (9 + 4 * i + w) v) := by
  obtain ⟨h0, h1, h2, h3, h4, h5, h6, h7, h8, h9, h10, h11⟩ := h
  obtain ⟨c1, ⟨c2, c2'⟩, c3, c4⟩ := hc
  have e : ∀ x, (x < 9 ∨ 57 ≤ x) → uB B (9 + 4 * i + w) v x = B x := fun x hx => uB_n _ _ (by omega)
  have hv : v < 1000 := by
    have hs := uB_s B (9 + 4 * i + w) v
    rcases (show w = 0 ∨ w = 1 ∨ w = 2 ∨ w = 3 by omega) with rfl | rfl | rfl | rfl
    · rw [Nat.add_zero] at hs c1
      rw [hs] at c1
      omega
    · rw [hs] at c2 c2'
      omega
    · rw [hs] at c3
      omega
    · rw [hs] at c4
      omega
  refine ⟨fun x => ?_, by rw [e _ (by omega)]; exact h1, by rw [e _ (by omega)]; exact h2, by rw [e _ (by omega)]; exact h3, by rw [e _ (by omega)]; exact h4, by rw [e _ (by omega)]; exact h5, by rw [e _ (by omega)]; exact h6, by rw [e _ (by omega)]; exact h7, by rw [e 8 (by omega), e 6 (by omega), e 7 (by omega)]; exact h8, by rw [e 8 (by omega), e 3 (by omega), e 4 (by omega)]; exact h9, fun x hx => ?_, fun z hz => ?_⟩
  · unfold uB; split
    · exact hv
    · exact h0 x
  · rw [e 6 (by omega)] at hx
    by_cases hxi : x = i
    · subst hxi
      omega
    · rw [uB_n _ _ (show 9 + 4 * x ≠ _ by omega), uB_n _ _ (show 9 + 4 * x + 1 ≠ _ by omega), uB_n _ _ (show 9 + 4 * x + 2 ≠ _ by omega), uB_n _ _ (show 9 + 4 * x + 3 ≠ _ by omega)]
      exact h10 x hx
  · rw [e 7 (by omega)] at hz
    rw [e 6 (by omega), e (57 + 3 * z) (by omega), e (57 + 3 * z + 1) (by omega)]
    exact h11 z hz
theorem FB_mark {n : fr_N} {B : Nat → Nat} (h : FB n 3 B) (h6' : B 6 ≤ 12) {i w v : Nat} (hi : i < B 6) (hw : w ≤ 3) : FB (fr_up n 5 (4 * i + w) (nI v)) 3 (uB B (9 + 4 * i + w) v) := by
  obtain ⟨h1, h2, h3, h4, h5, h6, h7⟩ := h
  have e : ∀ x, (x < 9 ∨ 57 ≤ x) → uB B (9 + 4 * i + w) v x = B x := fun x hx => uB_n _ _ (by omega)
  refine ⟨?_, ?_, ?_, fun j hj => ?_, fun j hj => ?_, fun z hz => ?_, fun c hc => ?_⟩
  · rw [sp_up_cell _ _ _ (by omega), e _ (by omega)]; exact h1
  · rw [sp_up_cell _ _ _ (by omega), e _ (by omega)]; exact h2
  · rw [sp_up_cell _ _ _ (by omega), e _ (by omega)]; exact h3
  · rw [sp_up_cell _ _ _ (by omega), e _ (by omega)]; exact h4 j hj
  · rw [e _ (by omega)] at hj
    show fr_up n 5 (4 * i + w) (nI v) 5 j = _
    by_cases hij : j = 4 * i + w
    · subst hij
      rw [sp_up_same, show 9 + (4 * i + w) = 9 + 4 * i + w by omega, uB_s]
    · rw [sp_up_slot _ _ _ hij, uB_n _ _ (by omega)]; exact h5 j hj
  · rw [e _ (by omega)] at hz
    rw [sp_up_cell _ _ _ (by omega), sp_up_cell _ _ _ (by omega), sp_up_cell _ _ _ (by omega), e _ (by omega), e _ (by omega), e _ (by omega)]; exact h6 z hz
  · rw [sp_up_cell _ _ _ (by omega), sp_up_cell _ _ _ (by omega), e _ (by omega), e _ (by omega)]; exact h7 c hc
