/-! questions over many years -/
theorem OQ.behind {f m f1 m1 : fr_N} {a b : Option (Int32 × fr_N)} (h1 : SF f f1) (h2 : SM m m1) (h : OQ f1 m1 a b) : OQ f m a b := by
  obtain ⟨r, f', m', e1, e2, e3, e4⟩ := h
  exact ⟨r, f', m', e1, e2, h1.trans e3, h2.trans e4⟩
theorem both_turn {f m : fr_N} {B : Nat → Nat} {y : Nat} (hv : VB B) (hF : FB f 3 B) (hM : MB (m 1) 0 B) (hy : 1 ≤ y ∧ y < 1000) : ∃ f' m', fX2_turnTo (nI y) f = some f' ∧ fX8_opens (nI y) m = some m' ∧ FB f' 3 B ∧ MB (m' 1) 0 B ∧ CF f' B y ∧ CM m' B y ∧ SF f f' ∧ SM m m' := by
  obtain ⟨f', a1, a2, a3⟩ := F_turnTo hv hF hy
  obtain ⟨m', b1, b2, b3, b4⟩ := M_opens hv hM hy
  exact ⟨f', m', a1, b1, hF.kept fun c e1 e2 => a3 c (by omega), by rw [b3 1 (by omega)]; exact hM, a2, b2, fun c hc => a3 c (by omega), ⟨fun j hj => b4 j (by omega) (by omega), b3 1 (by omega), fun c e1 e2 => b3 c (by omega)⟩⟩
theorem F_last {y n : Nat} (hy : y < 1000) (hn : 1 ≤ n ∧ n < 1000) : fX7_lastOf (nI y) (nI n) = some (nI (min 999 (y + n - 1))) := by
  unfold fX7_lastOf
  rw [nI_add, show nI (y + n) - 1 = nI (y + n - 1) from pk_sub (b := 1) (by omega)]
  by_cases h : 999 < y + n - 1
  · rw [if_pos (show (999 : Int32) < nI (y + n - 1) from (n_lt (a := 999) (by omega) (by omega)).mpr h), show min 999 (y + n - 1) = 999 by omega]; rfl
  · rw [if_neg (show ¬ (999 : Int32) < nI (y + n - 1) from fun z => h ((n_lt (a := 999) (by omega) (by omega)).mp z)), show min 999 (y + n - 1) = y + n - 1 by omega]
theorem both_meet {B : Nat → Nat} (hv : VB B) {p q y0 : Nat} (hp : p < B 6) (hq : q < B 6) (hy0 : 1 ≤ y0 ∧ y0 < 1000) : ∀ (k j : Nat) (f m : fr_N), FB f 3 B → MB (m 1) 0 B → y0 ≤ j → j ≤ min 999 (y0 + 99 - 1) + 1 → min 999 (y0 + 99 - 1) + 1 - j < k → OQ f m (fX7_meet_48 k (nI p) (nI q) (nI (min 999 (y0 + 99 - 1))) (nI j) f) (fX8_meet_34 k (nI p) (nI q) (nI y0) (nI j) m)
  | 0, _, _, _, _, _, _, _, hk => absurd hk (by omega)
  | k + 1, j, f, m, hF, hM, j1, j2, hk => by
    rw [fX7_meet_48, fX8_meet_34, show nI y0 + 99 = nI (y0 + 99) from nI_add y0 99]
    by_cases he : j = min 999 (y0 + 99 - 1) + 1
    · rw [if_pos ((n_lt (by omega) (by omega)).mpr (by omega))]
      by_cases h1 : y0 + 99 ≤ j
      · rw [if_pos ((n_le (by omega) (by omega)).mpr h1)]; exact OQ.same
      · rw [if_neg (fun z => h1 ((n_le (by omega) (by omega)).mp z)), if_pos (show (1000 : Int32) ≤ nI j from (n_le (a := 1000) (by omega) (by omega)).mpr (by omega))]; exact OQ.same
    · obtain ⟨f', m', a1, a2, a3, a4, a5, a6, a7, a8⟩ := both_turn hv hF hM (y := j) (by omega)
      have hb := dy_bd (B 0) j
      have op := od_bd B j p
      have oq := od_bd B j q
      rw [if_neg (fun z => by have := (n_lt (by omega) (by omega)).mp z; omega), if_neg (fun z => by have := (n_le (by omega) (by omega)).mp z; omega), if_neg (show ¬ (1000 : Int32) ≤ nI j from fun z => by have := (n_le (a := 1000) (by omega) (by omega)).mp z; omega), a1, a2, sp_bd, sp_bd, F_ownDayOf hv a3 a5 hp, M_ownDay hv a4 a6 (by omega) hp, sp_bd, sp_bd, F_ownDayOf hv a3 a5 hq, M_ownDay hv a4 a6 (by omega) hq, sp_bd, sp_bd, nI_1]
      refine OQ.behind a7 a8 ?_
      have ih := both_meet hv hp hq hy0 k (j + 1) f' m' a3 a4 (by omega) (by omega) (by omega)
      by_cases e1 : nd (od B j p) = -1000000
      · rw [if_pos e1, if_pos e1]; exact ih
      · rw [if_neg e1, if_neg e1]
        by_cases e2 : nd (od B j p) = nd (od B j q)
        · rw [if_pos e2, if_pos e2]; exact OQ.same
        · rw [if_neg e2, if_neg e2]; exact ih
theorem op_meet {f m : fr_N} (hr : RR f m) (a b c : Int32) : OK (fX7_meet a b c f) (fX8_meet a b c m) := by
  obtain ⟨B, k, H, t, T, h1, h2, h3, h4, h5⟩ := id hr
  refine OQ.ok ?_ hr
  unfold fX7_meet fX8_meet
  refine Q_feast h1 fun p hp ha => ?_
  refine Q_feast h1 fun q hq hb => ?_
  by_cases he : a = b
  · rw [if_pos he, if_pos he]; exact OQ.same
  · rw [if_neg he, if_neg he]
    refine Q_year fun y y1 y2 hy => ?_
    subst ha hb hy
    rw [show fX7_lastOf (nI y) 99 = some (nI (min 999 (y + 99 - 1))) from F_last (n := 99) y2 (by omega), sp_bd]
    exact both_meet h1.1 hp hq ⟨y1, y2⟩ 2000 y f m h1.2.1 h1.2.2.2 (by omega) (by omega) (by omega)
def sd (B : Nat → Nat) (y : Nat) : Nat := if lp (B 0) y = true then sg B y - 1 else sg B y
theorem both_springs {B : Nat → Nat} (hv : VB B) {w y0 n : Nat} (hy0 : 1 ≤ y0 ∧ y0 < 1000) (hn : 1 ≤ n ∧ n < 1000) : ∀ (k j p q x c : Nat) (f m : fr_N), FB f 3 B → MB (m 1) 0 B → y0 ≤ j → j ≤ min 999 (y0 + n - 1) + 1 → min 999 (y0 + n - 1) + 1 - j < k → (p = q ∨ (200 ≤ p ∧ 200 ≤ q ∧ j = y0)) → p < 1000 ∧ q < 1000 ∧ x < 1000 → OQ f m (fX7_springs_63 k (nI w) (nI p) (nI x) (nI c) (nI (min 999 (y0 + n - 1))) (nI j) f) (fX8_springs_58 k (nI y0) (nI n) (nI w) (nI q) (nI x) (nI c) (nI j) m)
  | 0, _, _, _, _, _, _, _, _, _, _, _, hk, _, _ => absurd hk (by omega)
  | k + 1, j, p, q, x, c, f, m, hF, hM, j1, j2, hk, hpq, hbd => by
    rw [fX7_springs_63, fX8_springs_58, nI_add]
    by_cases he : j = min 999 (y0 + n - 1) + 1
    · have e : p = q := by omega
      subst e
      unfold fX8_springs_160
      rw [if_pos ((n_lt (by omega) (by omega)).mpr (by omega))]
      have fin : OQ f m (if nI w = 0 then some (nI p, f) else if nI w = 1 then some (nI x, f) else some (nI c, f)) (if nI w = 0 then some (nI p, m) else if nI w = 1 then some (nI x, m) else some (nI c, m)) := by
        by_cases h0 : nI w = 0
        · rw [if_pos h0, if_pos h0]; exact OQ.same
        · rw [if_neg h0, if_neg h0]
          by_cases h1 : nI w = 1
          · rw [if_pos h1, if_pos h1]; exact OQ.same
          · rw [if_neg h1, if_neg h1]; exact OQ.same
      by_cases h1 : y0 + n ≤ j
      · rw [if_pos ((n_le (by omega) (by omega)).mpr h1)]; exact fin
      · rw [if_neg (fun z => h1 ((n_le (by omega) (by omega)).mp z)), if_pos (show (1000 : Int32) ≤ nI j from (n_le (a := 1000) (by omega) (by omega)).mpr (by omega))]; exact fin
    · obtain ⟨f', m', a1, a2, a3, a4, a5, a6, a7, a8⟩ := both_turn hv hF hM (y := j) (by omega)
      have hs := sg_bd B j
      have hsd : sd B j ≤ 117 := by unfold sd; split <;> omega
      have m0 : m' 1 0 = nI (B 0) := a4 0 (by omega)
      have eF : fX2_dateOfSpring f' = some (nI (sd B j)) := by
        unfold fX2_dateOfSpring sd
        rw [F_isLeap a5.1, sp_bd, a5.2.2.2, show nI (sg B j) - 1 = nI (sg B j - 1) from pk_sub (b := 1) (by omega)]
        by_cases hl : lp (B 0) j = true
        · rw [if_pos hl, if_pos hl]
        · rw [if_neg hl, if_neg hl]
      have ih : ∀ c', OQ f' m' (fX7_springs_63 k (nI w) (nI (if sd B j < p then sd B j else p)) (nI (if x < sd B j then sd B j else x)) (nI c') (nI (min 999 (y0 + n - 1))) (nI (j + 1)) f') (fX8_springs_58 k (nI y0) (nI n) (nI w) (nI (if sd B j < q then sd B j else q)) (nI (if x < sd B j then sd B j else x)) (nI c') (nI (j + 1)) m') := fun c' => both_springs hv hy0 hn k (j + 1) _ _ _ c' f' m' a3 a4 (by omega) (by omega) (by omega) (Or.inl (by
          rcases hpq with e | ⟨e1, e2, e3⟩
          · rw [e]
          · rw [if_pos (by omega), if_pos (by omega)])) ⟨by split <;> omega, by split <;> omega, by split <;> omega⟩
      have eI : ∀ u v : Nat, u < 1000 → v < 1000 → (if nI u < nI v then nI u else nI v) = nI (if u < v then u else v) := fun u v hu hv => by
        by_cases h : u < v
        · rw [if_pos ((n_lt (by omega) (by omega)).mpr h), if_pos h]
        · rw [if_neg (fun z => h ((n_lt (by omega) (by omega)).mp z)), if_neg h]
      have eJ : ∀ u v : Nat, u < 1000 → v < 1000 → (if nI u < nI v then nI v else nI u) = nI (if u < v then v else u) := fun u v hu hv => by
        by_cases h : u < v
        · rw [if_pos ((n_lt (by omega) (by omega)).mpr h), if_pos h]
        · rw [if_neg (fun z => h ((n_lt (by omega) (by omega)).mp z)), if_neg h]
      rw [if_neg (fun z => by have := (n_lt (by omega) (by omega)).mp z; omega), if_neg (fun z => by have := (n_le (by omega) (by omega)).mp z; omega), if_neg (show ¬ (1000 : Int32) ≤ nI j from fun z => by have := (n_le (a := 1000) (by omega) (by omega)).mp z; omega), a1, a2, sp_bd, sp_bd, eF, sp_bd, F_isLeap a5.1, sp_bd, M_spring hv a4 a6 (by omega), sp_bd, M_isLeap m0 hv.2.1 (by omega), sp_bd, nI_1, nI_1, n_z, eI _ _ (by omega) (by omega), eJ _ _ (by omega) (by omega)]
      refine OQ.behind a7 a8 ?_
      have M133 : ∀ u v : Nat, fX8_springs_133 (fX8_springs_58 k) (nI y0) (nI n) (nI w) (nI u) (nI c) (nI j) (nI v) m' = fX8_springs_58 k (nI y0) (nI n) (nI w) (nI u) (nI v) (nI (if lp (B 0) j = true then c + 1 else c)) (nI (j + 1)) m' := by
        intro u v
        unfold fX8_springs_133
        rw [M_isLeap m0 hv.2.1 (by omega), sp_bd, nI_1, nI_1, n_z]
        by_cases hl : lp (B 0) j = true
        · rw [if_pos hl, if_pos hl]
        · rw [if_neg hl, if_neg hl]
      have M100 : ∀ b : Bool, nI (sg B j) - fr_b b = nI (sd B j) → fX8_springs_100 (fX8_springs_58 k) (nI y0) (nI n) (nI w) (nI q) (nI x) (nI c) (nI j) b (nI (sg B j)) m' = fX8_springs_58 k (nI y0) (nI n) (nI w) (nI (if sd B j < q then sd B j else q)) (nI (if x < sd B j then sd B j else x)) (nI (if lp (B 0) j = true then c + 1 else c)) (nI (j + 1)) m' := by
        intro b hb
        unfold fX8_springs_100 fX8_springs_117
        rw [hb, M133, M133, M133, M133]
        by_cases e1 : sd B j < q
        · rw [if_neg (fun z => by have := (n_le (by omega) (by omega)).mp z; omega), if_pos e1]
          by_cases e2 : x < sd B j
          · rw [if_neg (fun z => by have := (n_le (by omega) (by omega)).mp z; omega), if_pos e2]
          · rw [if_pos ((n_le (by omega) (by omega)).mpr (by omega)), if_neg e2]
        · rw [if_pos ((n_le (by omega) (by omega)).mpr (by omega)), if_neg e1]
          by_cases e2 : x < sd B j
          · rw [if_neg (fun z => by have := (n_le (by omega) (by omega)).mp z; omega), if_pos e2]
          · rw [if_pos ((n_le (by omega) (by omega)).mpr (by omega)), if_neg e2]
      by_cases hl : lp (B 0) j = true
      · rw [if_pos hl, if_pos hl, M100 true (by unfold sd; rw [if_pos hl]; exact pk_sub (b := 1) (by omega)), if_pos hl]
        exact ih (c + 1)
      · rw [if_neg hl, if_neg hl, M100 false (by unfold sd; rw [if_neg hl]; exact pk_sub (b := 0) (by omega)), if_neg hl]
        exact ih c
theorem op_springs {f m : fr_N} (hr : RR f m) (a b c : Int32) : OK (fX7_springs a b c f) (fX8_springs a b c m) := by
  obtain ⟨B, k, H, t, T, h1, h2, h3, h4, h5⟩ := id hr
  refine OQ.ok ?_ hr
  unfold fX7_springs fX8_springs
  refine Q_told h1 fun hb => ?_
  refine Q_year fun y y1 y2 hy => ?_
  refine Q_in (i := 1) (j := 99) rfl rfl rfl rfl fun n n1 n2 hn => ?_
  refine Q_in (i := 0) (j := 2) rfl rfl rfl rfl fun w w1 w2 hw => ?_
  subst hy hn hw
  rw [F_last y2 (by omega), sp_bd]
  exact both_springs h1.1 ⟨y1, y2⟩ ⟨n1, by omega⟩ 2000 y 366 999 0 0 f m h1.2.1 h1.2.2.2 (by omega) (by omega) (by omega) (Or.inr ⟨by omega, by omega, rfl⟩) ⟨by omega, by omega, by omega⟩
theorem both_often {B : Nat → Nat} (hv : VB B) {g y0 n : Nat} {w : Int32} (hg : g < B 6) (hy0 : 1 ≤ y0 ∧ y0 < 1000) (hn : 1 ≤ n ∧ n < 1000) : ∀ (k j : Nat) (c : Int32) (f m : fr_N), FB f 3 B → MB (m 1) 0 B → y0 ≤ j → j ≤ min 999 (y0 + n - 1) + 1 → min 999 (y0 + n - 1) + 1 - j < k → OQ f m (fX7_often_54 k (nI g) w c (nI (min 999 (y0 + n - 1))) (nI j) f) (fX8_often_49 k (nI g) (nI y0) (nI n) w c (nI j) m)
  | 0, _, _, _, _, _, _, _, _, hk => absurd hk (by omega)
  | k + 1, j, c, f, m, hF, hM, j1, j2, hk => by
    have v6 := hv.2.2.2.2.2.1
    rw [fX7_often_54, fX8_often_49, nI_add]
    by_cases he : j = min 999 (y0 + n - 1) + 1
    · rw [if_pos ((n_lt (by omega) (by omega)).mpr (by omega))]
      by_cases h1 : y0 + n ≤ j
      · rw [if_pos ((n_le (by omega) (by omega)).mpr h1)]; exact OQ.same
      · rw [if_neg (fun z => h1 ((n_le (by omega) (by omega)).mp z)), if_pos (show (1000 : Int32) ≤ nI j from (n_le (a := 1000) (by omega) (by omega)).mpr (by omega))]; exact OQ.same
    · obtain ⟨f', m', a1, a2, a3, a4, a5, a6⟩ := both_lay0 hv hF hM (y := j) (by omega)
      rw [if_neg (fun z => by have := (n_lt (by omega) (by omega)).mp z; omega), if_neg (fun z => by have := (n_le (by omega) (by omega)).mp z; omega), if_neg (show ¬ (1000 : Int32) ≤ nI j from fun z => by have := (n_le (a := 1000) (by omega) (by omega)).mp z; omega), a1, a2, sp_bd, sp_bd, sp_ck (by omega) (by omega), sp_ck (by omega) (by omega), nI_clamp (by omega), (a3.2.2.2.2.2.1.1 g hg).1, (a3.2.2.2.2.2.2.1.1 g hg).1, nI_1]
      refine OQ.behind a5 a6 ?_
      have ih := fun c' => both_often hv (w := w) hg hy0 hn k (j + 1) c' f' m' a3.2.1 a3.2.2.1 (by omega) (by omega) (by omega)
      split
      · exact ih _
      · exact ih _
theorem op_often {f m : fr_N} (hr : RR f m) (a b c d : Int32) : OK (fX7_often a b c d f) (fX8_often a b c d m) := by
  obtain ⟨B, k, H, t, T, h1, h2, h3, h4, h5⟩ := id hr
  refine OQ.ok ?_ hr
  unfold fX7_often fX8_often
  refine Q_feast h1 fun g hg ha => ?_
  refine Q_year fun y y1 y2 hy => ?_
  refine Q_in (i := 1) (j := 30) rfl rfl rfl rfl fun n n1 n2 hn => ?_
  refine Q_in (i := 0) (j := 5) rfl rfl rfl rfl fun w w1 w2 hw => ?_
  subst ha hy hn
  rw [F_last y2 (by omega), sp_bd]
  exact both_often h1.1 hg ⟨y1, y2⟩ ⟨n1, by omega⟩ 2000 y 0 f m h1.2.1 h1.2.2.2 (by omega) (by omega) (by omega)
theorem sS_far1 {s D d r f g : Nat} {L : LL} (hg : g ≠ f) : (sS s D d r f L).1 g = L.1 g := by
  unfold sS hL
  by_cases h1 : L.2.2 d = 0 ∧ (2 < r ∨ wk s d ≠ 0)
  · rw [if_pos h1]; exact uB_n _ _ hg
  · rw [if_neg h1]
    by_cases h2 : ff L.2.2 (d + 1) (nT r d D) = 0
    · rw [if_pos h2]
      by_cases h3 : r = 3 ∨ r = 2
      · rw [if_pos h3]; exact uB_n _ _ hg
      · rw [if_neg h3]; exact uB_n _ _ hg
    · rw [if_neg h2]; exact uB_n _ _ hg
theorem lo_how (B : Nat → Nat) (y : Nat) (w : Int32) (f : Nat) (h0 : ow B y w f = 0) : ∀ p, (lo B y w p).1 f = 0
  | 0 => rfl
  | p + 1 => by
    rw [lo]
    unfold sP
    by_cases h : p % 12 < B 6 ∧ ow B y w (p % 12) ≠ 0 ∧ ps B (p % 12) = p
    · rw [if_pos h, sS_far1]
      · exact lo_how B y w f h0 p
      · rintro rfl; exact h.2.1 h0
    · rw [if_neg h]; exact lo_how B y w f h0 p
theorem both_bars {B : Nat → Nat} (hv : VB B) {g y : Nat} (hg : g < B 6) (hy : 1 ≤ y ∧ y < 1000) : ∀ (k j : Nat) (c : Int32) (f m : fr_N), FB f 3 B → MB (m 1) 0 B → j ≤ B 6 → B 6 - j < k → OQ f m (fX7_bars_62 k (nI g) (nI y) c (nI j) f) (fX8_bars_51 k (nI g) (nI y) c (nI j) m)
  | 0, _, _, _, _, _, _, _, hk => absurd hk (by omega)
  | k + 1, j, c, f, m, hF, hM, hj, hk => by
    have v6 := hv.2.2.2.2.2.1
    have m6 : m 1 6 = nI (B 6) := by have := hM 6 (by omega); rwa [Nat.zero_add] at this
    rw [fX7_bars_62, fX8_bars_51, hF.1, m6]
    by_cases he : j = B 6
    · rw [if_pos ((n_le (by omega) (by omega)).mpr (by omega)), if_pos ((n_le (by omega) (by omega)).mpr (by omega))]
      exact OQ.same
    · rw [if_neg (fun z => by have := (n_le (by omega) (by omega)).mp z; omega), if_neg (fun z => by have := (n_le (by omega) (by omega)).mp z; omega)]
      by_cases hjg : j = g
      · rw [if_pos (show nI j = nI g by rw [hjg])]
        obtain ⟨f', a1, a2, a3, a4, a5⟩ := F_lay (nI j) hv hF hy
        have hz : (lo B y (nI j) 240).1 g = 0 := lo_how B y (nI j) g (by unfold ow; rw [if_pos (by rw [hjg])]) 240
        rw [a1, sp_bd, sp_ck (by omega) (by omega), nI_clamp (by omega), (a2.1 g hg).1, hz, if_neg (show ¬ nI 0 = 1 by decide), nI_1]
        exact OQ.behind (fun c hc => a5 c (by omega)) SM.rf (both_bars hv hg hy k (j + 1) c f' m (hF.kept fun c e1 e2 => a5 c (by omega)) hM (by omega) (by omega))
      · obtain ⟨f', m', a1, a2, a3, a4, a5, a6⟩ := both_lay hv hF hM hy (nI j) (nI j) (fun _ _ => rfl)
        rw [if_neg (fun z => hjg ((nI_eq (by omega) (by omega)).mp z)), a1, a2, sp_bd, sp_bd, sp_ck (by omega) (by omega), sp_ck (by omega) (by omega), nI_clamp (by omega), (a3.2.2.2.2.2.1.1 g hg).1, (a3.2.2.2.2.2.2.1.1 g hg).1, nI_1, show c ||| (0 : Int32) = c from Int32.or_zero]
        refine OQ.behind a5 a6 ?_
        have ih := fun c' => both_bars hv hg hy k (j + 1) c' f' m' a3.2.1 a3.2.2.1 (by omega) (by omega)
        split
        · exact ih _
        · exact ih _
theorem op_bars {f m : fr_N} (hr : RR f m) (a b : Int32) : OK (fX7_bars a b f) (fX8_bars a b m) := by
  obtain ⟨B, k, H, t, T, h1, h2, h3, h4, h5⟩ := id hr
  refine OQ.ok ?_ hr
  unfold fX7_bars fX8_bars
  refine Q_feast h1 fun g hg ha => ?_
  refine Q_year fun y y1 y2 hy => ?_
  subst ha hy
  have v6 := h1.1.2.2.2.2.2.1
  refine Q_lay h1 y1 y2 fun f' m' L hD ho a5 a6 => ?_
  rw [sp_ck (by omega) (by omega), sp_ck (by omega) (by omega), sp_ck (by omega) (by omega), sp_ck (by omega) (by omega), nI_clamp (by omega), (hD.2.2.2.2.2.1.1 g hg).1, (hD.2.2.2.2.2.2.1.1 g hg).1]
  have ih := both_bars h1.1 hg ⟨y1, y2⟩ 2000 0 0 f' m' hD.2.1 hD.2.2.1 (by omega) (by omega)
  by_cases e0 : nI (L.1 g) = 0
  · rw [e0, if_neg (show ¬ (0 : Int32) = 1 by decide), if_pos rfl, if_pos rfl]; exact OQ.same
  · rw [if_neg e0, if_neg e0]
    by_cases e1 : nI (L.1 g) = 1
    · rw [if_pos e1, if_pos e1]; exact OQ.same
    · rw [if_neg e1, if_neg e1]; exact ih
