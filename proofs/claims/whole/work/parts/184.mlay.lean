/-! the reference lays a year -/
def nx (x : Nat) : Int32 := if x = 0 then -1000000 else nI (x - 1)
theorem nx_iff {x : Nat} (h : x < 1000) : nx x = -1000000 ↔ x = 0 := by
  unfold nx
  constructor
  · intro e
    by_cases h0 : x = 0
    · exact h0
    · rw [if_neg h0, fa_eq, nI_toInt (by omega)] at e
      exact absurd e (by show ¬ ((x - 1 : Nat) : Int) = -1000000; omega)
  · rintro rfl; rfl
theorem nx_s (f : Nat) : nx (f + 1) = nI f := rfl
theorem M_isAhead {m : fr_N} {B : Nat → Nat} (hv : VB B) (hM : MB (m 1) 0 B) {f g : Nat} (hf : f < B 6) (hg : g < B 6) : fX8_isAhead (nI f) (nI g) m = some (decide (ps B f < ps B g)) := by
  have v6 := hv.2.2.2.2.2.1
  have get : ∀ i, i < 79 → m 1 i = nI (B i) := fun i hi => by have := hM i hi; rwa [Nat.zero_add] at this
  obtain ⟨f0, -, -, f3, -⟩ := hv.2.2.2.2.2.2.2.2.2.2.1 f hf
  obtain ⟨g0, -, -, g3, -⟩ := hv.2.2.2.2.2.2.2.2.2.2.1 g hg
  have k2 : ∀ h, h < B 6 → fX8_of (nI h) 2 m = some (nI (B (9 + 4 * h + 2))) := fun h hh => by
    rw [show fX8_of (nI h) 2 m = some (m 1 (9 + 4 * h + 2)) from sp_mof (w := 2) (by omega) (by omega), get _ (by omega)]
  have k0 : ∀ h, h < B 6 → fX8_of (nI h) 0 m = some (nI (B (9 + 4 * h))) := fun h hh => by
    rw [show fX8_of (nI h) 0 m = some (m 1 (9 + 4 * h + 0)) from sp_mof (w := 0) (by omega) (by omega), get _ (by omega)]
    rfl
  unfold fX8_isAhead ps
  rw [k2 f hf, sp_bd, k2 g hg, sp_bd, k0 f hf, sp_bd, k0 g hg, sp_bd, sp_bd, sp_bd, sp_bd, sp_bd]
  by_cases h1 : B (9 + 4 * f + 2) = B (9 + 4 * g + 2)
  · rw [if_pos (by rw [h1])]
    by_cases h2 : B (9 + 4 * f) < B (9 + 4 * g)
    · rw [if_pos ((n_lt (by omega) (by omega)).mpr h2), decide_eq_true (by omega)]
    · rw [if_neg (fun z => h2 ((n_lt (by omega) (by omega)).mp z))]
      by_cases h3 : B (9 + 4 * f) = B (9 + 4 * g)
      · rw [if_pos (by rw [h3])]
        by_cases h4 : g ≤ f
        · rw [if_pos ((n_le (by omega) (by omega)).mpr h4), decide_eq_false (by omega)]
        · rw [if_neg (fun z => h4 ((n_le (by omega) (by omega)).mp z)), decide_eq_true (by omega)]
      · rw [if_neg (fun z => h3 ((nI_eq (by omega) (by omega)).mp z)), decide_eq_false (by omega)]
  · rw [if_neg (fun z => h1 ((nI_eq (by omega) (by omega)).mp z))]
    by_cases h2 : B (9 + 4 * f + 2) ≤ B (9 + 4 * g + 2)
    · rw [if_pos ((n_le (by omega) (by omega)).mpr h2), decide_eq_false (by omega)]
    · rw [if_neg (fun z => h2 ((n_le (by omega) (by omega)).mp z)), decide_eq_true (by omega)]
/-- the next feast, of those below j -/
def NF (B : Nat → Nat) (dn : Nat → Bool) (j x : Nat) : Prop := x ≤ j ∧ (x = 0 → ∀ g, g < j → dn g = true) ∧ (0 < x → dn (x - 1) = false ∧ ∀ g, g < j → dn g = false → ps B (x - 1) ≤ ps B g)
theorem M_next5 {m : fr_N} {B : Nat → Nat} (hv : VB B) (hM : MB (m 1) 0 B) {dn : Nat → Bool} (hd : ∀ g, g < B 6 → m 11 g = fr_b (dn g)) : ∀ (k j x : Nat), j ≤ B 6 → B 6 - j < k → NF B dn j x → ∃ x', fX8_nextFeast_5 m k (nx x) (nI j) = some (nx x') ∧ NF B dn (B 6) x'
  | 0, _, _, _, h, _ => absurd h (by omega)
  | k + 1, j, x, hj, hk, hN => by
    have v6 := hv.2.2.2.2.2.1
    have m6 : m 1 6 = nI (B 6) := by have := hM 6 (by omega); rwa [Nat.zero_add] at this
    rw [fX8_nextFeast_5, m6]
    by_cases he : j = B 6
    · rw [he, if_pos ((n_le (by omega) (by omega)).mpr (Nat.le_refl _))]
      exact ⟨x, rfl, by rw [← he]; exact hN⟩
    · rw [if_neg (fun z => he (Nat.le_antisymm hj ((n_le (by omega) (by omega)).mp z))), sp_ck (by omega) (by omega), nI_clamp (by omega), hd j (by omega), nI_1]
      obtain ⟨h1, h2, h3⟩ := hN
      cases hb : dn j with
      | true =>
        rw [if_neg (by decide)]
        refine M_next5 hv hM hd k (j + 1) x (by omega) (by omega) ⟨by omega, fun h g hg => ?_, fun h => ⟨(h3 h).1, fun g hg hq => ?_⟩⟩
        · by_cases e : g = j
          · rw [e, hb]
          · exact h2 h g (by omega)
        · by_cases e : g = j
          · rw [e, hb] at hq; exact absurd hq (by decide)
          · exact (h3 h).2 g (by omega) hq
      | false =>
        rw [if_pos (show fr_b false = 0 from rfl)]
        by_cases hx : x = 0
        · rw [if_pos ((nx_iff (by omega)).mpr hx), ← nx_s j]
          refine M_next5 hv hM hd k (j + 1) (j + 1) (by omega) (by omega) ⟨by omega, fun h => absurd h (by omega), fun h => ⟨hb, fun g hg hq => ?_⟩⟩
          by_cases e : g = j
          · rw [e]; exact Nat.le_refl _
          · rw [h2 hx g (by omega)] at hq; exact absurd hq (by decide)
        · obtain ⟨f, rfl⟩ : ∃ f, x = f + 1 := ⟨x - 1, by omega⟩
          obtain ⟨h4, h5⟩ := h3 (by omega)
          rw [show f + 1 - 1 = f from rfl] at h4 h5
          rw [if_neg (fun z => hx ((nx_iff (by omega)).mp z)), nx_s f, M_isAhead hv hM (by omega) (by omega), sp_bd]
          by_cases hq : ps B j < ps B f
          · rw [decide_eq_true hq, if_pos rfl, ← nx_s j]
            refine M_next5 hv hM hd k (j + 1) (j + 1) (by omega) (by omega) ⟨by omega, fun h => absurd h (by omega), fun h => ⟨hb, fun g hg hq2 => ?_⟩⟩
            by_cases e : g = j
            · rw [e]; exact Nat.le_refl _
            · have := h5 g (by omega) hq2
              show ps B j ≤ ps B g
              omega
          · rw [decide_eq_false hq, if_neg (by decide), ← nx_s f]
            refine M_next5 hv hM hd k (j + 1) (f + 1) (by omega) (by omega) ⟨by omega, fun h => absurd h (by omega), fun h => ⟨h4, fun g hg hq2 => ?_⟩⟩
            by_cases e : g = j
            · rw [e]; show ps B f ≤ ps B j; omega
            · exact h5 g (by omega) hq2
theorem M_next {m : fr_N} {B : Nat → Nat} (hv : VB B) (hM : MB (m 1) 0 B) {dn : Nat → Bool} (hd : ∀ g, g < B 6 → m 11 g = fr_b (dn g)) : ∃ x', fX8_nextFeast m = some (nx x') ∧ NF B dn (B 6) x' :=
  M_next5 hv hM hd 2000 0 0 (by omega) (by have := hv.2.2.2.2.2.1; omega) ⟨by omega, fun _ g hg => absurd hg (by omega), fun h => absurd h (by omega)⟩
def dn (B : Nat → Nat) (y : Nat) (w : Int32) (p g : Nat) : Bool := decide (ow B y w g = 0 ∨ ps B g < p)
theorem dn_t {B : Nat → Nat} {y : Nat} {w : Int32} {p g : Nat} : dn B y w p g = true ↔ (ow B y w g = 0 ∨ ps B g < p) := decide_eq_true_iff
theorem dn_f {B : Nat → Nat} {y : Nat} {w : Int32} {p g : Nat} : dn B y w p g = false ↔ ¬ (ow B y w g = 0 ∨ ps B g < p) := decide_eq_false_iff_not
theorem ow_od {B : Nat → Nat} {y : Nat} {w : Int32} {f : Nat} (h : ow B y w f ≠ 0) : ow B y w f = od B y f := by
  unfold ow at h ⊢
  by_cases hw : nI f = w
  · rw [if_pos hw] at h; exact absurd rfl h
  · rw [if_neg hw]
theorem M_lays105 {B : Nat → Nat} (hv : VB B) {y : Nat} {w : Int32} : ∀ (k p x : Nat) (m : fr_N), p ≤ 240 → 240 - p < k → MB (m 1) 0 B → CM m B y → (∀ g, g < B 6 → m 8 g = nd (od B y g)) → (∀ g, g < B 6 → m 11 g = fr_b (dn B y w p g)) → ML m (B 6) (lo B y w p) → NF B (dn B y w p) (B 6) x →
    ∃ m', fX8_lays_105 k (nx x) m = some m' ∧ ML m' (B 6) (lo B y w 240) ∧ ∀ c, (c < 7 ∨ c = 8 ∨ 11 < c) → m' c = m c
  | 0, _, _, _, _, h, _, _, _, _, _, _ => absurd h (by omega)
  | k + 1, p, x, m, hp, hk, hM, hC, hO, hd, hL', hN => by
    have v6 := hv.2.2.2.2.2.1
    obtain ⟨h1, h2, h3⟩ := hN
    rw [fX8_lays_105]
    by_cases hx : x = 0
    · rw [if_pos ((nx_iff (by omega)).mpr hx)]
      refine ⟨m, rfl, ?_, fun _ _ => rfl⟩
      rw [lo_skip B y w 240 hp (fun f e1 e2 e3 e4 => by
        have := dn_t.mp (h2 hx f e1)
        omega)]
      exact hL'
    · obtain ⟨f, rfl⟩ : ∃ f, x = f + 1 := ⟨x - 1, by omega⟩
      obtain ⟨h4, h5⟩ := h3 (by omega)
      rw [show f + 1 - 1 = f from rfl] at h4 h5
      have hf : f < B 6 := by omega
      have h6 := dn_f.mp h4
      have h0 : ow B y w f ≠ 0 := fun z => h6 (Or.inl z)
      have hpf : p ≤ ps B f := by omega
      have hod := ow_od h0
      have hob := ow_bd B y w f
      have hD := dy_bd (B 0) y
      obtain ⟨-, -, -, b3, -⟩ := hv.2.2.2.2.2.2.2.2.2.2.1 f hf
      have hsk : lo B y w (ps B f) = lo B y w p := lo_skip B y w _ hpf (fun g e1 e2 e3 e4 => by
        have := h5 g e1 (dn_f.mpr (by omega))
        omega)
      have hpl := ps_lt hv hf
      obtain ⟨m1, k1, k2, k3⟩ := M_settle (r := B (9 + 4 * f + 2)) (D := dy (B 0) y) (s := st B y) (d := ow B y w f) hf v6 hC.1 hC.2 (st_lt B y) hD.2 ⟨by omega, hob⟩ b3 (by rw [hO f hf, ← hod, nd_n h0]) (by have := hM (9 + 4 * f + 2) (by omega); rwa [Nat.zero_add] at this) hL' (lo_LV B y w p) (lo_zero B y w f p hpf)
      rw [if_neg (fun z => hx ((nx_iff (by omega)).mp z)), nx_s, k1, sp_bd, sp_ck (by omega) (by omega), sp_lt, nI_clamp (by omega)]
      have c11 : ∀ c, c ≠ 7 → c ≠ 9 → c ≠ 10 → c ≠ 11 → fr_up m1 11 f (fr_b true) c = m c := fun c e1 e2 e3 e4 => by
        rw [sp_up_cell _ _ _ e4, k3 c e1 e2 e3]
      have hM2 : MB (fr_up m1 11 f (fr_b true) 1) 0 B := by rw [c11 1 (by omega) (by omega) (by omega) (by omega)]; exact hM
      have hd2 : ∀ g, g < B 6 → fr_up m1 11 f (fr_b true) 11 g = fr_b (dn B y w (ps B f + 1) g) := by
        intro g hg
        by_cases e : g = f
        · subst e
          rw [sp_up_same, dn_t.mpr (Or.inr (by omega))]
        · rw [sp_up_slot _ _ _ e, k3 11 (by omega) (by omega) (by omega), hd g hg]
          congr 1
          cases hb : dn B y w p g with
          | true =>
            have := dn_t.mp hb
            exact (dn_t.mpr (by omega)).symm
          | false =>
            have q := h5 g hg hb
            have := dn_f.mp hb
            have := ps_lt hv hg
            refine (dn_f.mpr ?_).symm
            have : ps B g ≠ ps B f := fun z => e (by omega)
            omega
      obtain ⟨x', j1, j2⟩ := M_next hv hM2 hd2
      rw [j1, sp_bd]
      obtain ⟨m2, i1, i2, i3⟩ := M_lays105 hv (y := y) (w := w) k (ps B f + 1) x' (fr_up m1 11 f (fr_b true)) (by omega) (by omega) hM2 (by unfold CM; rw [c11 0 (by omega) (by omega) (by omega) (by omega)]; exact hC) (fun g hg => by rw [c11 8 (by omega) (by omega) (by omega) (by omega)]; exact hO g hg) hd2 (by
        rw [lo_step hv y w hf h0, hsk]
        refine ⟨fun g hg => ?_, fun d hd => ?_⟩
        · rw [sp_up_cell _ _ _ (by omega), sp_up_cell _ _ _ (by omega)]; exact k2.1 g hg
        · rw [sp_up_cell _ _ _ (by omega)]; exact k2.2 d hd) j2
      exact ⟨m2, i1, i2, fun c hc => (i3 c hc).trans (c11 c (by omega) (by omega) (by omega) (by omega))⟩
theorem M_lays29 {B : Nat → Nat} (hv : VB B) {y : Nat} (hy : 1 ≤ y ∧ y < 1000) {w : Int32} : ∀ (k f : Nat) (m : fr_N), f ≤ B 6 → B 6 - f < k → MB (m 1) 0 B → CM m B y → (∀ g, g < f → m 8 g = nd (od B y g) ∧ m 9 g = 0 ∧ m 10 g = -1000000 ∧ m 11 g = fr_b (dn B y w 0 g)) → (∀ d, d ≤ 366 → m 7 d = 0) →
    ∃ m', fX8_lays_29 k (nI y) w (nI f) m = some m' ∧ ML m' (B 6) (lo B y w 240) ∧ (∀ g, g < B 6 → m' 8 g = nd (od B y g)) ∧ ∀ c, (c < 7 ∨ 11 < c) → m' c = m c
  | 0, _, _, _, h, _, _, _, _ => absurd h (by omega)
  | k + 1, f, m, hf, hk, hM, hC, hQ, hH => by
    have v6 := hv.2.2.2.2.2.1
    have m6 : m 1 6 = nI (B 6) := by have := hM 6 (by omega); rwa [Nat.zero_add] at this
    rw [fX8_lays_29, m6]
    by_cases he : f = B 6
    · rw [he, if_pos ((n_le (by omega) (by omega)).mpr (Nat.le_refl _))]
      rw [he] at hQ
      obtain ⟨x', j1, j2⟩ := M_next (dn := dn B y w 0) hv hM (fun g hg => (hQ g hg).2.2.2)
      rw [j1, sp_bd]
      obtain ⟨m2, i1, i2, i3⟩ := M_lays105 hv (y := y) (w := w) 2000 0 x' m (by omega) (by omega) hM hC (fun g hg => (hQ g hg).1) (fun g hg => (hQ g hg).2.2.2) ⟨fun g hg => ⟨(hQ g hg).2.1, (hQ g hg).2.2.1⟩, fun d hd => hH d hd⟩ j2
      exact ⟨m2, i1, i2, fun g hg => by rw [i3 8 (by omega)]; exact (hQ g hg).1, fun c hc => i3 c (by omega)⟩
    · have hf6 : f < B 6 := by omega
      have hob := od_bd B y f
      have hD := dy_bd (B 0) y
      rw [if_neg (fun z => he (Nat.le_antisymm hf ((n_le (by omega) (by omega)).mp z))), M_ownDay hv hM hC hy hf6, sp_bd, sp_ck (by omega) (by omega), sp_lt, sp_ck (by omega) (by omega), sp_lt, sp_ck (by omega) (by omega), sp_lt, sp_ck (by omega) (by omega), nI_clamp (by omega), sp_up_cell _ _ _ (show (8 : Nat) ≠ 10 by omega), sp_up_cell _ _ _ (show (8 : Nat) ≠ 9 by omega), sp_up_same]
      have go : ∀ z : Bool, z = dn B y w 0 f → ∃ m', fX8_lays_93 (fX8_lays_29 k) (nI y) w (nI f) z (nI f) (fr_up (fr_up (fr_up m 8 f (nd (od B y f))) 9 f 0) 10 f (-1000000)) = some m' ∧ ML m' (B 6) (lo B y w 240) ∧ (∀ g, g < B 6 → m' 8 g = nd (od B y g)) ∧ ∀ c, (c < 7 ∨ 11 < c) → m' c = m c := by
        intro z hz
        unfold fX8_lays_93
        rw [sp_ck (by omega) (by omega), sp_lt, nI_clamp (by omega), nI_1]
        have gc : ∀ c, (c < 8 ∨ 11 < c) → fr_up (fr_up (fr_up (fr_up m 8 f (nd (od B y f))) 9 f 0) 10 f (-1000000)) 11 f (fr_b z) c = m c := fun c hc => by
          rw [sp_up_cell _ _ _ (by omega), sp_up_cell _ _ _ (by omega), sp_up_cell _ _ _ (by omega), sp_up_cell _ _ _ (by omega)]
        obtain ⟨m', g1, g2, g3, g4⟩ := M_lays29 hv hy (w := w) k (f + 1) (fr_up (fr_up (fr_up (fr_up m 8 f (nd (od B y f))) 9 f 0) 10 f (-1000000)) 11 f (fr_b z)) (by omega) (by omega) (by rw [gc 1 (by omega)]; exact hM) (by unfold CM; rw [gc 0 (by omega)]; exact hC) (fun g hg => by
          by_cases h : g = f
          · subst h
            refine ⟨?_, ?_, ?_, ?_⟩
            · rw [sp_up_cell _ _ _ (by omega), sp_up_cell _ _ _ (by omega), sp_up_cell _ _ _ (by omega), sp_up_same]
            · rw [sp_up_cell _ _ _ (by omega), sp_up_cell _ _ _ (by omega), sp_up_same]
            · rw [sp_up_cell _ _ _ (by omega), sp_up_same]
            · rw [sp_up_same, hz]
          · obtain ⟨q1, q2, q3, q4⟩ := hQ g (by omega)
            refine ⟨?_, ?_, ?_, ?_⟩
            · rw [sp_up_cell _ _ _ (by omega), sp_up_cell _ _ _ (by omega), sp_up_cell _ _ _ (by omega), sp_up_slot _ _ _ h]; exact q1
            · rw [sp_up_cell _ _ _ (by omega), sp_up_cell _ _ _ (by omega), sp_up_slot _ _ _ h, sp_up_cell _ _ _ (by omega)]; exact q2
            · rw [sp_up_cell _ _ _ (by omega), sp_up_slot _ _ _ h, sp_up_cell _ _ _ (by omega), sp_up_cell _ _ _ (by omega)]; exact q3
            · rw [sp_up_slot _ _ _ h, sp_up_cell _ _ _ (by omega), sp_up_cell _ _ _ (by omega), sp_up_cell _ _ _ (by omega)]; exact q4) (fun d hd => by rw [gc 7 (by omega)]; exact hH d hd)
        exact ⟨m', g1, g2, g3, fun c hc => (g4 c hc).trans (gc c (by omega))⟩
      by_cases h0 : od B y f = 0
      · rw [if_pos ((nd_iff (by omega)).mpr h0)]
        exact go true (dn_t.mpr (Or.inl (by unfold ow; rw [h0]; split <;> rfl))).symm
      · rw [if_neg (fun z => h0 ((nd_iff (by omega)).mp z))]
        by_cases hw : nI f = w
        · rw [if_pos hw]
          exact go true (dn_t.mpr (Or.inl (by unfold ow; rw [if_pos hw]))).symm
        · rw [if_neg hw]
          exact go false (dn_f.mpr (fun z => by unfold ow at z; rw [if_neg hw] at z; omega)).symm
theorem M_lays7 {B : Nat → Nat} (hv : VB B) {y : Nat} (hy : 1 ≤ y ∧ y < 1000) {w : Int32} : ∀ (k j : Nat) (m : fr_N), j ≤ 367 → 367 - j < k → MB (m 1) 0 B → CM m B y → (∀ d, d < j → m 7 d = 0) →
    ∃ m', fX8_lays_7 k (nI y) w (nI j) m = some m' ∧ ML m' (B 6) (lo B y w 240) ∧ (∀ g, g < B 6 → m' 8 g = nd (od B y g)) ∧ ∀ c, (c < 7 ∨ 11 < c) → m' c = m c
  | 0, _, _, _, h, _, _, _ => absurd h (by omega)
  | k + 1, j, m, hj, hk, hM, hC, hH => by
    rw [fX8_lays_7]
    by_cases he : j = 367
    · subst he
      rw [if_pos (show (367 : Int32) ≤ nI 367 from (n_le (a := 367) (by omega) (by omega)).mpr (Nat.le_refl _))]
      exact M_lays29 hv hy 2000 0 m (by omega) (by have := hv.2.2.2.2.2.1; omega) hM hC (fun g hg => absurd hg (by omega)) (fun d hd => hH d (by omega))
    · rw [if_neg (show ¬ (367 : Int32) ≤ nI j from fun z => he (Nat.le_antisymm hj ((n_le (a := 367) (by omega) (by omega)).mp z))), sp_ck (by omega) (by omega), sp_lt, nI_clamp (by omega), nI_1]
      obtain ⟨m', g1, g2, g3, g4⟩ := M_lays7 hv hy (w := w) k (j + 1) (fr_up m 7 j 0) (by omega) (by omega) (by rw [sp_up_cell _ _ _ (by omega)]; exact hM) (by unfold CM; rw [sp_up_cell _ _ _ (by omega)]; exact hC) (fun d hd => by
        by_cases h : d = j
        · subst h; rw [sp_up_same]
        · rw [sp_up_slot _ _ _ h]; exact hH d (by omega))
      exact ⟨m', g1, g2, g3, fun c hc => by rw [g4 c hc, sp_up_cell _ _ _ (by omega)]⟩
theorem M_lays {m : fr_N} {B : Nat → Nat} {y : Nat} (w : Int32) (hv : VB B) (hM : MB (m 1) 0 B) (hy : 1 ≤ y ∧ y < 1000) : ∃ m', fX8_lays (nI y) w m = some m' ∧ ML m' (B 6) (lo B y w 240) ∧ CM m' B y ∧ (∀ g, g < B 6 → m' 8 g = nd (od B y g)) ∧ (∀ c, ((0 < c ∧ c < 7) ∨ 11 < c) → m' c = m c) ∧ ∀ j, j ≠ 20 → j ≠ 21 → m' 0 j = m 0 j := by
  unfold fX8_lays
  obtain ⟨m1, g1, g2, g3, g4⟩ := M_opens hv hM hy
  rw [g1, sp_bd]
  obtain ⟨m2, k1, k2, k3, k4⟩ := M_lays7 hv hy (w := w) 2000 0 m1 (by omega) (by omega) (by rw [g3 1 (by omega)]; exact hM) g2 (fun d hd => absurd hd (by omega))
  refine ⟨m2, k1, k2, by unfold CM; rw [k4 0 (by omega)]; exact g2, k3, fun c hc => ?_, fun j h1 h2 => ?_⟩
  · rw [k4 c (by omega), g3 c (by omega)]
  · rw [k4 0 (by omega), g4 j h1 h2]
