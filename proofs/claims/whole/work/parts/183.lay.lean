/-! THE LAYOUT of a year, place by place -/
def ow (B : Nat → Nat) (y : Nat) (w : Int32) (f : Nat) : Nat := if nI f = w then 0 else od B y f
def ps (B : Nat → Nat) (f : Nat) : Nat := ((5 - B (9 + 4 * f + 2)) * 4 + B (9 + 4 * f)) * 12 + f
def sP (B : Nat → Nat) (y : Nat) (w : Int32) (p : Nat) (L : LL) : LL := if p % 12 < B 6 ∧ ow B y w (p % 12) ≠ 0 ∧ ps B (p % 12) = p then sS (st B y) (dy (B 0) y) (ow B y w (p % 12)) (B (9 + 4 * (p % 12) + 2)) (p % 12) L else L
def l0 : LL := (fun _ => 0, fun _ => 0, fun _ => 0)
def lo (B : Nat → Nat) (y : Nat) (w : Int32) : Nat → LL
  | 0 => l0
  | p + 1 => sP B y w p (lo B y w p)
theorem ow_bd (B : Nat → Nat) (y : Nat) (w : Int32) (f : Nat) : ow B y w f ≤ dy (B 0) y := by
  unfold ow
  have := od_bd B y f
  split <;> omega
theorem LV_hL {F f d a : Nat} {L : LL} (h : LV F L) (hf : f < F) (hd : d ≤ 366) (ha : a ≤ 5) : LV F (hL f d a L) := by
  unfold hL
  refine ⟨fun g => ⟨?_, ?_⟩, fun e => ?_⟩
  · show uB L.1 f a g ≤ 5
    by_cases hg : g = f
    · subst hg; rw [uB_s]; exact ha
    · rw [uB_n _ _ hg]; exact (h.1 g).1
  · show uB L.2.1 f d g ≤ 366
    by_cases hg : g = f
    · subst hg; rw [uB_s]; exact hd
    · rw [uB_n _ _ hg]; exact (h.1 g).2
  · show uB L.2.2 d (f + 1) e ≤ F
    by_cases hg : e = d
    · subst hg; rw [uB_s]; omega
    · rw [uB_n _ _ hg]; exact h.2 e
theorem nT_le (r d D : Nat) : nT r d D ≤ D - d := by unfold nT; split <;> (try split) <;> omega
theorem LV_sS {F f d r D s : Nat} {L : LL} (h : LV F L) (hf : f < F) (hd : d ≤ D) (hD : D ≤ 366) : LV F (sS s D d r f L) := by
  unfold sS
  have hn := nT_le r d D
  by_cases h1 : L.2.2 d = 0 ∧ (2 < r ∨ wk s d ≠ 0)
  · rw [if_pos h1]; exact LV_hL h hf (by omega) (by omega)
  · rw [if_neg h1]
    by_cases h2 : ff L.2.2 (d + 1) (nT r d D) = 0
    · rw [if_pos h2]
      by_cases h3 : r = 3 ∨ r = 2
      · rw [if_pos h3]
        refine ⟨fun g => ⟨?_, ?_⟩, fun e => h.2 e⟩
        · show uB L.1 f 3 g ≤ 5
          by_cases hg : g = f
          · subst hg; rw [uB_s]; omega
          · rw [uB_n _ _ hg]; exact (h.1 g).1
        · show uB L.2.1 f d g ≤ 366
          by_cases hg : g = f
          · subst hg; rw [uB_s]; omega
          · rw [uB_n _ _ hg]; exact (h.1 g).2
      · rw [if_neg h3]
        refine ⟨fun g => ⟨?_, (h.1 g).2⟩, fun e => h.2 e⟩
        show uB L.1 f (if r = 1 then 4 else 5) g ≤ 5
        by_cases hg : g = f
        · subst hg; rw [uB_s]; split <;> omega
        · rw [uB_n _ _ hg]; exact (h.1 g).1
    · rw [if_neg h2]
      rcases ff_bd L.2.2 (nT r d D) (d + 1) with e0 | ⟨e1, e2, e3⟩
      · exact absurd e0 h2
      · exact LV_hL h hf (by omega) (by omega)
theorem sS_far {s D d r f g : Nat} {L : LL} (hg : g ≠ f) : (sS s D d r f L).2.1 g = L.2.1 g := by
  unfold sS hL
  by_cases h1 : L.2.2 d = 0 ∧ (2 < r ∨ wk s d ≠ 0)
  · rw [if_pos h1]; exact uB_n _ _ hg
  · rw [if_neg h1]
    by_cases h2 : ff L.2.2 (d + 1) (nT r d D) = 0
    · rw [if_pos h2]
      by_cases h3 : r = 3 ∨ r = 2
      · rw [if_pos h3]; exact uB_n _ _ hg
      · rw [if_neg h3]
    · rw [if_neg h2]; exact uB_n _ _ hg
theorem lo_LV (B : Nat → Nat) (y : Nat) (w : Int32) : ∀ p, LV (B 6) (lo B y w p)
  | 0 => ⟨fun _ => ⟨Nat.zero_le _, Nat.zero_le _⟩, fun _ => Nat.zero_le _⟩
  | p + 1 => by
    rw [lo]
    unfold sP
    have hD := dy_bd (B 0) y
    have ho := ow_bd B y w (p % 12)
    by_cases h : p % 12 < B 6 ∧ ow B y w (p % 12) ≠ 0 ∧ ps B (p % 12) = p
    · rw [if_pos h]; exact LV_sS (lo_LV B y w p) h.1 ho hD.2
    · rw [if_neg h]; exact lo_LV B y w p
theorem lo_zero (B : Nat → Nat) (y : Nat) (w : Int32) (f : Nat) : ∀ p, p ≤ ps B f → (lo B y w p).2.1 f = 0
  | 0, _ => rfl
  | p + 1, hp => by
    rw [lo]
    unfold sP
    by_cases h : p % 12 < B 6 ∧ ow B y w (p % 12) ≠ 0 ∧ ps B (p % 12) = p
    · rw [if_pos h, sS_far]
      · exact lo_zero B y w f p (by omega)
      · rintro rfl; omega
    · rw [if_neg h]; exact lo_zero B y w f p (by omega)
theorem lo_skip (B : Nat → Nat) (y : Nat) (w : Int32) {p : Nat} : ∀ q, p ≤ q → (∀ f, f < B 6 → ow B y w f ≠ 0 → p ≤ ps B f → ps B f < q → False) → lo B y w q = lo B y w p
  | 0, hq, _ => by rw [show p = 0 by omega]
  | q + 1, hq, h => by
    by_cases he : p = q + 1
    · rw [he]
    · rw [lo]
      unfold sP
      rw [if_neg (fun z => h (q % 12) z.1 z.2.1 (by omega) (by omega))]
      exact lo_skip B y w q (by omega) (fun f h1 h2 h3 h4 => h f h1 h2 h3 (by omega))
theorem ps_lt {B : Nat → Nat} (hv : VB B) {f : Nat} (hf : f < B 6) : ps B f < 240 ∧ ps B f % 12 = f := by
  have v6 := hv.2.2.2.2.2.1
  obtain ⟨b0, -, -, b3, -⟩ := hv.2.2.2.2.2.2.2.2.2.2.1 f hf
  unfold ps
  omega
theorem lo_step {B : Nat → Nat} (hv : VB B) (y : Nat) (w : Int32) {f : Nat} (hf : f < B 6) (ho : ow B y w f ≠ 0) : lo B y w (ps B f + 1) = sS (st B y) (dy (B 0) y) (ow B y w f) (B (9 + 4 * f + 2)) f (lo B y w (ps B f)) := by
  obtain ⟨-, h⟩ := ps_lt hv hf
  rw [lo]
  unfold sP
  rw [h, if_pos ⟨hf, ho, rfl⟩]
/-! the class lays a year -/
theorem F_settleAll {B : Nat → Nat} (hv : VB B) {y : Nat} {w : Int32} {r kd : Nat} (hr : 1 ≤ r ∧ r ≤ 5) (hk : kd ≤ 3) : ∀ (k f : Nat) (n : fr_N), f ≤ B 6 → B 6 - f < k → FB n 3 B → CF n B y → (∀ g, g < B 6 → n 13 g = nd (ow B y w g)) → FL n (B 6) (lo B y w (((5 - r) * 4 + kd) * 12 + f)) →
    ∃ n', fX3_settleAll_2 k (nI r) (nI kd) (nI f) n = some n' ∧ FL n' (B 6) (lo B y w (((5 - r) * 4 + kd) * 12 + 12)) ∧ ∀ c, (c < 14 ∨ 16 < c) → n' c = n c
  | 0, _, _, _, h, _, _, _, _ => absurd h (by omega)
  | k + 1, f, n, hf, hfk, hF, hC, hO, hL' => by
    have v6 := hv.2.2.2.2.2.1
    rw [fX3_settleAll_2, hF.1]
    by_cases he : f = B 6
    · rw [he, if_pos ((n_le (by omega) (by omega)).mpr (Nat.le_refl _))]
      refine ⟨n, rfl, ?_, fun _ _ => rfl⟩
      rw [lo_skip B y w (((5 - r) * 4 + kd) * 12 + 12) (p := ((5 - r) * 4 + kd) * 12 + f) (by omega) (fun g h1 h2 h3 h4 => by have := ps_lt hv h1; omega)]
      exact hL'
    · have hf6 : f < B 6 := by omega
      have ho := hO f hf6
      obtain ⟨b0, -, -, b3, -⟩ := hv.2.2.2.2.2.2.2.2.2.2.1 f hf6
      have hob := ow_bd B y w f
      have hD := dy_bd (B 0) y
      have hm2 : fX1_mark_3 (nI f) 2 n = some (nI (B (9 + 4 * f + 2))) := by
        rw [show fX1_mark_3 (nI f) 2 n = some (n 5 (4 * f + 2)) from sp_mark (w := 2) hF.1 v6 hf6 (by omega), hF.2.2.2.2.1 (4 * f + 2) (by omega)]
        rfl
      have hm0 : fX1_mark_3 (nI f) 0 n = some (nI (B (9 + 4 * f))) := by
        rw [show fX1_mark_3 (nI f) 0 n = some (n 5 (4 * f + 0)) from sp_mark (w := 0) hF.1 v6 hf6 (by omega), hF.2.2.2.2.1 (4 * f + 0) (by omega)]
        rfl
      have go : lo B y w (((5 - r) * 4 + kd) * 12 + f + 1) = lo B y w (((5 - r) * 4 + kd) * 12 + f) → ∃ n', fX3_settleAll_2 k (nI r) (nI kd) (nI (f + 1)) n = some n' ∧ FL n' (B 6) (lo B y w (((5 - r) * 4 + kd) * 12 + 12)) ∧ ∀ c, (c < 14 ∨ 16 < c) → n' c = n c := by
        intro e
        exact F_settleAll hv hr hk k (f + 1) n (by omega) (by omega) hF hC hO (by rw [← Nat.add_assoc, e]; exact hL')
      have stay : (ow B y w f = 0 ∨ ps B f ≠ ((5 - r) * 4 + kd) * 12 + f) → lo B y w (((5 - r) * 4 + kd) * 12 + f + 1) = lo B y w (((5 - r) * 4 + kd) * 12 + f) := by
        intro h
        refine lo_skip B y w _ (by omega) (fun g h1 h2 h3 h4 => ?_)
        have := ps_lt hv h1
        have e : g = f := by omega
        subst e
        omega
      rw [if_neg (fun z => he (Nat.le_antisymm hf ((n_le (by omega) (by omega)).mp z))), sp_ck (by omega) (by omega), nI_clamp (by omega), ho, nI_1]
      by_cases h0 : ow B y w f = 0
      · rw [if_pos ((nd_iff (by omega)).mpr h0)]
        exact go (stay (Or.inl h0))
      · rw [if_neg (fun z => h0 ((nd_iff (by omega)).mp z)), hm2, sp_bd]
        by_cases h2 : B (9 + 4 * f + 2) = r
        · rw [if_pos (by rw [h2]), hm0, sp_bd]
          by_cases h3 : B (9 + 4 * f) = kd
          · rw [if_pos (by rw [h3])]
            have hp : ps B f = ((5 - r) * 4 + kd) * 12 + f := by unfold ps; rw [h2, h3]
            obtain ⟨n', g1, g2, g3⟩ := F_settle (r := r) (D := dy (B 0) y) (s := st B y) (d := ow B y w f) hf6 v6 hC.1 hC.2.1 (st_lt B y) hD.2 ⟨by omega, hob⟩ hr (by rw [ho, nd_n h0]) hL' (lo_LV B y w _)
            rw [g1, sp_bd]
            obtain ⟨n2, k1, k2, k3⟩ := F_settleAll hv hr hk k (f + 1) n' (by omega) (by omega) (hF.kept fun c h1 h2 => g3 c (by omega)) (by unfold CF; rw [g3 12 (by omega)]; exact hC) (fun g hg => by rw [g3 13 (by omega)]; exact hO g hg) (by
              rw [← Nat.add_assoc, ← hp, lo_step hv y w hf6 h0, h2, hp]
              exact g2)
            exact ⟨n2, k1, k2, fun c hc => (k3 c hc).trans (g3 c hc)⟩
          · rw [if_neg (fun z => h3 ((nI_eq (by omega) (by omega)).mp z))]
            exact go (stay (Or.inr (by unfold ps; omega)))
        · rw [if_neg (fun z => h2 ((nI_eq (by omega) (by omega)).mp z))]
          exact go (stay (Or.inr (by unfold ps; omega)))
theorem F_lay85 {B : Nat → Nat} (hv : VB B) {y : Nat} {w : Int32} {r : Nat} (hr : 1 ≤ r ∧ r ≤ 5) (kk : Int32 → fr_N → Option fr_N) : ∀ (k kd : Nat) (n : fr_N), kd ≤ 4 → 4 - kd < k → FB n 3 B → CF n B y → (∀ g, g < B 6 → n 13 g = nd (ow B y w g)) → FL n (B 6) (lo B y w (((5 - r) * 4 + kd) * 12)) →
    ∃ n', fX3_lay_85 kk k (nI r) (nI kd) n = kk (nI (r - 1)) n' ∧ FL n' (B 6) (lo B y w ((5 - r) * 48 + 48)) ∧ ∀ c, (c < 14 ∨ 16 < c) → n' c = n c
  | 0, _, _, _, h, _, _, _, _ => absurd h (by omega)
  | k + 1, kd, n, hkd, hk, hF, hC, hO, hL' => by
    have v6 := hv.2.2.2.2.2.1
    rw [fX3_lay_85]
    by_cases he : kd = 4
    · subst he
      rw [if_pos (show (3 : Int32) < nI 4 from (n_lt (a := 3) (by omega) (by omega)).mpr (by omega)), show nI r + (-1 : Int32) = nI r - 1 by rw [Int32.sub_eq_add_neg], show nI r - 1 = nI (r - 1) from pk_sub (b := 1) hr.1]
      exact ⟨n, rfl, by rw [show (5 - r) * 48 + 48 = ((5 - r) * 4 + 4) * 12 by omega]; exact hL', fun _ _ => rfl⟩
    · rw [if_neg (show ¬ (3 : Int32) < nI kd from fun z => by have := (n_lt (a := 3) (by omega) (by omega)).mp z; omega)]
      unfold fX3_settleAll
      obtain ⟨n', g1, g2, g3⟩ := F_settleAll hv (y := y) (w := w) hr (show kd ≤ 3 by omega) 2000 0 n (by omega) (by omega) hF hC hO hL'
      rw [show (0 : Int32) = nI 0 from rfl, g1, sp_bd, nI_1]
      obtain ⟨n2, k1, k2, k3⟩ := F_lay85 hv hr kk k (kd + 1) n' (by omega) (by omega) (hF.kept fun c h1 h2 => g3 c (by omega)) (by unfold CF; rw [g3 12 (by omega)]; exact hC) (fun g hg => by rw [g3 13 (by omega)]; exact hO g hg) (by
              rw [show ((5 - r) * 4 + (kd + 1)) * 12 = ((5 - r) * 4 + kd) * 12 + 12 by omega]
              exact g2)
      exact ⟨n2, k1, k2, fun c hc => (k3 c hc).trans (g3 c hc)⟩
theorem F_lay77 {B : Nat → Nat} (hv : VB B) {y : Nat} {w : Int32} : ∀ (k r : Nat) (n : fr_N), r ≤ 5 → r < k → FB n 3 B → CF n B y → (∀ g, g < B 6 → n 13 g = nd (ow B y w g)) → FL n (B 6) (lo B y w ((5 - r) * 48)) →
    ∃ n', fX3_lay_77 k (nI r) n = some n' ∧ FL n' (B 6) (lo B y w 240) ∧ ∀ c, (c < 14 ∨ 16 < c) → n' c = n c
  | 0, _, _, _, h, _, _, _, _ => absurd h (by omega)
  | k + 1, r, n, hr, hk, hF, hC, hO, hL' => by
    rw [fX3_lay_77]
    by_cases he : r = 0
    · subst he
      rw [if_pos (show nI 0 < 1 by decide)]
      exact ⟨n, rfl, hL', fun _ _ => rfl⟩
    · rw [if_neg (show ¬ nI r < 1 from fun z => he (by have := (n_lt (b := 1) (by omega) (by omega)).mp z; omega))]
      obtain ⟨n', g1, g2, g3⟩ := F_lay85 hv (y := y) (w := w) (r := r) (by omega) (fX3_lay_77 k) 2000 0 n (by omega) (by omega) hF hC hO (by rw [show ((5 - r) * 4 + 0) * 12 = (5 - r) * 48 by omega]; exact hL')
      rw [show (0 : Int32) = nI 0 from rfl, g1]
      obtain ⟨n2, k1, k2, k3⟩ := F_lay77 hv k (r - 1) n' (by omega) (by omega) (hF.kept fun c h1 h2 => g3 c (by omega)) (by unfold CF; rw [g3 12 (by omega)]; exact hC) (fun g hg => by rw [g3 13 (by omega)]; exact hO g hg) (by
              rw [show (5 - (r - 1)) * 48 = (5 - r) * 48 + 48 by omega]
              exact g2)
      exact ⟨n2, k1, k2, fun c hc => (k3 c hc).trans (g3 c hc)⟩
theorem F_lay22 {B : Nat → Nat} (hv : VB B) {y : Nat} {w : Int32} : ∀ (k f : Nat) (n : fr_N), f ≤ B 6 → B 6 - f < k → FB n 3 B → CF n B y → (∀ g, g < f → n 13 g = nd (ow B y w g)) → (∀ g, g < f → n 14 g = 0 ∧ n 15 g = -1000000) → (∀ d, d ≤ 366 → n 16 d = -1) →
    ∃ n', fX3_lay_22 k w (nI f) n = some n' ∧ FL n' (B 6) (lo B y w 240) ∧ (∀ g, g < B 6 → n' 13 g = nd (ow B y w g)) ∧ ∀ c, (c < 13 ∨ 16 < c) → n' c = n c
  | 0, _, _, _, h, _, _, _, _, _ => absurd h (by omega)
  | k + 1, f, n, hf, hfk, hF, hC, hO, hQ, hH => by
    have v6 := hv.2.2.2.2.2.1
    rw [fX3_lay_22, hF.1]
    by_cases he : f = B 6
    · subst he
      rw [if_pos ((n_le (by omega) (by omega)).mpr (Nat.le_refl _))]
      obtain ⟨n', g1, g2, g3⟩ := F_lay77 hv (y := y) (w := w) 2000 5 n (by omega) (by omega) hF hC hO ⟨fun g hg => ⟨(hQ g hg).1, (hQ g hg).2⟩, fun d hd => hH d hd⟩
      exact ⟨n', g1, g2, fun g hg => by rw [g3 13 (by omega)]; exact hO g hg, fun c hc => g3 c (by omega)⟩
    · have hf6 : f < B 6 := by omega
      have go : ∀ s0, s0 = nd (ow B y w f) → ∃ n', fX3_lay_53 (fX3_lay_22 k) w (nI f) s0 (nI f) n = some n' ∧ FL n' (B 6) (lo B y w 240) ∧ (∀ g, g < B 6 → n' 13 g = nd (ow B y w g)) ∧ ∀ c, (c < 13 ∨ 16 < c) → n' c = n c := by
        intro s0 hs0
        unfold fX3_lay_53
        rw [sp_ck (by omega) (by omega), sp_lt, sp_ck (by omega) (by omega), sp_lt, sp_ck (by omega) (by omega), sp_lt, nI_clamp (by omega), nI_1]
        have gc : ∀ c, (c < 13 ∨ 15 < c) → fr_up (fr_up (fr_up n 13 f s0) 14 f 0) 15 f (-1000000) c = n c := fun c hc => by
          rw [sp_up_cell _ _ _ (by omega), sp_up_cell _ _ _ (by omega), sp_up_cell _ _ _ (by omega)]
        obtain ⟨n', g1, g2, g3, g4⟩ := F_lay22 hv (y := y) (w := w) k (f + 1) (fr_up (fr_up (fr_up n 13 f s0) 14 f 0) 15 f (-1000000)) (by omega) (by omega) (hF.kept fun c h1 h2 => gc c (by omega)) (by unfold CF; rw [gc 12 (by omega)]; exact hC) (fun g hg => by
            rw [sp_up_cell _ _ _ (by omega), sp_up_cell _ _ _ (by omega)]
            by_cases h : g = f
            · subst h; rw [sp_up_same, hs0]
            · rw [sp_up_slot _ _ _ h]; exact hO g (by omega)) (fun g hg => by
            by_cases h : g = f
            · subst h
              rw [sp_up_same, sp_up_cell _ _ _ (by omega), sp_up_same]
              exact ⟨rfl, rfl⟩
            · rw [sp_up_slot _ _ _ h, sp_up_cell _ _ _ (by omega), sp_up_slot _ _ _ h, sp_up_cell _ _ _ (by omega), sp_up_cell _ _ _ (by omega)]
              exact hQ g (by omega)) (fun d hd => by rw [gc 16 (by omega)]; exact hH d hd)
        exact ⟨n', g1, g2, g3, fun c hc => (g4 c hc).trans (gc c (by omega))⟩
      rw [if_neg (fun z => he (Nat.le_antisymm hf ((n_le (by omega) (by omega)).mp z)))]
      by_cases hw : nI f = w
      · rw [if_pos hw]
        exact go _ (by unfold ow; rw [if_pos hw]; rfl)
      · rw [if_neg hw, F_ownDayOf hv hF hC hf6, sp_bd]
        exact go _ (by unfold ow; rw [if_neg hw])
theorem F_lay {n : fr_N} {B : Nat → Nat} {y : Nat} (w : Int32) (hv : VB B) (hF : FB n 3 B) (hy : 1 ≤ y ∧ y < 1000) : ∃ n', fX3_lay (nI y) w n = some n' ∧ FL n' (B 6) (lo B y w 240) ∧ CF n' B y ∧ (∀ g, g < B 6 → n' 13 g = nd (ow B y w g)) ∧ ∀ c, (c < 12 ∨ 16 < c) → n' c = n c := by
  unfold fX3_lay fJ7_fill_53178_16
  obtain ⟨n1, g1, g2, g3⟩ := F_turnTo hv hF hy
  rw [g1, sp_bd, gF_16]
  obtain ⟨n2, h1, h2, h3, -⟩ := gF_spec 16 367 (by omega) (-1) 2000 0 n1 (by omega) (by omega)
  rw [show (0 : Int32) = nI 0 from rfl, show (367 : Int32) = nI 367 from rfl, h1, sp_bd]
  obtain ⟨n3, k1, k2, k3, k4⟩ := F_lay22 hv (y := y) (w := w) 2000 0 n2 (by omega) (by have := hv.2.2.2.2.2.1; omega) (hF.kept fun c e1 e2 => by rw [h2 c (by omega), g3 c (by omega)]) (by unfold CF; rw [h2 12 (by omega)]; exact g2) (fun g hg => absurd hg (by omega)) (fun g hg => absurd hg (by omega)) (fun d hd => h3 d (by omega) (by omega))
  refine ⟨n3, k1, k2, ?_, k3, fun c hc => ?_⟩
  · unfold CF
    rw [k4 12 (by omega), h2 12 (by omega)]
    exact g2
  · rw [k4 c (by omega), h2 c (by omega), g3 c (by omega)]
