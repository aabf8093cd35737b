/-! a season -/
theorem pr_no {f g : fr_N} (h : some (false, f) = some (true, g)) : False := Bool.false_ne_true (congrArg Prod.fst (Option.some.inj h))
theorem pr_eq {b : Bool} {f g : fr_N} (h : some (b, f) = some (b, g)) : f = g := congrArg Prod.snd (Option.some.inj h)
def sB (D : Nat → Nat) (a b c : Nat) : Nat → Nat := uB (uB (uB (uB D (57 + 3 * D 7) a) (57 + 3 * D 7 + 1) b) (57 + 3 * D 7 + 2) c) 7 (D 7 + 1)
theorem sB_7 (D : Nat → Nat) (a b c : Nat) : sB D a b c 7 = D 7 + 1 := uB_s _ _ _
theorem sB_n (D : Nat → Nat) (a b c : Nat) {i : Nat} (h7 : i ≠ 7) (h : i < 57 + 3 * D 7 ∨ 57 + 3 * D 7 + 3 ≤ i) : sB D a b c i = D i := by
  unfold sB
  rw [uB_n _ _ h7, uB_n _ _ (by omega), uB_n _ _ (by omega), uB_n _ _ (by omega)]
theorem sB_m (D : Nat → Nat) (a b c : Nat) : sB D a b c (57 + 3 * D 7) = a ∧ sB D a b c (57 + 3 * D 7 + 1) = b ∧ sB D a b c (57 + 3 * D 7 + 2) = c := by
  unfold sB
  refine ⟨?_, ?_, ?_⟩
  · rw [uB_n _ _ (by omega), uB_n _ _ (by omega), uB_n _ _ (by omega), uB_s]
  · rw [uB_n _ _ (by omega), uB_n _ _ (by omega), uB_s]
  · rw [uB_n _ _ (by omega), uB_s]
theorem VP_season {D : Nat → Nat} (h : VP D) {a b c : Nat} (h7 : D 7 < 4) (ha : a < D 6) (hb : b < D 6) (hc : c ≤ 6) : VP (sB D a b c) := by
  obtain ⟨v0, v1, v2, v3, v4, v5, v6, v7, v8⟩ := h
  obtain ⟨m0, m1, m2⟩ := sB_m D a b c
  have e : ∀ i, i ≠ 7 → i < 57 → sB D a b c i = D i := fun i h1 h2 => sB_n _ _ _ _ h1 (by omega)
  unfold VP
  rw [e 0 (by omega) (by omega), e 1 (by omega) (by omega), e 2 (by omega) (by omega), e 5 (by omega) (by omega), e 6 (by omega) (by omega), sB_7]
  refine ⟨fun i => ?_, v1, v2, v3, v4, v5, by omega, fun x hx => ?_, fun z hz => ?_⟩
  · unfold sB uB
    repeat' split
    all_goals first | exact v0 i | omega
  · rw [e (9 + 4 * x) (by omega) (by omega), e (9 + 4 * x + 1) (by omega) (by omega), e (9 + 4 * x + 2) (by omega) (by omega), e (9 + 4 * x + 3) (by omega) (by omega)]; exact v7 x hx
  · by_cases hz7 : z = D 7
    · subst hz7; rw [m0, m1]; exact ⟨ha, hb⟩
    · rw [sB_n _ _ _ _ (by omega) (by omega), sB_n _ _ _ _ (by omega) (by omega)]; exact v8 z (by omega)
theorem tellS {n : fr_N} {z : Nat} (h : n 35 2 = nI z) (hz : z < 4) (a b c : Int32) : fX1_tellSeason_35 a b c n = some (fr_up (fr_up (fr_up (fr_up n 38 z a) 39 z b) 40 z c) 35 2 (nI (z + 1))) := by
  unfold fX1_tellSeason_35
  rw [h, if_pos (show nI z < 4 from (n_lt (b := 4) (by omega) (by omega)).mpr hz), sp_ck (by omega) (by omega), sp_lt, nI_clamp (by omega), sp_up_cell _ _ _ (show (35 : Nat) ≠ 38 by omega), h, sp_ck (by omega) (by omega), sp_lt, nI_clamp (by omega), sp_up_cell _ _ _ (show (35 : Nat) ≠ 39 by omega), sp_up_cell _ _ _ (show (35 : Nat) ≠ 38 by omega), h, sp_ck (by omega) (by omega), sp_lt, nI_clamp (by omega), sp_lt, sp_up_cell _ _ _ (show (35 : Nat) ≠ 40 by omega), sp_up_cell _ _ _ (show (35 : Nat) ≠ 39 by omega), sp_up_cell _ _ _ (show (35 : Nat) ≠ 38 by omega), h, nI_1]
theorem DR_season {f m : fr_N} {D : Nat → Nat} (h : DR f m 3 D) (h7 : D 7 < 4) (h6 : D 6 ≤ 12) (a b c : Nat) : DR (fr_up (fr_up (fr_up (fr_up f 38 (D 7) (nI a)) 39 (D 7) (nI b)) 40 (D 7) (nI c)) 35 2 (nI (D 7 + 1))) (fr_up (fr_up (fr_up (fr_up m 2 (57 + 3 * D 7) (nI a)) 2 (57 + 3 * D 7 + 1) (nI b)) 2 (57 + 3 * D 7 + 2) (nI c)) 2 7 (nI (D 7 + 1))) 3 (sB D a b c) := by
  obtain ⟨d1, d2, d3, d4, d5, d6, d7⟩ := h
  obtain ⟨m0, m1, m2⟩ := sB_m D a b c
  have e : ∀ i, i ≠ 7 → (i < 57 ∨ 69 ≤ i) → sB D a b c i = D i := fun i h1 h2 => sB_n _ _ _ _ h1 (by omega)
  have far : ∀ i, i ≠ 38 → i ≠ 39 → i ≠ 40 → i ≠ 35 → (fr_up (fr_up (fr_up (fr_up f 38 (D 7) (nI a)) 39 (D 7) (nI b)) 40 (D 7) (nI c)) 35 2 (nI (D 7 + 1))) i = f i := fun i h1 h2 h3 h4 => by
    rw [sp_up_cell _ _ _ h4, sp_up_cell _ _ _ h3, sp_up_cell _ _ _ h2, sp_up_cell _ _ _ h1]
  refine ⟨?_, ?_, fun i hi => ?_, fun i hi => ?_, fun z hz => ?_, fun x hx => ?_, MB_up2 (MB_up2 (MB_up2 (MB_up2 d7)))⟩
  · rw [sp_up_slot _ _ _ (by omega), sp_up_cell _ _ _ (by omega), sp_up_cell _ _ _ (by omega), sp_up_cell _ _ _ (by omega), e 6 (by omega) (by omega)]; exact d1
  · rw [sp_up_same, sB_7]
  · rw [far 36 (by omega) (by omega) (by omega) (by omega), e i (by omega) (by omega)]; exact d3 i hi
  · rw [e 6 (by omega) (by omega)] at hi
    rw [far 37 (by omega) (by omega) (by omega) (by omega), e (9 + i) (by omega) (by omega)]; exact d4 i hi
  · rw [sB_7] at hz
    rw [sp_up_cell _ _ _ (show (38 : Nat) ≠ 35 by omega), sp_up_cell _ _ _ (show (38 : Nat) ≠ 40 by omega), sp_up_cell _ _ _ (show (38 : Nat) ≠ 39 by omega), sp_up_cell _ _ _ (show (39 : Nat) ≠ 35 by omega), sp_up_cell _ _ _ (show (39 : Nat) ≠ 40 by omega), sp_up_cell _ _ _ (show (40 : Nat) ≠ 35 by omega)]
    by_cases hz7 : z = D 7
    · subst hz7; rw [sp_up_same, sp_up_same, sp_up_same, m0, m1, m2]; exact ⟨rfl, rfl, rfl⟩
    · rw [sp_up_slot _ _ _ hz7, sp_up_slot _ _ _ hz7, sp_up_slot _ _ _ hz7, sp_up_cell _ _ _ (show (39 : Nat) ≠ 38 by omega), sp_up_cell _ _ _ (show (40 : Nat) ≠ 39 by omega), sp_up_cell _ _ _ (show (40 : Nat) ≠ 38 by omega), sB_n _ _ _ _ (by omega) (by omega), sB_n _ _ _ _ (by omega) (by omega), sB_n _ _ _ _ (by omega) (by omega)]
      exact d5 z (by omega)
  · rw [far 41 (by omega) (by omega) (by omega) (by omega), far 42 (by omega) (by omega) (by omega) (by omega), e (69 + 2 * x) (by omega) (by omega), e (69 + 2 * x + 1) (by omega) (by omega)]; exact d6 x hx
theorem D_65 {m : fr_N} (h : ¬ m 0 12 = 0) (x : Int32) : fX8_readsSeason_65 x m = some m := by
  unfold fX8_readsSeason_65
  rw [D_number h, sp_bd2, D_number h, sp_bd2, if_neg h]
theorem D_s16 {m : fr_N} (h : ¬ m 0 12 = 0) : fX8_readsSeason_16 m = some m := by
  unfold fX8_readsSeason_16
  rw [D_goes h, sp_bd, D_number h, sp_bd2, if_neg h, D_65 h]
theorem both_season {f m : fr_N} {t : Nat} {T : Nat → Nat} {p : Nat} {D : Nat → Nat} (h : RN f m t T p) (hD : DR f m 3 D) (hV : VP D) (hz : p < t ∧ T p = 122) (h7 : D 7 < 4) :
    (∃ p' f' m' D', fX4_oneSeason f = some (true, f') ∧ fX8_readsSeason_16 m = some m' ∧ RN f' m' t T p' ∧ DR f' m' 3 D' ∧ VP D' ∧ D' 7 = D 7 + 1 ∧ EF f f' ∧ EM m m') ∨
    (∃ f' m', fX4_oneSeason f = some (false, f') ∧ fX8_readsSeason_16 m = some m' ∧ FA f' m' ∧ EF f f' ∧ EM m m') := by
  obtain ⟨h2, hp, hTS⟩ := id h
  have h160 := h2.1
  have v6 := hV.2.2.2.2.2.1
  obtain ⟨l1, l2⟩ := M_isLetter (c := 122) h.bytes hTS (by omega)
  obtain ⟨m0, g1, g2, g3⟩ := M_goes h2 hTS.1 (l2 hz) (show p + 1 ≤ t by omega)
  have x0 : XF f (fr_up f 34 2 (nI (p + 1))) := XF.up
  have r0 : RN (fr_up f 34 2 (nI (p + 1))) m0 t T (p + 1) := ⟨h2.read x0 g3, sp_up_same _ _ _ _, g2⟩
  have hD0 := hD.read x0 g3
  unfold fX4_oneSeason fX8_readsSeason_16
  rw [sp_lt, hp, nI_1, g1, sp_bd, hD0.1, show m0 2 6 = nI (D 6) from hD0.2.2.2.2.2.2 6 (by omega)]
  have hhi := sp_n1 (F := D 6) (by omega)
  generalize nI (D 6) - 1 = hi at hhi
  rcases both_number (s := 44) r0 (Or.inl rfl) 0 hi with ⟨p1, a, f1, m1, a1, a2, a3, a4, a5, a6, a7, a8⟩ | ⟨r, f1, m1, a1, a2, a3, a4, a5⟩
  · have ha : a < D 6 := by
      have := a5.2
      omega
    obtain ⟨k2, kp, kTS⟩ := id a6
    have hD1 := hD0.read a7 a8
    rw [show fX4_number 0 hi 44 _ = _ from a1, show fX8_number 0 hi 44 m0 = _ from a2, sp_bd2, if_pos rfl, sp_bd2, if_pos kTS.1, a3, kp]
    obtain ⟨c, c1, c2, c3, c4⟩ := kTS.figures
    have e35 : f1 35 1 = nI (D 6) := hD1.1
    -- the class's and the reference's second number, taken together
    have bn := both_number (s := 44) a6 (Or.inl rfl) 0 hi
    unfold fX4_number at bn
    have hxf := x0.trans a7
    have hxm := g3.trans a8
    have stay : ∀ f', fX4_bareNumber 0 hi f1 = some (false, f') → ¬ (m1 0 10 = 2 ∧ m1 0 11 = nI a) → (∃ m', fr_bd2 (some (false, f')) (fun r7 n9 => if r7 = true then if n9 34 3 = nI a then fr_lt (fr_up n9 34 2 (nI p1)) fun n23 => fr_bd2 (fX4_fails 2 n23) fun r25 n27 => some (r25, n27) else fr_bd2 (fX4_sign 44 n9) fun r12 n14 => if r12 = true then fr_bd2 (fX4_number 1 6 59 n14) fun r16 n18 => if r16 = true then fr_bd (fX1_tellSeason_35 (nI a) (n9 34 3) (n18 34 3) n18) fun n22 => some (true, n22) else some (false, n18) else some (false, n14) else some (false, n9)) = some (false, f') ∧ fX8_readsSeason_65 (nI a) m1 = some m' ∧ FA f' m' ∧ XF f1 f' ∧ XM m1 m') := by
      intro f' hb hn
      rw [hb, sp_bd2, if_neg Bool.false_ne_true] at bn
      rcases bn with ⟨p2, v, f2, m2, b1, -⟩ | ⟨r, f2, m2, b1, b2, b3, b4, b5⟩
      · exact (pr_no b1).elim
      · obtain rfl : f' = f2 := pr_eq b1
        refine ⟨m2, by rw [sp_bd2, if_neg Bool.false_ne_true], ?_, b3, b4, b5⟩
        unfold fX8_readsSeason_65
        rw [show m1 2 6 = nI (D 6) from hD1.2.2.2.2.2.2 6 (by omega)]
        have : nI (D 6) - 1 = hi := by
          rw [fa_eq, hhi, sp_n1 (by omega)]
        rw [this, show fX8_number 0 hi 44 m1 = _ from b2, sp_bd2, D_number b3.dead, sp_bd2, if_neg b3.dead]
    have hhi2 : nI (D 6) - 1 = hi := by rw [fa_eq, hhi, sp_n1 (by omega)]
    rw [e35, hhi2]
    rcases F_bare (lo := 0) (hi := hi) k2 kp c1 c2 c3 with ⟨q1, q2, q3, q4⟩ | ⟨q1, q2, q3, f', q4, q5, q6, q7⟩ | ⟨q1, f', q4, q5, q6, q7⟩
    · have hb := dv_bd c c2
      have hb2 : 10 ^ c ≤ 10 ^ 3 := Nat.pow_le_pow_right (by omega) q2
      rcases c4 with ⟨-, -, d1, d2, d3⟩ | ⟨d1, -⟩
      · have x9 : XF f1 (fr_up (fr_up f1 34 3 (nI (dv T p1 c))) 34 2 (nI (p1 + c))) := XF.up.trans XF.up
        have e93 : fr_up (fr_up f1 34 3 (nI (dv T p1 c))) 34 2 (nI (p1 + c)) 34 3 = nI (dv T p1 c) := by rw [sp_up_slot _ _ _ (by omega), sp_up_same]
        rw [q4, sp_bd2, if_pos rfl, e93, if_pos d1, d2]
        by_cases hva : dv T p1 c = a
        · obtain ⟨m2, k1, k2', k3, k4⟩ := M_bad kTS.1 kTS.2.1 2
          obtain ⟨f2, j1, j2, j3, j4⟩ := F_fail (f := fr_up (fr_up (fr_up f1 34 3 (nI (dv T p1 c))) 34 2 (nI (p1 + c))) 34 2 (nI p1)) (p := p1) (sp_up_same _ _ _ _) 2
          rw [if_pos (show nI (dv T p1 c) = nI a by rw [hva]), sp_lt, j1, sp_bd2, if_pos (show nI (dv T p1 c) = nI a by rw [hva]), k1, sp_bd, D_65 (by rw [k2']; decide)]
          exact Or.inr ⟨f2, m2, rfl, rfl, ⟨2, p1, by omega, by omega, by have := kTS.2.2.1; omega, j2, k2', j3, k3⟩, ((hxf.trans x9).trans (XF.up.trans j4)).ef, (hxm.trans k4).em⟩
        · have nva : ¬ nI (dv T p1 c) = nI a := fun z => hva ((nI_eq (by omega) (by omega)).mp z)
          rw [if_neg nva, if_neg nva]
          rw [q4, sp_bd2, if_pos rfl] at bn
          rcases F_sign (c := 44) (k2.read x9 XM.rf) (sp_up_same _ _ _ _) c1 (by omega) with ⟨w1, w2, w3⟩ | ⟨w1, f2, w2, w3, w4, w5⟩
          · rw [w3, sp_bd2, if_pos rfl] at bn
            rcases bn with ⟨p2, v, f2, m2, b1, b2, b3, b4, b5, b6, b7, b8⟩ | ⟨r, f2, m2, b1, -⟩
            · obtain rfl : fr_up (fr_up (fr_up f1 34 3 (nI (dv T p1 c))) 34 2 (nI (p1 + c))) 34 2 (nI (p1 + c + 1)) = f2 := pr_eq b1
              have hv : nI (dv T p1 c) = nI v := by
                rw [← b3, sp_up_slot _ _ _ (by omega)]
                exact e93.symm
              have hv6 : dv T p1 c < D 6 := by
                have := q3.2
                omega
              unfold fX8_readsSeason_65
              rw [show fX4_sign 44 _ = _ from w3, sp_bd2, if_pos rfl, show m1 2 6 = nI (D 6) from hD1.2.2.2.2.2.2 6 (by omega), hhi2, show fX8_number 0 hi 44 m1 = _ from b2, sp_bd2]
              have hD2 := hD1.read b7 b8
              rcases both_number (s := 59) b6 (Or.inr rfl) 1 6 with ⟨p3, u, f3, m3, u1, u2, u3, u4, u5, u6, u7, u8⟩ | ⟨r, f3, m3, u1, u2, u3, u4, u5⟩
              · have hD3 := hD2.read u7 u8
                have hu : u ≤ 6 := by
                  have : (u : Int) ≤ 6 := u5.2
                  omega
                have m7 : m3 2 7 = nI (D 7) := hD3.2.2.2.2.2.2 7 (by omega)
                have e57 : (57 : Int32) + (3 : Int32) * nI (D 7) = nI (57 + 3 * D 7) := by
                  rw [show (3 : Int32) = nI 3 from rfl, show (57 : Int32) = nI 57 from rfl, pk_mul, nI_add]
                have e59 : nI (57 + 3 * D 7) + 2 = nI (57 + 3 * D 7 + 2) := nI_add _ 2
                rw [show fX4_number 1 6 59 _ = _ from u1, show fX8_number 1 6 59 m2 = _ from u2, sp_bd2, if_pos rfl, sp_bd2, if_pos u6.2.2.1, u3, tellS hD3.2.1 h7, sp_bd, m7, e57, nI_1, e59, sp_ck (by omega) (by omega), sp_lt, sp_ck (by omega) (by omega), sp_lt, sp_ck (by omega) (by omega), sp_lt, sp_lt, nI_clamp (by omega), nI_clamp (by omega), nI_clamp (by omega), sp_up_slot _ _ _ (show 7 ≠ 57 + 3 * D 7 + 2 by omega), sp_up_slot _ _ _ (show 7 ≠ 57 + 3 * D 7 + 1 by omega), sp_up_slot _ _ _ (show 7 ≠ 57 + 3 * D 7 by omega), m7, nI_1, hv, ← hv]
                refine Or.inl ⟨p3, _, _, sB D a (dv T p1 c) u, rfl, rfl, u6.put (fun c hc => ?_) (fun c hc => ?_), DR_season hD3 h7 v6 a (dv T p1 c) u, VP_season hV h7 ha hv6 hu, sB_7 _ _ _ _, (((hxf.trans b7).trans u7).ef).trans (fun c hc => ?_), (((hxm.trans b8).trans u8).em).trans (EM.of2 fun c hc => ?_)⟩
                · rw [sp_up_cell _ _ _ (by omega), sp_up_cell _ _ _ (by omega), sp_up_cell _ _ _ (by omega), sp_up_cell _ _ _ (by omega)]
                · rw [sp_up_cell _ _ _ hc, sp_up_cell _ _ _ hc, sp_up_cell _ _ _ hc, sp_up_cell _ _ _ hc]
                · rw [sp_up_cell _ _ _ (by omega), sp_up_cell _ _ _ (by omega), sp_up_cell _ _ _ (by omega), sp_up_cell _ _ _ (by omega)]
                · rw [sp_up_cell _ _ _ hc, sp_up_cell _ _ _ hc, sp_up_cell _ _ _ hc, sp_up_cell _ _ _ hc]
              · rw [show fX4_number 1 6 59 _ = _ from u1, show fX8_number 1 6 59 m2 = _ from u2, sp_bd2, if_neg Bool.false_ne_true, sp_bd2, if_neg u3.dead]
                exact Or.inr ⟨f3, m3, rfl, rfl, u3, ((hxf.trans b7).trans u4).ef, ((hxm.trans b8).trans u5).em⟩
            · exact (pr_no b1.symm).elim
          · rw [show fX4_sign 44 _ = _ from w2, sp_bd2, if_neg Bool.false_ne_true]
            rw [show fX4_sign (nI 44) _ = _ from w2, sp_bd2, if_neg Bool.false_ne_true] at bn
            rcases bn with ⟨p2, v, f2', m2, b1, -⟩ | ⟨r, f2', m2, b1, b2, b3, b4, b5⟩
            · exact (pr_no b1).elim
            · obtain rfl : f2 = f2' := pr_eq b1
              unfold fX8_readsSeason_65
              rw [show m1 2 6 = nI (D 6) from hD1.2.2.2.2.2.2 6 (by omega), hhi2, show fX8_number 0 hi 44 m1 = _ from b2, sp_bd2, D_number b3.dead, sp_bd2, if_neg b3.dead]
              exact Or.inr ⟨f2, m2, rfl, rfl, b3, (hxf.trans b4).ef, (hxm.trans b5).em⟩
      · omega
    · rcases c4 with ⟨-, -, d1, d2, d3⟩ | ⟨d1, -⟩
      · have hb := dv_bd c c2
        have hb2 : 10 ^ c ≤ 10 ^ 3 := Nat.pow_le_pow_right (by omega) q2
        have nva : ¬ m1 0 11 = nI a := by
          rw [d2]
          intro z
          have := (nI_eq (by omega) (by omega)).mp z
          exact q3 ⟨by show (0 : Int) ≤ _; omega, by omega⟩
        obtain ⟨m2, s1, s2, s3, s4, s5⟩ := stay f' q4 (fun z => nva z.2)
        rw [q4, s1, if_pos d1, if_neg nva, s2]
        exact Or.inr ⟨f', m2, rfl, rfl, s3, (hxf.trans s4).ef, (hxm.trans s5).em⟩
      · omega
    · rcases c4 with ⟨d0, d9, -⟩ | ⟨-, d1⟩
      · omega
      · obtain ⟨m2, s1, s2, s3, s4, s5⟩ := stay f' q4 (fun z => d1 z.1)
        rw [q4, s1, if_neg d1, s2]
        exact Or.inr ⟨f', m2, rfl, rfl, s3, (hxf.trans s4).ef, (hxm.trans s5).em⟩
  · rw [show fX4_number 0 hi 44 _ = _ from a1, show fX8_number 0 hi 44 m0 = _ from a2, sp_bd2, if_neg Bool.false_ne_true, sp_bd2, if_neg a3.dead, D_65 a3.dead]
    exact Or.inr ⟨f1, m1, rfl, rfl, a3, (x0.trans a4).ef, (g3.trans a5).em⟩
theorem T_seasons {t : Nat} {T : Nat → Nat} : ∀ (k k' p : Nat) (f m : fr_N) (D : Nat → Nat), RN f m t T p → DR f m 3 D → VP D → 4 - D 7 < k → 5 - D 7 < k' → RES f m (zS k (nI (D 7)) f) (fX8_readsAll_66 k' m)
  | 0, _, _, _, _, _, _, _, _, hk, _ => absurd hk (by omega)
  | _, 0, _, _, _, _, _, _, _, _, hk => absurd hk (by omega)
  | k + 1, k' + 1, p, f, m, D, h, hD, hV, hk, hk' => by
    obtain ⟨h2, hp, hTS⟩ := id h
    have h160 := h2.1
    have v7 := hV.2.2.2.2.2.2.1
    have hpt := hTS.2.2.1
    obtain ⟨l1, l2⟩ := M_isLetter (c := 122) h.bytes hTS (by omega)
    rw [w66, show fX8_isLetter 122 m = _ from l1, sp_bd]
    unfold zS
    rw [fX4_seasons_2, if_neg (show ¬ (4 : Int32) < nI (D 7) from fun z => by have := (n_lt (a := 4) (by omega) (by omega)).mp z; omega), hp, F_at h2 (by omega), sp_bd, hD.2.1, nI_1]
    by_cases hz : p < t ∧ T p = 122
    · rw [decide_eq_true hz, if_pos rfl, if_pos hz.1, if_pos (show nI (T p) = 122 by rw [hz.2]; rfl)]
      unfold fX8_readsSeason
      rw [show m 2 7 = nI (D 7) from hD.2.2.2.2.2.2 7 (by omega)]
      by_cases h7 : D 7 < 4
      · rw [if_pos (show nI (D 7) < 4 from (n_lt (b := 4) (by omega) (by omega)).mpr h7), if_neg (show ¬ nI (D 7) = 4 from fun z => by have := (nI_eq (b := 4) (by omega) (by omega)).mp z; omega)]
        rcases both_season h hD hV hz h7 with ⟨p1, f1, m1, D1, a1, a2, a3, a4, a5, a6, a7, a8⟩ | ⟨f1, m1, a1, a2, a3, a4, a5⟩
        · rw [a1, a2, sp_bd2, if_pos rfl, sp_bd, ← a6]
          exact RES.behind a7 a8 (T_seasons k k' p1 f1 m1 D1 a3 a4 a5 (by omega) (by omega))
        · obtain ⟨k2, rfl⟩ : ∃ k2, k' = k2 + 1 := ⟨k' - 1, by omega⟩
          rw [a1, a2, sp_bd2, if_neg Bool.false_ne_true, sp_bd, sp_bd2, if_neg Bool.false_ne_true]
          exact RES.fail a4 a5 a3 (D_66 a3.dead k2)
      · obtain ⟨f1, g1, g2, g3, g4⟩ := F_fail hp 3
        obtain ⟨m1, j1, j2, j3, j4⟩ := M_bad hTS.1 hTS.2.1 3
        have hdead : ¬ m1 0 12 = 0 := by rw [j2]; decide
        obtain ⟨k2, rfl⟩ : ∃ k2, k' = k2 + 1 := ⟨k' - 1, by omega⟩
        rw [if_neg (show ¬ nI (D 7) < 4 from fun z => h7 ((n_lt (b := 4) (by omega) (by omega)).mp z)), if_pos (show nI (D 7) = 4 by rw [show D 7 = 4 by omega]; rfl), g1, sp_bd2, sp_bd2, if_neg Bool.false_ne_true, j1, sp_bd, D_s16 hdead, sp_bd]
        exact RES.fail g4.ef j4.em ⟨3, p, by omega, by omega, by omega, g2, j2, g3, j3⟩ (D_66 hdead k2)
    · have hne : ¬ (if p < t then nI (T p) else -1000000) = 122 := by
        by_cases hpt2 : p < t
        · have := (h2.2.2.2 p hpt2).2.2
          rw [if_pos hpt2]
          exact fun z => hz ⟨hpt2, (nI_eq (b := 122) (by omega) (by omega)).mp z⟩
        · rw [if_neg hpt2]; decide
      rw [decide_eq_false hz, if_neg Bool.false_ne_true, if_neg hne, sp_bd2, if_pos rfl]
      exact T_psalter h hD hV
