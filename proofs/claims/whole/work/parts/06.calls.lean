/-! CALLS, and a method's contract -/
/-- the locals at a method's entry -/
def fr_ent : List Value → List (Option Value)
  | [] => []
  | v :: t => match v with
    | .long x => some (.long x) :: none :: fr_ent t
    | .double x => some (.double x) :: none :: fr_ent t
    | w => some w :: fr_ent t
theorem fr_ent_at (G : fr_G) : ∀ (vs : List Value) (i j : Nat) (w : Value) (pad : List (Option Value)), (∀ o ∈ pad, o = none) → fr_get (fr_ent vs ++ pad) j = some w → (i + j, fr_v G w) ∈ lv_args i (vs.map (fr_v G))
  | [], i, j, w, pad, hp, h => by
    have h1 := fr_get_eq _ _ _ h
    have h2 := hp _ (List.mem_of_getElem? h1)
    cases h2
  | v :: t, i, j, w, pad, hp, h => by
    have key1 : v.category = 1 → fr_ent (v :: t) = some v :: fr_ent t := by
      intro hc
      cases v <;> first | rfl | cases hc
    have key2 : v.category = 2 → fr_ent (v :: t) = some v :: none :: fr_ent t := by
      intro hc
      cases v <;> first | rfl | cases hc
    show (i + j, fr_v G w) ∈ (i, fr_v G v) :: lv_args (if (fr_v G v).category = 2 then i + 2 else i + 1) (t.map (fr_v G))
    rw [fr_v_cat]
    rcases lv_cat v with hc | hc
    · rw [key1 hc] at h
      rw [if_neg (by omega)]
      cases j with
      | zero =>
        have : v = w := Option.some.inj h
        subst this
        exact List.mem_cons_self
      | succ j =>
        have := fr_ent_at G t (i + 1) j w pad hp h
        rw [show i + (j + 1) = i + 1 + j by omega]
        exact List.mem_cons_of_mem _ this
    · rw [key2 hc] at h
      rw [if_pos hc]
      match j, h with
      | 0, h =>
        have : v = w := Option.some.inj h
        subst this
        exact List.mem_cons_self
      | 1, h => cases h
      | j + 2, h =>
        have := fr_ent_at G t (i + 2) j w pad hp h
        rw [show i + (j + 2) = i + 2 + j by omega]
        exact List.mem_cons_of_mem _ this
/-- what stands at a method's entry -/
def fr_U (G : fr_G) (M : fr_M) (U : State) : Prop := va_P (fr_gD G) fr_cl (fr_ws G M) U.heap ∧ va_K (fr_gD G) fr_cl (fr_ty G) U ∧ va_D (fun _ => True) (fr_ws G M) ∧ fr_St G (fr_A G) U U.heap ∧ fr_Nw U
def fr_Pc (G : fr_G) (av : List Value) (M : fr_M) : Array Value → State → Prop := fun v U => v = (av.map (fr_v G)).toArray ∧ fr_U G M U
def fr_Qc (G : fr_G) (v : Option Value) (M : fr_M) : Array Value → State → Outcome → State → Prop := fun _ s oc t => oc = .returned (v.map (fr_v G)) ∧ va_P (fr_gD G) fr_cl (fr_ws G M) t.heap ∧ va_F (fr_A G) s t
abbrev fr_yw (Y : fr_Y) : List Cond := Cond.code Y.1 Y.2.1 Y.2.2.1 Y.2.2.2.1 :: fr_tb
/-- THE CONTRACT: with these arguments over this memory, the method answers this, and this is the memory then -/
def fr_Met (l : Launch) (G : fr_G) (Y : fr_Y) (av : List Value) (M : fr_M) (v : Option Value) (M' : fr_M) : Prop := Met l Y.1 (fr_yw Y) Y.2.2.2.2 (fr_Pc G av M) (fr_Qc G v M') 0 0 (fr_A G)
/-- a method's end: with this answer over this memory -/
def fr_R (Y : fr_Y) (K : fr_K) (v : Option Value) (M : fr_M) : Prop := match K with
  | (_, _, _, _, s, _, args, below, meth, _, cells, slots, Q, G, A) => Q = MQ below (fr_Qc G v M) args s cells slots A ∧ meth.locks = false ∧ meth.sig.returnType = Y.2.2.2.1 ∧ A = fr_A G
theorem fr_D {G : fr_G} {A B : Nat → Prop} {M M' : fr_M} (h : va_D A (fr_ws G M)) (hB : ∀ k, k < 67 → B (fr_ad G k)) : va_D B (fr_ws G M') := by
  have at' : ∀ (k : Nat) (q : Nat × va_E), (fr_ws G M')[k]? = some q → k < 67 ∧ q.1 = fr_ad G k := by
    intro k q hq
    have hk : k < 67 := by
      have := (List.getElem?_eq_some_iff.mp hq).1
      rwa [fr_ws_len] at this
    rw [fr_ws_at hk] at hq
    exact ⟨hk, by rw [← Option.some.inj hq]⟩
  refine ⟨fun i j x y hi hj hxy => ?_, fun k q hk => ?_⟩
  · obtain ⟨h1, h2⟩ := at' i x hi
    obtain ⟨h3, h4⟩ := at' j y hj
    exact h.1 i j _ _ (fr_ws_at h1) (fr_ws_at h3) (by rw [← h2, ← h4]; exact hxy)
  · obtain ⟨h1, h2⟩ := at' k q hk
    rw [h2]
    exact hB k h1
theorem fr_met {l : Launch} {G : fr_G} {Y : fr_Y} {av : List Value} {pad : List (Option Value)} {M : fr_M} {v : Option Value} {M' : fr_M} (hy : plainName Y.1.cls = true) (hn : (lg_sl (av.map (fr_v G))).length ≤ Y.2.2.1) (hp : ∀ o ∈ pad, o = none) (hr : Y.2.2.2.2.cells = 0 ∧ Y.2.2.2.2.slots = 0)
    (body : ∀ K : fr_K, fr_F Y K → fr_kG K = G → fr_kl K = l → fr_R Y K v M' → fr_V Y K 0 (fr_ent av ++ pad) [] M) : fr_Met l G Y av M v M' := by
  refine Met.ofW (cc := Y.2.1) (maxL := Y.2.2.1) (ret := Y.2.2.2.1) hy rfl ?_
  intro p e s m args below meth c s₁ B hml hv
  obtain ⟨rfl, hP, hK, hD, hSt, hNw⟩ := hv
  have hts := atoms_spec (ws := fr_yw Y) B.pre
  have hA : ∀ k, k < 67 → fr_A G (fr_ad G k) := fun k hk => ⟨k, hk, rfl⟩
  have F : fr_F Y (p, l, e, (headSpec (fr_yw Y) Y.2.2.2.2).room, s, m, (av.map (fr_v G)).toArray, below, meth, c, 0, 0, MQ below (fr_Qc G v M') (av.map (fr_v G)).toArray s 0 0 (fr_A G), G, fr_A G) :=
    ⟨B.exec, B.bytes, hml, findClass_of_methodNamed B.named, fun w hw => hts w (List.mem_cons_of_mem _ hw), rfl, ⟨Nat.zero_le _, Nat.zero_le _⟩, hK, fun _ => fr_D hD hA, hSt, hNw⟩
  have key := body _ F rfl rfl ⟨rfl, B.notSynchronized, B.returns, rfl⟩
  have hl := lv_entry (av.map (fr_v G)) (n := Y.2.2.1) hn
  rw [lg_entry_eq]
  refine key s.heap [] _ hP va_S.rf ⟨hl.1, hl.2.1, fun i w hi => ?_⟩
  have h1 := fr_ent_at G av 0 i w pad hp (fr_eq_get _ _ _ hi)
  rw [Nat.zero_add] at h1
  exact hl.2.2 _ h1
section FRC
variable {Y : fr_Y} {K : fr_K} {pc q : Nat} {L : List (Option Value)} {M M' : fr_M}
theorem fr_iret {x : Int32} (F : fr_F Y K) (E : fr_R Y K (some (.int x)) M) (hr : Y.2.2.2.1 = some .int) (hd : decode Y.2.1 pc = .ok (.ireturn, 1)) : fr_V Y K pc L [.int x] M := by
  obtain ⟨p, l, e, R, s, m, args, below, meth, c, cells, slots, Q, G, A⟩ := K
  obtain ⟨rfl, hlk, hrt, rfl⟩ := E
  intro H locs ls hP hS hl
  exact W.iret F.1 F.2.1 (hrt.trans hr) (fun t ht _ => ⟨rfl, by rw [ht]; exact hP, hS.F ht⟩) hS.2.2 hd hlk
theorem fr_zret {x : Bool} (F : fr_F Y K) (E : fr_R Y K (some (.int (fr_b x))) M) (hr : Y.2.2.2.1 = some .boolean) (hd : decode Y.2.1 pc = .ok (.ireturn, 1)) : fr_V Y K pc L [.int (fr_b x)] M := by
  obtain ⟨p, l, e, R, s, m, args, below, meth, c, cells, slots, Q, G, A⟩ := K
  obtain ⟨rfl, hlk, hrt, rfl⟩ := E
  intro H locs ls hP hS hl
  exact W.zret F.1 F.2.1 (hrt.trans hr) (fr_bool x) (fun t ht _ => ⟨rfl, by rw [ht]; exact hP, hS.F ht⟩) hS.2.2 hd hlk
theorem fr_vret (F : fr_F Y K) (E : fr_R Y K none M) (hr : Y.2.2.2.1 = none) (hd : decode Y.2.1 pc = .ok (.return_, 1)) : fr_V Y K pc L [] M := by
  obtain ⟨p, l, e, R, s, m, args, below, meth, c, cells, slots, Q, G, A⟩ := K
  obtain ⟨rfl, hlk, hrt, rfl⟩ := E
  intro H locs ls hP hS hl
  exact W.vret F.1 F.2.1 (hrt.trans hr) (fun t ht _ => ⟨rfl, by rw [ht]; exact hP, hS.F ht⟩) hS.2.2 hd hlk
/-- a method of an object; a static one: what the tables say, how many arguments -/
def fr_mV (Z : fr_Y) (n ci : Nat) : Prop := (∃ (T : u_T) (N : Nat), fr_cl[ci]? = some (Z.1.cls, T, N)) ∧ Cond.instanceMethod Z.1 ∈ fr_tb ∧ Cond.selects Z.1.cls Z.1 Z.1 ∈ fr_tb ∧ Cond.initialized Z.1.cls ∈ fr_tb ∧ Cond.code Z.1 Z.2.1 Z.2.2.1 Z.2.2.2.1 ∈ fr_tb ∧
  (Z.1.cls ≠ "java/lang/invoke/MethodHandle" ∧ Z.1.cls ≠ "java/lang/invoke/VarHandle" ∧ (parseMethodDescriptor Z.1.desc).map (fun d => d.parameters.length) = some n) ∧ Z.2.2.2.2.cells = 0 ∧ Z.2.2.2.2.slots = 0
def fr_mS (Z : fr_Y) (n : Nat) : Prop := Cond.static Z.1 ∈ fr_tb ∧ Cond.initialized Z.1.cls ∈ fr_tb ∧ Cond.code Z.1 Z.2.1 Z.2.2.1 Z.2.2.2.1 ∈ fr_tb ∧
  (Z.1.cls ≠ "java/lang/invoke/MethodHandle" ∧ Z.1.cls ≠ "java/lang/invoke/VarHandle" ∧ (parseMethodDescriptor Z.1.desc).map (fun d => d.parameters.length) = some n) ∧ Z.2.2.2.2.cells = 0 ∧ Z.2.2.2.2.slots = 0
/-- a callee's room in its caller's -/
def fr_rm (Y Z : fr_Y) : Prop := Z.2.2.2.2.frames + 1 ≤ Y.2.2.2.2.frames ∧ 8 + (Z.2.2.1 + 11) + Z.2.2.2.2.locals ≤ Y.2.2.2.2.locals
theorem fr_goodY {Z : fr_Y} (h : Cond.code Z.1 Z.2.1 Z.2.2.1 Z.2.2.2.1 ∈ fr_tb) : GoodIn fr_tb (fr_yw Z) := fun w hw => by
  rcases List.mem_cons.mp hw with rfl | hw
  · exact fr_good _ h
  · exact fr_good _ hw
/-- behind a call -/
theorem fr_back {p : Program} {l : Launch} {e : Env} {R : Room} {s : State} {m : MethodId} {args : Array Value} {below : List Frame} {meth : Method} {c : Code} {H : Heap} {locs : List Loc} {cells slots : Nat} {Q : State → Prop} {pc : Nat} {ls : Array Slot} {rest st0 : List Value} {a : Array Value} {A : Nat → Prop} {H0 : Heap} {G : fr_G} {v : Option Value} {M' : fr_M}
    (hr : va_Run p l e R s m args below meth c H locs cells slots 0 0 (F0 m pc ls st0) rest (fr_Qc G v M' a) (fr_A G)) (hS : va_S A H0 H locs) (hA : ∀ q, fr_A G q → A q)
    (kk : ∀ (H1 : Heap) (locs1 : List Loc), va_P (fr_gD G) fr_cl (fr_ws G M') H1 → va_S A H0 H1 locs1 → W p l e R s m args below meth c H1 locs1 cells slots Q (F0 m (pc + 3) ls ((v.map (fr_v G)).toList ++ rest))) : W p l e R s m args below meth c H locs cells slots Q (F0 m pc ls st0) := by
  intro T hT X
  obtain ⟨v', st₀, t, T', L, h0, X', hL, e1, e2, ⟨hv, hp, hz, hk⟩, st⟩ := hr T hT X
  cases hv
  rw [h0] at hz hk
  obtain ⟨t2, a1, b1⟩ := kk T'.heap (locs ++ L) (by rw [e1]; exact hp)
    ⟨Nat.le_trans hS.1 (by rw [e1]; exact hz), fun q h1 h2 => by rw [e1, hk q (Nat.lt_of_lt_of_le h1 hS.1) (fun z => h2 (hA q z))]; exact hS.2.1 q h1 h2, fun q hq => by
      rcases List.mem_append.mp hq with h | h
      · exact hS.2.2 q h
      · exact hA _ (hL q h)⟩ T' rfl X'
  exact ⟨t2, st t2 a1, b1⟩
theorem fr_blind {G : fr_G} {av : List Value} {M : fr_M} : FrameBlind (fr_Pc G av M) := fun a U g mk h =>
  ⟨h.1, h.2.1, va_K.moved (u := U) (U := U.calling g mk a) (Vm.Alike.refl U.vm) h.2.2.1, h.2.2.2.1, fr_St.moved (u := U) (U := U.calling g mk a) (Vm.Alike.refl U.vm) h.2.2.2.2.1, fr_Nw.same (u := U) (U := U.calling g mk a) rfl h.2.2.2.2.2⟩
/-- the world at a callee's entry -/
theorem fr_there {G : fr_G} {A : Nat → Prop} {s U : State} {H : Heap} {locs : List Loc} (hP : va_P (fr_gD G) fr_cl (fr_ws G M) H) (hS : va_S A s.heap H locs) (hK : va_K (fr_gD G) fr_cl (fr_ty G) s) (hD : va_D A (fr_ws G M)) (hSt : fr_St G A s s.heap) (hNw : fr_Nw s) (hA : ∀ q, fr_A G q → A q) (hU : U.heap = H) (hW : s.WarmedH U.vm) : fr_U G M U :=
  ⟨by rw [hU]; exact hP, va_K.moved hW.alike hK, hD.weaken (fun _ _ _ _ => trivial), by
    rw [hU]
    exact ((hSt.kept (fun a h1 h2 => hS.2.1 a h1 h2)).moved hW.alike).narrow hA, hNw.warm hW⟩
theorem fr_sub {G : fr_G} {A : Nat → Prop} (hD : va_D A (fr_ws G M)) : ∀ q, fr_A G q → A q := fun q ⟨k, hk, e⟩ => by
  rw [e]
  exact hD.2 k _ (fr_ws_at hk)
theorem fr_callV {Z : fr_Y} {idx n b ci : Nat} {fs : List (Option Nat)} {As rest st st' : List Value} {v : Option Value} (F : fr_F Y K) (hd : decode Y.2.1 pc = .ok (.invokevirtual idx, 3)) (hq : pc + 3 = q) (hM : fr_Met (fr_kl K) (fr_kG K) Z (.ref b :: As) M v M') (hw : Cond.methodLink Y.1.cls idx Z.1 ∈ fr_tb) (hm : fr_mV Z n ci) (hR : fr_rm Y Z) (hb : b < 67) (hs : fr_sh b = .inl (ci, fs)) (hn : As.length = n) (hst : st = As.reverse ++ .ref b :: rest) (hr : (rest.map fun v => v.category).sum ≤ 8) (he : v.toList ++ rest = st') (kk : fr_V Y K q L st' M') : fr_V Y K pc L st M := by
  subst hq; subst hst; subst he
  obtain ⟨p, l, e, R, s, m, args, below, meth, c, cells, slots, Q, G, A⟩ := K
  intro H locs ls hP hS hl
  obtain ⟨hx, hb', hml, hown, hts, hRe, hcs, hK, hD, hSt, hNw⟩ := F
  obtain ⟨⟨T, N, hcl⟩, hi, hse, hini, hco, hde, hrc, hrs⟩ := hm
  have hA := fr_sub (hD M)
  have hcb : CallB R s args Y.1.cls idx Z.1 Z.2.1 Z.2.2.1 Z.2.2.2.1 (fr_yw Z) Z.2.2.2.2 0 0 n := callB_of n hts (fr_goodY hco) rfl hrc hrs (hts _ hini) (hts _ hw) hde (by rw [hRe]; exact hR)
  have hws : (fr_ws G M)[b]? = some (fr_ad G b, .inr (ci, fr_fs G fs (fr_ct M b))) := by rw [fr_ws_at hb, hs]; rfl
  refine fr_back (va_runV (As := As.map (fr_v G)) (rest := rest.map (fr_v G)) (b := fr_ad G b) (C := Z.1.cls) ⟨hx, hb', hml, hown, hts⟩ hM ⟨hcb, hts _ hi, hts _ hse⟩ ⟨fr_blind, va_recv hK hP hcl hws, fun U hU hW => ⟨rfl, fr_there hP hS hK (hD M) hSt hNw hA hU hW⟩⟩ rfl (by rw [List.length_map]; exact hn) hl.1 (by simp [fr_kG, fr_v]) (lv_room (by rw [fr_sum]; exact hr)) hd ⟨hcs.1, hcs.2⟩) hS hA (fun H1 locs1 hP1 hS1 => ?_)
  have := kk H1 locs1 ls hP1 hS1 hl
  cases v with
  | none => exact this
  | some w => exact this
theorem fr_callS {Z : fr_Y} {idx n : Nat} {As rest st st' : List Value} {v : Option Value} (F : fr_F Y K) (hd : decode Y.2.1 pc = .ok (.invokestatic idx, 3)) (hq : pc + 3 = q) (hM : fr_Met (fr_kl K) (fr_kG K) Z As M v M') (hw : Cond.methodLink Y.1.cls idx Z.1 ∈ fr_tb) (hm : fr_mS Z n) (hR : fr_rm Y Z) (hn : As.length = n) (hst : st = As.reverse ++ rest) (hr : (rest.map fun v => v.category).sum ≤ 8) (he : v.toList ++ rest = st') (kk : fr_V Y K q L st' M') : fr_V Y K pc L st M := by
  subst hq; subst hst; subst he
  obtain ⟨p, l, e, R, s, m, args, below, meth, c, cells, slots, Q, G, A⟩ := K
  intro H locs ls hP hS hl
  obtain ⟨hx, hb', hml, hown, hts, hRe, hcs, hK, hD, hSt, hNw⟩ := F
  obtain ⟨hi, hini, hco, hde, hrc, hrs⟩ := hm
  have hA := fr_sub (hD M)
  have hcb : CallB R s args Y.1.cls idx Z.1 Z.2.1 Z.2.2.1 Z.2.2.2.1 (fr_yw Z) Z.2.2.2.2 0 0 n := callB_of n hts (fr_goodY hco) rfl hrc hrs (hts _ hini) (hts _ hw) hde (by rw [hRe]; exact hR)
  refine fr_back (va_runS (As := As.map (fr_v G)) (rest := rest.map (fr_v G)) ⟨hx, hb', hml, hown, hts⟩ hM ⟨hcb, hts _ hi⟩ ⟨fr_blind, fun U hU hW => ⟨rfl, fr_there hP hS hK (hD M) hSt hNw hA hU hW⟩⟩ rfl (by rw [List.length_map]; exact hn) hl.1 (by simp [fr_kG]) (lv_room (by rw [fr_sum]; exact hr)) hd ⟨hcs.1, hcs.2⟩) hS hA (fun H1 locs1 hP1 hS1 => ?_)
  have := kk H1 locs1 ls hP1 hS1 hl
  cases v with
  | none => exact this
  | some w => exact this
/-- the class's 'within' from a nest mate -/
theorem fr_callN {Z : fr_Y} {idx n : Nat} {As rest st st' : List Value} {v : Option Value} (F : fr_F Y K) (hd : decode Y.2.1 pc = .ok (.invokestatic idx, 3)) (hq : pc + 3 = q) (hM : fr_Met (fr_kl K) (fr_kG K) Z As M v M') (hZ : Z.1 = yX7_within) (hw : (Y.1.cls, idx) ∈ fr_nm) (hm : fr_mS Z n) (hR : fr_rm Y Z) (hn : As.length = n) (hst : st = As.reverse ++ rest) (hr : (rest.map fun v => v.category).sum ≤ 8) (he : v.toList ++ rest = st') (kk : fr_V Y K q L st' M') : fr_V Y K pc L st M := by
  subst hq; subst hst; subst he
  obtain ⟨p, l, e, R, s, m, args, below, meth, c, cells, slots, Q, G, A⟩ := K
  intro H locs ls hP hS hl
  obtain ⟨hx, hb', hml, hown, hts, hRe, hcs, hK, hD, hSt, hNw⟩ := F
  obtain ⟨hi, hini, hco, hde, hrc, hrs⟩ := hm
  have hA := fr_sub (hD M)
  have hnw : va_Nw (.methodLinkNest Y.1.cls idx Z.1 RX7) s := by rw [hZ]; exact hNw.1 _ hw
  have hcn : va_CN R s args Y.1.cls idx Z.1 RX7 Z.2.1 Z.2.2.1 Z.2.2.2.1 (fr_yw Z) Z.2.2.2.2 0 0 n := va_cnB n hts (fr_goodY hco) rfl hrc hrs hnw (hts _ hini) hde (by rw [hRe]; exact hR)
  refine fr_back (va_runSN (As := As.map (fr_v G)) (rest := rest.map (fr_v G)) ⟨hx, hb', hml, hown, hts⟩ hM ⟨hcn, hts _ hi, trivial⟩ ⟨fr_blind, fun U hU hW => ⟨rfl, fr_there hP hS hK (hD M) hSt hNw hA hU hW⟩⟩ rfl (by rw [List.length_map]; exact hn) hl.1 (by simp [fr_kG]) (lv_room (by rw [fr_sum]; exact hr)) hd ⟨hcs.1, hcs.2⟩) hS hA (fun H1 locs1 hP1 hS1 => ?_)
  have := kk H1 locs1 ls hP1 hS1 hl
  cases v with
  | none => exact this
  | some w => exact this
/-- fewer locals told -/
def fr_Le : List (Option Value) → List (Option Value) → Prop
  | [], _ => True
  | none :: t, L => fr_Le t L.tail
  | some v :: t, L => L.head? = some (some v) ∧ fr_Le t L.tail
theorem fr_Le_get : ∀ (L' L : List (Option Value)) (i : Nat) (v : Value), fr_Le L' L → L'[i]? = some (some v) → L[i]? = some (some v)
  | [], _, i, v, _, h => by simp at h
  | none :: _, _, 0, v, _, h => by simp at h
  | some w :: _, L, 0, v, hl, h => by
    have : w = v := by simpa using h
    subst this
    cases L with
    | nil => cases hl.1
    | cons a t => simpa using hl.1
  | none :: t, L, i + 1, v, hl, h => by
    have h1 := fr_Le_get t L.tail i v hl (by simpa using h)
    cases L with
    | nil => simp at h1
    | cons a u => simpa using h1
  | some w :: t, L, i + 1, v, hl, h => by
    have h1 := fr_Le_get t L.tail i v hl.2 (by simpa using h)
    cases L with
    | nil => simp at h1
    | cons a u => simpa using h1
theorem fr_wk {L' : List (Option Value)} {st : List Value} (h : fr_Le L' L) (k : fr_V Y K pc L' st M) : fr_V Y K pc L st M := fun H locs ls hP hS hl =>
  k H locs ls hP hS ⟨hl.1, hl.2.1, fun i v hi => hl.2.2 i v (fr_Le_get L' L i v h hi)⟩
theorem fr_vin {i : Int32} {n : Nat} (h : decide (i < 0 ∨ n ≤ i.toNatClampNeg) = false) : vp_in i n := of_decide_eq_false h
theorem fr_im1 {i : Int32} (h : vp_in i 2) (h0 : ¬ i = 0) : 18 + 8 * i.toNatClampNeg = 26 := by
  have h1 : ¬ i < 0 := fun z => h (Or.inl z)
  have h2 : i.toNatClampNeg < 2 := Nat.not_le.mp fun z => h (Or.inr z)
  obtain ⟨j, hj, rfl⟩ := nI_of h1
  rw [nI_clamp hj] at h2 ⊢
  have : j ≠ 0 := fun z => h0 (by rw [z]; exact nI_0)
  omega
def fr_lt {α β : Type} (x : α) (k : α → β) : β := k x
theorem fr_lt_eq {α β : Type} (x : α) (k : α → β) : fr_lt x k = k x := rfl
theorem fr_lt_some {α β : Type} {x : α} {k : α → β} {o : β} (h : fr_lt x k = o) : ∃ y, x = y ∧ k y = o := ⟨x, rfl, h⟩
def fr_bd2 {α β : Type} (a : Option (α × fr_N)) (k : α → fr_N → Option β) : Option β := match a with
  | some (x, n) => k x n
  | none => none
theorem fr_bd2_some {α β : Type} {a : Option (α × fr_N)} {k : α → fr_N → Option β} {o : β} (h : fr_bd2 a k = some o) : ∃ x n, a = some (x, n) ∧ k x n = some o := by
  cases a with
  | none => cases h
  | some q => exact ⟨q.1, q.2, rfl, h⟩
theorem fr_bd2_eq {α β : Type} {x : α} {n : fr_N} {k : α → fr_N → Option β} : fr_bd2 (some (x, n)) k = k x n := rfl
theorem fr_inl {ws : List Cond} (ps : List Nat) (h : ps.map (fun i => lw_tbl[i]?) = ws.map some) (hg : ws.all goodWord = true) : ∀ w ∈ ws, w ∈ fr_tb := by
  intro w hw
  obtain ⟨k, hk⟩ := List.getElem?_of_mem hw
  have h1 : (ws.map some)[k]? = some (some w) := by rw [List.getElem?_map, hk]; rfl
  rw [← h, List.getElem?_map] at h1
  cases hi : ps[k]? with
  | none => rw [hi] at h1; cases h1
  | some i =>
    rw [hi] at h1
    exact fr_in (Option.some.inj h1) (List.all_eq_true.mp hg w hw)
end FRC
