/-! ROWS: an instruction a row -/
def fr_get : List (Option Value) → Nat → Option Value
  | [], _ => none
  | a :: _, 0 => a
  | _ :: t, n + 1 => fr_get t n
def fr_set : List (Option Value) → Nat → Value → List (Option Value)
  | [], _, _ => []
  | _ :: t, 0, v => some v :: t
  | a :: t, n + 1, v => a :: fr_set t n v
/-- a long: the slot behind it is nobody's -/
def fr_set2 : List (Option Value) → Nat → Value → List (Option Value)
  | [], _, _ => []
  | _ :: t, 0, v => some v :: (match t with
    | [] => []
    | _ :: u => none :: u)
  | a :: t, n + 1, v => a :: fr_set2 t n v
/-- no long stands just ahead -/
def fr_ok : List (Option Value) → Nat → Bool
  | [], _ => true
  | _ :: _, 0 => true
  | a :: _, 1 => match a with
    | some v => decide (v.category = 1)
    | none => true
  | _ :: t, n + 2 => fr_ok t (n + 1)
theorem fr_get_eq : ∀ (L : List (Option Value)) (i : Nat) (v : Value), fr_get L i = some v → L[i]? = some (some v)
  | [], _, _, h => by cases h
  | _ :: _, 0, _, h => by simpa [fr_get] using h
  | _ :: t, n + 1, v, h => by simpa using fr_get_eq t n v h
theorem fr_eq_get : ∀ (L : List (Option Value)) (i : Nat) (v : Value), L[i]? = some (some v) → fr_get L i = some v
  | [], _, _, h => by simp at h
  | _ :: _, 0, _, h => by simpa [fr_get] using h
  | _ :: t, n + 1, v, h => fr_eq_get t n v (by simpa using h)
theorem fr_get_set : ∀ (L : List (Option Value)) (i j : Nat) (v w : Value), fr_get (fr_set L i v) j = some w → (j = i ∧ w = v) ∨ (j ≠ i ∧ fr_get L j = some w)
  | [], _, _, _, _, h => by cases h
  | _ :: _, 0, 0, v, w, h => Or.inl ⟨rfl, (Option.some.inj h).symm⟩
  | _ :: _, 0, _ + 1, v, w, h => Or.inr ⟨by omega, h⟩
  | _ :: _, _ + 1, 0, v, w, h => Or.inr ⟨by omega, h⟩
  | _ :: t, i + 1, j + 1, v, w, h => by
    rcases fr_get_set t i j v w h with ⟨h1, h2⟩ | ⟨h1, h2⟩
    · exact Or.inl ⟨by omega, h2⟩
    · exact Or.inr ⟨by omega, h2⟩
theorem fr_get_set2 : ∀ (L : List (Option Value)) (i j : Nat) (v w : Value), fr_get (fr_set2 L i v) j = some w → (j = i ∧ w = v) ∨ (j ≠ i ∧ j ≠ i + 1 ∧ fr_get L j = some w)
  | [], _, _, _, _, h => by cases h
  | _ :: _, 0, 0, v, w, h => Or.inl ⟨rfl, (Option.some.inj h).symm⟩
  | _ :: [], 0, _ + 1, v, w, h => by cases h
  | _ :: _ :: _, 0, 1, v, w, h => by cases h
  | _ :: _ :: _, 0, _ + 2, v, w, h => Or.inr ⟨by omega, by omega, h⟩
  | _ :: _, _ + 1, 0, v, w, h => Or.inr ⟨by omega, by omega, h⟩
  | _ :: t, i + 1, j + 1, v, w, h => by
    rcases fr_get_set2 t i j v w h with ⟨h1, h2⟩ | ⟨h1, h2, h3⟩
    · exact Or.inl ⟨by omega, h2⟩
    · exact Or.inr ⟨by omega, by omega, h3⟩
theorem fr_ok_cat : ∀ (L : List (Option Value)) (i j : Nat) (w : Value), fr_ok L i = true → j + 1 = i → fr_get L j = some w → w.category = 1
  | [], _, _, _, _, _, h => by cases h
  | _ :: _, 0, _, _, _, h, _ => by omega
  | a :: _, 1, 0, w, h, _, hg => by
    have ha : a = some w := hg
    subst ha
    exact of_decide_eq_true h
  | _ :: _, 1, _ + 1, _, _, h, _ => by omega
  | _ :: _, _ + 2, 0, _, _, h, _ => by omega
  | _ :: t, n + 2, j + 1, w, h, hj, hg => fr_ok_cat t (n + 1) j w h (by omega) hg
/-- the locals that are told, as the kit lists them -/
def fr_ll (G : fr_G) (L : List (Option Value)) : List (Nat × Value) := (List.range L.length).filterMap (fun i => (fr_get L i).map (fun v => (i, fr_v G v)))
theorem fr_ll_mem {G : fr_G} {L : List (Option Value)} {i : Nat} {v : Value} (h : fr_get L i = some v) : (i, fr_v G v) ∈ fr_ll G L := by
  have hl : i < L.length := (List.getElem?_eq_some_iff.mp (fr_get_eq L i v h)).1
  exact List.mem_filterMap.mpr ⟨i, List.mem_range.mpr hl, by rw [h]; rfl⟩
theorem fr_ll_has {G : fr_G} {n : Nat} {L : List (Option Value)} {ls : Array Slot} (h : fr_L G n L ls) : lv_has ls n (fr_ll G L) := by
  refine ⟨h.1, h.2.1, fun q hq => ?_⟩
  obtain ⟨i, -, hi⟩ := List.mem_filterMap.mp hq
  cases hg : fr_get L i with
  | none => rw [hg] at hi; cases hi
  | some v =>
    rw [hg] at hi
    obtain rfl := Option.some.inj hi
    exact h.2.2 i v (fr_get_eq L i v hg)
theorem fr_at {G : fr_G} {n : Nat} {L : List (Option Value)} {ls : Array Slot} {i : Nat} {v : Value} (h : fr_L G n L ls) (hg : fr_get L i = some v) : ls[i]? = some (.val (fr_v G v)) := h.2.2 i v (fr_get_eq L i v hg)
theorem fr_st1 {G : fr_G} {n : Nat} {L : List (Option Value)} {ls : Array Slot} {i : Nat} {v : Value} (ho : fr_ok L i = true) (h : lv_has ls n ((i, fr_v G v) :: (fr_ll G L).filter (fun q => !(q.1 == i) && !(q.1 + 1 == i && q.2.category == 2)))) : fr_L G n (fr_set L i v) ls := by
  refine ⟨h.1, h.2.1, fun j w hj => ?_⟩
  rcases fr_get_set L i j v w (fr_eq_get _ _ _ hj) with ⟨rfl, rfl⟩ | ⟨h1, h2⟩
  · exact h.2.2 (j, fr_v G w) List.mem_cons_self
  · refine h.2.2 (j, fr_v G w) (List.mem_cons_of_mem _ (List.mem_filter.mpr ⟨fr_ll_mem h2, ?_⟩))
    by_cases h3 : j + 1 = i
    · have := fr_ok_cat L i j w ho h3 h2
      simp [h1, fr_v_cat, this]
    · simp [h1, h3]
theorem fr_st2 {G : fr_G} {n : Nat} {L : List (Option Value)} {ls : Array Slot} {i : Nat} {v : Value} (ho : fr_ok L i = true) (h : lv_has ls n ((i, fr_v G v) :: (fr_ll G L).filter (fun q => !(q.1 == i) && (!(q.1 == i + 1) && !(q.1 + 1 == i && q.2.category == 2))))) : fr_L G n (fr_set2 L i v) ls := by
  refine ⟨h.1, h.2.1, fun j w hj => ?_⟩
  rcases fr_get_set2 L i j v w (fr_eq_get _ _ _ hj) with ⟨rfl, rfl⟩ | ⟨h1, h0, h2⟩
  · exact h.2.2 (j, fr_v G w) List.mem_cons_self
  · refine h.2.2 (j, fr_v G w) (List.mem_cons_of_mem _ (List.mem_filter.mpr ⟨fr_ll_mem h2, ?_⟩))
    by_cases h3 : j + 1 = i
    · have := fr_ok_cat L i j w ho h3 h2
      simp [h1, h0, fr_v_cat, this]
    · simp [h1, h0, h3]
section FRR
variable {Y : fr_Y} {K : fr_K} {pc q : Nat} {L : List (Option Value)} {st : List Value} {M : fr_M}
theorem fr_iconst {n : Int} {v : Int32} (F : fr_F Y K) (hd : decode Y.2.1 pc = .ok (.iconst n, 1)) (hq : pc + 1 = q) (hv : Int32.ofInt n = v) (k : fr_V Y K q L (.int v :: st) M) : fr_V Y K pc L (st) M := by
  subst hq
  obtain ⟨p, l, e, R, s, m, args, below, meth, c, cells, slots, Q, G, A⟩ := K
  intro H locs ls hP hS hl
  exact lv_iconst F.1 F.2.1 hd hv (k H locs ls hP hS hl)
theorem fr_bipush {n : Int} {v : Int32} (F : fr_F Y K) (hd : decode Y.2.1 pc = .ok (.bipush n, 2)) (hq : pc + 2 = q) (hv : (Int8.ofInt n).toInt32 = v) (k : fr_V Y K q L (.int v :: st) M) : fr_V Y K pc L (st) M := by
  subst hq
  obtain ⟨p, l, e, R, s, m, args, below, meth, c, cells, slots, Q, G, A⟩ := K
  intro H locs ls hP hS hl
  exact lv_bipush F.1 F.2.1 hd hv (k H locs ls hP hS hl)
theorem fr_sipush {n : Int} {v : Int32} (F : fr_F Y K) (hd : decode Y.2.1 pc = .ok (.sipush n, 3)) (hq : pc + 3 = q) (hv : (Int16.ofInt n).toInt32 = v) (k : fr_V Y K q L (.int v :: st) M) : fr_V Y K pc L (st) M := by
  subst hq
  obtain ⟨p, l, e, R, s, m, args, below, meth, c, cells, slots, Q, G, A⟩ := K
  intro H locs ls hP hS hl
  exact lv_sipush F.1 F.2.1 hd hv (k H locs ls hP hS hl)
theorem fr_lconst {n : Fin 2} {v : Int64} (F : fr_F Y K) (hd : decode Y.2.1 pc = .ok (.lconst n, 1)) (hq : pc + 1 = q) (hv : Int64.ofNat (n : Nat) = v) (k : fr_V Y K q L (.long v :: st) M) : fr_V Y K pc L (st) M := by
  subst hq
  obtain ⟨p, l, e, R, s, m, args, below, meth, c, cells, slots, Q, G, A⟩ := K
  intro H locs ls hP hS hl
  exact lv_lconst F.1 F.2.1 hd hv (k H locs ls hP hS hl)
theorem fr_ldc {n : Nat} {v : Int32} (F : fr_F Y K) (hd : decode Y.2.1 pc = .ok (.ldc n, 2)) (hq : pc + 2 = q) (hw : Cond.constant Y.1.cls n v ∈ fr_tb) (k : fr_V Y K q L (.int v :: st) M) : fr_V Y K pc L (st) M := by
  subst hq
  obtain ⟨p, l, e, R, s, m, args, below, meth, c, cells, slots, Q, G, A⟩ := K
  intro H locs ls hP hS hl
  exact lv_ldc F.1 F.2.1 F.2.2.2.1 (F.2.2.2.2.1 _ hw) hd (k H locs ls hP hS hl)
theorem fr_ldcw {n : Nat} {v : Int32} (F : fr_F Y K) (hd : decode Y.2.1 pc = .ok (.ldc_w n, 3)) (hq : pc + 3 = q) (hw : Cond.constant Y.1.cls n v ∈ fr_tb) (k : fr_V Y K q L (.int v :: st) M) : fr_V Y K pc L (st) M := by
  subst hq
  obtain ⟨p, l, e, R, s, m, args, below, meth, c, cells, slots, Q, G, A⟩ := K
  intro H locs ls hP hS hl
  exact lv_ldcw F.1 F.2.1 F.2.2.2.1 (F.2.2.2.2.1 _ hw) hd (k H locs ls hP hS hl)
theorem fr_ldc2 {n : Nat} {v : Int64} (F : fr_F Y K) (hd : decode Y.2.1 pc = .ok (.ldc2_w n, 3)) (hq : pc + 3 = q) (hw : Cond.constantLong Y.1.cls n v ∈ fr_tb) (k : fr_V Y K q L (.long v :: st) M) : fr_V Y K pc L (st) M := by
  subst hq
  obtain ⟨p, l, e, R, s, m, args, below, meth, c, cells, slots, Q, G, A⟩ := K
  intro H locs ls hP hS hl
  exact lv_ldc2 F.1 F.2.1 F.2.2.2.1 (F.2.2.2.2.1 _ hw) hd (k H locs ls hP hS hl)
theorem fr_iload_n {n : Fin 4} {x : Int32} (F : fr_F Y K) (hd : decode Y.2.1 pc = .ok (.iload_n n, 1)) (hq : pc + 1 = q) (hg : fr_get L n.val = some (.int x)) (k : fr_V Y K q L (.int x :: st) M) : fr_V Y K pc L (st) M := by
  subst hq
  obtain ⟨p, l, e, R, s, m, args, below, meth, c, cells, slots, Q, G, A⟩ := K
  intro H locs ls hP hS hl
  exact lv_iload_n F.1 F.2.1 hd rfl (fr_at hl hg) (k H locs ls hP hS hl)
theorem fr_iload {n : Nat} {x : Int32} (F : fr_F Y K) (hd : decode Y.2.1 pc = .ok (.iload n, 2)) (hq : pc + 2 = q) (hg : fr_get L n = some (.int x)) (k : fr_V Y K q L (.int x :: st) M) : fr_V Y K pc L (st) M := by
  subst hq
  obtain ⟨p, l, e, R, s, m, args, below, meth, c, cells, slots, Q, G, A⟩ := K
  intro H locs ls hP hS hl
  exact lv_iload F.1 F.2.1 hd (fr_at hl hg) (k H locs ls hP hS hl)
theorem fr_istore_n {n : Fin 4} {x : Int32} (F : fr_F Y K) (hd : decode Y.2.1 pc = .ok (.istore_n n, 1)) (hq : pc + 1 = q) (hn : n.val < Y.2.2.1) (ho : fr_ok L n.val = true) (k : fr_V Y K q (fr_set L n.val (.int x)) (st) M) : fr_V Y K pc L (.int x :: st) M := by
  subst hq
  obtain ⟨p, l, e, R, s, m, args, below, meth, c, cells, slots, Q, G, A⟩ := K
  intro H locs ls hP hS hl
  exact lv_istore_n F.1 F.2.1 hd rfl (fr_ll_has hl) hn rfl (fun ls' h => k H locs ls' hP hS (fr_st1 (v := .int x) ho h))
theorem fr_istore {n : Nat} {x : Int32} (F : fr_F Y K) (hd : decode Y.2.1 pc = .ok (.istore n, 2)) (hq : pc + 2 = q) (hn : n < Y.2.2.1) (ho : fr_ok L n = true) (k : fr_V Y K q (fr_set L n (.int x)) (st) M) : fr_V Y K pc L (.int x :: st) M := by
  subst hq
  obtain ⟨p, l, e, R, s, m, args, below, meth, c, cells, slots, Q, G, A⟩ := K
  intro H locs ls hP hS hl
  exact lv_istore F.1 F.2.1 hd (fr_ll_has hl) hn rfl (fun ls' h => k H locs ls' hP hS (fr_st1 (v := .int x) ho h))
theorem fr_lload_n {n : Fin 4} {x : Int64} (F : fr_F Y K) (hd : decode Y.2.1 pc = .ok (.lload_n n, 1)) (hq : pc + 1 = q) (hg : fr_get L n.val = some (.long x)) (k : fr_V Y K q L (.long x :: st) M) : fr_V Y K pc L (st) M := by
  subst hq
  obtain ⟨p, l, e, R, s, m, args, below, meth, c, cells, slots, Q, G, A⟩ := K
  intro H locs ls hP hS hl
  exact lv_lload_n F.1 F.2.1 hd rfl (fr_at hl hg) (k H locs ls hP hS hl)
theorem fr_lload {n : Nat} {x : Int64} (F : fr_F Y K) (hd : decode Y.2.1 pc = .ok (.lload n, 2)) (hq : pc + 2 = q) (hg : fr_get L n = some (.long x)) (k : fr_V Y K q L (.long x :: st) M) : fr_V Y K pc L (st) M := by
  subst hq
  obtain ⟨p, l, e, R, s, m, args, below, meth, c, cells, slots, Q, G, A⟩ := K
  intro H locs ls hP hS hl
  exact lv_lload F.1 F.2.1 hd (fr_at hl hg) (k H locs ls hP hS hl)
theorem fr_lstore_n {n : Fin 4} {x : Int64} (F : fr_F Y K) (hd : decode Y.2.1 pc = .ok (.lstore_n n, 1)) (hq : pc + 1 = q) (hn : n.val + 1 < Y.2.2.1) (ho : fr_ok L n.val = true) (k : fr_V Y K q (fr_set2 L n.val (.long x)) (st) M) : fr_V Y K pc L (.long x :: st) M := by
  subst hq
  obtain ⟨p, l, e, R, s, m, args, below, meth, c, cells, slots, Q, G, A⟩ := K
  intro H locs ls hP hS hl
  exact lv_lstore_n F.1 F.2.1 hd rfl (fr_ll_has hl) hn rfl (fun ls' h => k H locs ls' hP hS (fr_st2 (v := .long x) ho h))
theorem fr_lstore {n : Nat} {x : Int64} (F : fr_F Y K) (hd : decode Y.2.1 pc = .ok (.lstore n, 2)) (hq : pc + 2 = q) (hn : n + 1 < Y.2.2.1) (ho : fr_ok L n = true) (k : fr_V Y K q (fr_set2 L n (.long x)) (st) M) : fr_V Y K pc L (.long x :: st) M := by
  subst hq
  obtain ⟨p, l, e, R, s, m, args, below, meth, c, cells, slots, Q, G, A⟩ := K
  intro H locs ls hP hS hl
  exact lv_lstore F.1 F.2.1 hd (fr_ll_has hl) hn rfl (fun ls' h => k H locs ls' hP hS (fr_st2 (v := .long x) ho h))
theorem fr_aload_n {n : Fin 4} {x : Nat} (F : fr_F Y K) (hd : decode Y.2.1 pc = .ok (.aload_n n, 1)) (hq : pc + 1 = q) (hg : fr_get L n.val = some (.ref x)) (k : fr_V Y K q L (.ref x :: st) M) : fr_V Y K pc L (st) M := by
  subst hq
  obtain ⟨p, l, e, R, s, m, args, below, meth, c, cells, slots, Q, G, A⟩ := K
  intro H locs ls hP hS hl
  exact lv_aload_n F.1 F.2.1 hd rfl (fr_at hl hg) (k H locs ls hP hS hl)
theorem fr_aload {n : Nat} {x : Nat} (F : fr_F Y K) (hd : decode Y.2.1 pc = .ok (.aload n, 2)) (hq : pc + 2 = q) (hg : fr_get L n = some (.ref x)) (k : fr_V Y K q L (.ref x :: st) M) : fr_V Y K pc L (st) M := by
  subst hq
  obtain ⟨p, l, e, R, s, m, args, below, meth, c, cells, slots, Q, G, A⟩ := K
  intro H locs ls hP hS hl
  exact lv_aload F.1 F.2.1 hd (fr_at hl hg) (k H locs ls hP hS hl)
theorem fr_astore_n {n : Fin 4} {x : Nat} (F : fr_F Y K) (hd : decode Y.2.1 pc = .ok (.astore_n n, 1)) (hq : pc + 1 = q) (hn : n.val < Y.2.2.1) (ho : fr_ok L n.val = true) (k : fr_V Y K q (fr_set L n.val (.ref x)) (st) M) : fr_V Y K pc L (.ref x :: st) M := by
  subst hq
  obtain ⟨p, l, e, R, s, m, args, below, meth, c, cells, slots, Q, G, A⟩ := K
  intro H locs ls hP hS hl
  exact lv_astore_n F.1 F.2.1 hd rfl (fr_ll_has hl) hn rfl (fun ls' h => k H locs ls' hP hS (fr_st1 (v := .ref x) ho h))
theorem fr_astore {n : Nat} {x : Nat} (F : fr_F Y K) (hd : decode Y.2.1 pc = .ok (.astore n, 2)) (hq : pc + 2 = q) (hn : n < Y.2.2.1) (ho : fr_ok L n = true) (k : fr_V Y K q (fr_set L n (.ref x)) (st) M) : fr_V Y K pc L (.ref x :: st) M := by
  subst hq
  obtain ⟨p, l, e, R, s, m, args, below, meth, c, cells, slots, Q, G, A⟩ := K
  intro H locs ls hP hS hl
  exact lv_astore F.1 F.2.1 hd (fr_ll_has hl) hn rfl (fun ls' h => k H locs ls' hP hS (fr_st1 (v := .ref x) ho h))
theorem fr_ll_idx {G : fr_G} {i : Nat} {v : Value} (hg : fr_get L i = some v) : ∃ k : Nat, (fr_ll G L)[k]? = some (i, fr_v G v) := List.getElem?_of_mem (fr_ll_mem hg)
theorem fr_iinc {n : Nat} {d : Int} {x v : Int32} (F : fr_F Y K) (hd : decode Y.2.1 pc = .ok (.iinc n d, 3)) (hq : pc + 3 = q) (hg : fr_get L n = some (.int x)) (hv : x + Int32.ofInt d = v) (hn : n < Y.2.2.1) (ho : fr_ok L n = true) (k : fr_V Y K q (fr_set L n (.int v)) st M) : fr_V Y K pc L st M := by
  subst hq
  obtain ⟨p, l, e, R, s, m, args, below, meth, c, cells, slots, Q, G, A⟩ := K
  intro H locs ls hP hS hl
  obtain ⟨j, hj⟩ := fr_ll_idx (G := G) hg
  exact lv_iinc F.1 F.2.1 hd (fr_ll_has hl) hj hv hn rfl (fun ls' h => k H locs ls' hP hS (fr_st1 (v := .int v) ho h))
theorem fr_iadd {x y : Int32} (F : fr_F Y K) (hd : decode Y.2.1 pc = .ok (.iadd, 1)) (hq : pc + 1 = q) (k : fr_V Y K q L (.int (x + y) :: st) M) : fr_V Y K pc L (.int y :: .int x :: st) M := by
  subst hq
  obtain ⟨p, l, e, R, s, m, args, below, meth, c, cells, slots, Q, G, A⟩ := K
  intro H locs ls hP hS hl
  exact lv_iadd F.1 F.2.1 hd (k H locs ls hP hS hl)
theorem fr_isub {x y : Int32} (F : fr_F Y K) (hd : decode Y.2.1 pc = .ok (.isub, 1)) (hq : pc + 1 = q) (k : fr_V Y K q L (.int (x - y) :: st) M) : fr_V Y K pc L (.int y :: .int x :: st) M := by
  subst hq
  obtain ⟨p, l, e, R, s, m, args, below, meth, c, cells, slots, Q, G, A⟩ := K
  intro H locs ls hP hS hl
  exact lv_isub F.1 F.2.1 hd (k H locs ls hP hS hl)
theorem fr_imul {x y : Int32} (F : fr_F Y K) (hd : decode Y.2.1 pc = .ok (.imul, 1)) (hq : pc + 1 = q) (k : fr_V Y K q L (.int (x * y) :: st) M) : fr_V Y K pc L (.int y :: .int x :: st) M := by
  subst hq
  obtain ⟨p, l, e, R, s, m, args, below, meth, c, cells, slots, Q, G, A⟩ := K
  intro H locs ls hP hS hl
  exact lv_imul F.1 F.2.1 hd (k H locs ls hP hS hl)
theorem fr_iand {x y : Int32} (F : fr_F Y K) (hd : decode Y.2.1 pc = .ok (.iand, 1)) (hq : pc + 1 = q) (k : fr_V Y K q L (.int (x &&& y) :: st) M) : fr_V Y K pc L (.int y :: .int x :: st) M := by
  subst hq
  obtain ⟨p, l, e, R, s, m, args, below, meth, c, cells, slots, Q, G, A⟩ := K
  intro H locs ls hP hS hl
  exact lv_iand F.1 F.2.1 hd (k H locs ls hP hS hl)
theorem fr_ior {x y : Int32} (F : fr_F Y K) (hd : decode Y.2.1 pc = .ok (.ior, 1)) (hq : pc + 1 = q) (k : fr_V Y K q L (.int (x ||| y) :: st) M) : fr_V Y K pc L (.int y :: .int x :: st) M := by
  subst hq
  obtain ⟨p, l, e, R, s, m, args, below, meth, c, cells, slots, Q, G, A⟩ := K
  intro H locs ls hP hS hl
  exact lv_ior F.1 F.2.1 hd (k H locs ls hP hS hl)
theorem fr_ishl {x y : Int32} (F : fr_F Y K) (hd : decode Y.2.1 pc = .ok (.ishl, 1)) (hq : pc + 1 = q) (k : fr_V Y K q L (.int (x <<< (y &&& 31)) :: st) M) : fr_V Y K pc L (.int y :: .int x :: st) M := by
  subst hq
  obtain ⟨p, l, e, R, s, m, args, below, meth, c, cells, slots, Q, G, A⟩ := K
  intro H locs ls hP hS hl
  exact lv_ishl F.1 F.2.1 hd (k H locs ls hP hS hl)
theorem fr_ishr {x y : Int32} (F : fr_F Y K) (hd : decode Y.2.1 pc = .ok (.ishr, 1)) (hq : pc + 1 = q) (k : fr_V Y K q L (.int (x >>> (y &&& 31)) :: st) M) : fr_V Y K pc L (.int y :: .int x :: st) M := by
  subst hq
  obtain ⟨p, l, e, R, s, m, args, below, meth, c, cells, slots, Q, G, A⟩ := K
  intro H locs ls hP hS hl
  exact lv_ishr F.1 F.2.1 hd (k H locs ls hP hS hl)
theorem fr_idiv {x y : Int32} (F : fr_F Y K) (hd : decode Y.2.1 pc = .ok (.idiv, 1)) (hq : pc + 1 = q) (hne : ¬ y = 0) (k : fr_V Y K q L (.int (x / y) :: st) M) : fr_V Y K pc L (.int y :: .int x :: st) M := by
  subst hq
  obtain ⟨p, l, e, R, s, m, args, below, meth, c, cells, slots, Q, G, A⟩ := K
  intro H locs ls hP hS hl
  exact lv_idiv F.1 F.2.1 hd hne (k H locs ls hP hS hl)
theorem fr_irem {x y : Int32} (F : fr_F Y K) (hd : decode Y.2.1 pc = .ok (.irem, 1)) (hq : pc + 1 = q) (hne : ¬ y = 0) (k : fr_V Y K q L (.int (fr_rem x y) :: st) M) : fr_V Y K pc L (.int y :: .int x :: st) M := by
  subst hq
  obtain ⟨p, l, e, R, s, m, args, below, meth, c, cells, slots, Q, G, A⟩ := K
  intro H locs ls hP hS hl
  exact lv_irem F.1 F.2.1 hd hne (k H locs ls hP hS hl)
theorem fr_ladd {x y : Int64} (F : fr_F Y K) (hd : decode Y.2.1 pc = .ok (.ladd, 1)) (hq : pc + 1 = q) (k : fr_V Y K q L (.long (x + y) :: st) M) : fr_V Y K pc L (.long y :: .long x :: st) M := by
  subst hq
  obtain ⟨p, l, e, R, s, m, args, below, meth, c, cells, slots, Q, G, A⟩ := K
  intro H locs ls hP hS hl
  exact lv_ladd F.1 F.2.1 hd (k H locs ls hP hS hl)
theorem fr_lsub {x y : Int64} (F : fr_F Y K) (hd : decode Y.2.1 pc = .ok (.lsub, 1)) (hq : pc + 1 = q) (k : fr_V Y K q L (.long (x - y) :: st) M) : fr_V Y K pc L (.long y :: .long x :: st) M := by
  subst hq
  obtain ⟨p, l, e, R, s, m, args, below, meth, c, cells, slots, Q, G, A⟩ := K
  intro H locs ls hP hS hl
  exact lv_lsub F.1 F.2.1 hd (k H locs ls hP hS hl)
theorem fr_lmul {x y : Int64} (F : fr_F Y K) (hd : decode Y.2.1 pc = .ok (.lmul, 1)) (hq : pc + 1 = q) (k : fr_V Y K q L (.long (x * y) :: st) M) : fr_V Y K pc L (.long y :: .long x :: st) M := by
  subst hq
  obtain ⟨p, l, e, R, s, m, args, below, meth, c, cells, slots, Q, G, A⟩ := K
  intro H locs ls hP hS hl
  exact lv_lmul F.1 F.2.1 hd (k H locs ls hP hS hl)
theorem fr_i2l {x : Int32} (F : fr_F Y K) (hd : decode Y.2.1 pc = .ok (.i2l, 1)) (hq : pc + 1 = q) (k : fr_V Y K q L (.long x.toInt64 :: st) M) : fr_V Y K pc L (.int x :: st) M := by
  subst hq
  obtain ⟨p, l, e, R, s, m, args, below, meth, c, cells, slots, Q, G, A⟩ := K
  intro H locs ls hP hS hl
  exact lv_i2l F.1 F.2.1 hd rfl (k H locs ls hP hS hl)
theorem fr_lcmp {x y : Int64} (F : fr_F Y K) (hd : decode Y.2.1 pc = .ok (.lcmp, 1)) (hq : pc + 1 = q) (k : fr_V Y K q L (.int (lg_cmp x y) :: st) M) : fr_V Y K pc L (.long y :: .long x :: st) M := by
  subst hq
  obtain ⟨p, l, e, R, s, m, args, below, meth, c, cells, slots, Q, G, A⟩ := K
  intro H locs ls hP hS hl
  exact W.lcmp F.1 F.2.1 hd (k H locs ls hP hS hl)
theorem fr_dup {v : Value} (F : fr_F Y K) (hd : decode Y.2.1 pc = .ok (.dup, 1)) (hq : pc + 1 = q) (hc : v.category = 1) (k : fr_V Y K q L (v :: v :: st) M) : fr_V Y K pc L (v :: st) M := by
  subst hq
  obtain ⟨p, l, e, R, s, m, args, below, meth, c, cells, slots, Q, G, A⟩ := K
  intro H locs ls hP hS hl
  exact lv_dup F.1 F.2.1 hd (by rw [fr_v_cat]; exact hc) (k H locs ls hP hS hl)
theorem fr_dup2 {v w : Value} (F : fr_F Y K) (hd : decode Y.2.1 pc = .ok (.dup2, 1)) (hq : pc + 1 = q) (hc : v.category = 1) (hc2 : w.category = 1) (k : fr_V Y K q L (v :: w :: v :: w :: st) M) : fr_V Y K pc L (v :: w :: st) M := by
  subst hq
  obtain ⟨p, l, e, R, s, m, args, below, meth, c, cells, slots, Q, G, A⟩ := K
  intro H locs ls hP hS hl
  exact lv_dup2_11 F.1 F.2.1 hd (by rw [fr_v_cat]; exact hc) (by rw [fr_v_cat]; exact hc2) (k H locs ls hP hS hl)
theorem fr_if_eq {x : Int32} {off : Int} {tgt : Nat} (F : fr_F Y K) (hd : decode Y.2.1 pc = .ok (.ifCond .eq off, 3)) (ht : (pc : Int) + off = (tgt : Int)) (hq : pc + 3 = q) (kt : x = 0 → fr_V Y K tgt L st M) (kf : ¬ (x = 0) → fr_V Y K q L st M) : fr_V Y K pc L (.int x :: st) M := by
  subst hq
  obtain ⟨p, l, e, R, s, m, args, below, meth, c, cells, slots, Q, G, A⟩ := K
  intro H locs ls hP hS hl
  exact lv_if_eq F.1 F.2.1 hd ht (fun z => kt z H locs ls hP hS hl) (fun z => kf z H locs ls hP hS hl)
theorem fr_icmp_eq {x y : Int32} {off : Int} {tgt : Nat} (F : fr_F Y K) (hd : decode Y.2.1 pc = .ok (.if_icmp .eq off, 3)) (ht : (pc : Int) + off = (tgt : Int)) (hq : pc + 3 = q) (kt : x = y → fr_V Y K tgt L st M) (kf : ¬ (x = y) → fr_V Y K q L st M) : fr_V Y K pc L (.int y :: .int x :: st) M := by
  subst hq
  obtain ⟨p, l, e, R, s, m, args, below, meth, c, cells, slots, Q, G, A⟩ := K
  intro H locs ls hP hS hl
  exact lv_icmp_eq F.1 F.2.1 hd ht (fun z => kt z H locs ls hP hS hl) (fun z => kf z H locs ls hP hS hl)
theorem fr_if_ne {x : Int32} {off : Int} {tgt : Nat} (F : fr_F Y K) (hd : decode Y.2.1 pc = .ok (.ifCond .ne off, 3)) (ht : (pc : Int) + off = (tgt : Int)) (hq : pc + 3 = q) (kt : ¬ x = 0 → fr_V Y K tgt L st M) (kf : x = 0 → fr_V Y K q L st M) : fr_V Y K pc L (.int x :: st) M := by
  subst hq
  obtain ⟨p, l, e, R, s, m, args, below, meth, c, cells, slots, Q, G, A⟩ := K
  intro H locs ls hP hS hl
  exact lv_if_ne F.1 F.2.1 hd ht (fun z => kt z H locs ls hP hS hl) (fun z => kf z H locs ls hP hS hl)
theorem fr_icmp_ne {x y : Int32} {off : Int} {tgt : Nat} (F : fr_F Y K) (hd : decode Y.2.1 pc = .ok (.if_icmp .ne off, 3)) (ht : (pc : Int) + off = (tgt : Int)) (hq : pc + 3 = q) (kt : ¬ x = y → fr_V Y K tgt L st M) (kf : x = y → fr_V Y K q L st M) : fr_V Y K pc L (.int y :: .int x :: st) M := by
  subst hq
  obtain ⟨p, l, e, R, s, m, args, below, meth, c, cells, slots, Q, G, A⟩ := K
  intro H locs ls hP hS hl
  exact lv_icmp_ne F.1 F.2.1 hd ht (fun z => kt z H locs ls hP hS hl) (fun z => kf z H locs ls hP hS hl)
theorem fr_if_lt {x : Int32} {off : Int} {tgt : Nat} (F : fr_F Y K) (hd : decode Y.2.1 pc = .ok (.ifCond .lt off, 3)) (ht : (pc : Int) + off = (tgt : Int)) (hq : pc + 3 = q) (kt : x < 0 → fr_V Y K tgt L st M) (kf : ¬ (x < 0) → fr_V Y K q L st M) : fr_V Y K pc L (.int x :: st) M := by
  subst hq
  obtain ⟨p, l, e, R, s, m, args, below, meth, c, cells, slots, Q, G, A⟩ := K
  intro H locs ls hP hS hl
  exact lv_if_lt F.1 F.2.1 hd ht (fun z => kt z H locs ls hP hS hl) (fun z => kf z H locs ls hP hS hl)
theorem fr_icmp_lt {x y : Int32} {off : Int} {tgt : Nat} (F : fr_F Y K) (hd : decode Y.2.1 pc = .ok (.if_icmp .lt off, 3)) (ht : (pc : Int) + off = (tgt : Int)) (hq : pc + 3 = q) (kt : x < y → fr_V Y K tgt L st M) (kf : ¬ (x < y) → fr_V Y K q L st M) : fr_V Y K pc L (.int y :: .int x :: st) M := by
  subst hq
  obtain ⟨p, l, e, R, s, m, args, below, meth, c, cells, slots, Q, G, A⟩ := K
  intro H locs ls hP hS hl
  exact lv_icmp_lt F.1 F.2.1 hd ht (fun z => kt z H locs ls hP hS hl) (fun z => kf z H locs ls hP hS hl)
theorem fr_if_ge {x : Int32} {off : Int} {tgt : Nat} (F : fr_F Y K) (hd : decode Y.2.1 pc = .ok (.ifCond .ge off, 3)) (ht : (pc : Int) + off = (tgt : Int)) (hq : pc + 3 = q) (kt : 0 ≤ x → fr_V Y K tgt L st M) (kf : ¬ (0 ≤ x) → fr_V Y K q L st M) : fr_V Y K pc L (.int x :: st) M := by
  subst hq
  obtain ⟨p, l, e, R, s, m, args, below, meth, c, cells, slots, Q, G, A⟩ := K
  intro H locs ls hP hS hl
  exact lv_if_ge F.1 F.2.1 hd ht (fun z => kt z H locs ls hP hS hl) (fun z => kf z H locs ls hP hS hl)
theorem fr_icmp_ge {x y : Int32} {off : Int} {tgt : Nat} (F : fr_F Y K) (hd : decode Y.2.1 pc = .ok (.if_icmp .ge off, 3)) (ht : (pc : Int) + off = (tgt : Int)) (hq : pc + 3 = q) (kt : y ≤ x → fr_V Y K tgt L st M) (kf : ¬ (y ≤ x) → fr_V Y K q L st M) : fr_V Y K pc L (.int y :: .int x :: st) M := by
  subst hq
  obtain ⟨p, l, e, R, s, m, args, below, meth, c, cells, slots, Q, G, A⟩ := K
  intro H locs ls hP hS hl
  exact lv_icmp_ge F.1 F.2.1 hd ht (fun z => kt z H locs ls hP hS hl) (fun z => kf z H locs ls hP hS hl)
theorem fr_if_gt {x : Int32} {off : Int} {tgt : Nat} (F : fr_F Y K) (hd : decode Y.2.1 pc = .ok (.ifCond .gt off, 3)) (ht : (pc : Int) + off = (tgt : Int)) (hq : pc + 3 = q) (kt : 0 < x → fr_V Y K tgt L st M) (kf : ¬ (0 < x) → fr_V Y K q L st M) : fr_V Y K pc L (.int x :: st) M := by
  subst hq
  obtain ⟨p, l, e, R, s, m, args, below, meth, c, cells, slots, Q, G, A⟩ := K
  intro H locs ls hP hS hl
  exact lv_if_gt F.1 F.2.1 hd ht (fun z => kt z H locs ls hP hS hl) (fun z => kf z H locs ls hP hS hl)
theorem fr_icmp_gt {x y : Int32} {off : Int} {tgt : Nat} (F : fr_F Y K) (hd : decode Y.2.1 pc = .ok (.if_icmp .gt off, 3)) (ht : (pc : Int) + off = (tgt : Int)) (hq : pc + 3 = q) (kt : y < x → fr_V Y K tgt L st M) (kf : ¬ (y < x) → fr_V Y K q L st M) : fr_V Y K pc L (.int y :: .int x :: st) M := by
  subst hq
  obtain ⟨p, l, e, R, s, m, args, below, meth, c, cells, slots, Q, G, A⟩ := K
  intro H locs ls hP hS hl
  exact lv_icmp_gt F.1 F.2.1 hd ht (fun z => kt z H locs ls hP hS hl) (fun z => kf z H locs ls hP hS hl)
theorem fr_if_le {x : Int32} {off : Int} {tgt : Nat} (F : fr_F Y K) (hd : decode Y.2.1 pc = .ok (.ifCond .le off, 3)) (ht : (pc : Int) + off = (tgt : Int)) (hq : pc + 3 = q) (kt : x ≤ 0 → fr_V Y K tgt L st M) (kf : ¬ (x ≤ 0) → fr_V Y K q L st M) : fr_V Y K pc L (.int x :: st) M := by
  subst hq
  obtain ⟨p, l, e, R, s, m, args, below, meth, c, cells, slots, Q, G, A⟩ := K
  intro H locs ls hP hS hl
  exact lv_if_le F.1 F.2.1 hd ht (fun z => kt z H locs ls hP hS hl) (fun z => kf z H locs ls hP hS hl)
theorem fr_icmp_le {x y : Int32} {off : Int} {tgt : Nat} (F : fr_F Y K) (hd : decode Y.2.1 pc = .ok (.if_icmp .le off, 3)) (ht : (pc : Int) + off = (tgt : Int)) (hq : pc + 3 = q) (kt : x ≤ y → fr_V Y K tgt L st M) (kf : ¬ (x ≤ y) → fr_V Y K q L st M) : fr_V Y K pc L (.int y :: .int x :: st) M := by
  subst hq
  obtain ⟨p, l, e, R, s, m, args, below, meth, c, cells, slots, Q, G, A⟩ := K
  intro H locs ls hP hS hl
  exact lv_icmp_le F.1 F.2.1 hd ht (fun z => kt z H locs ls hP hS hl) (fun z => kf z H locs ls hP hS hl)
/-- a truth value asked -/
theorem fr_if_eqb {b : Bool} {off : Int} {tgt : Nat} (F : fr_F Y K) (hd : decode Y.2.1 pc = .ok (.ifCond .eq off, 3)) (ht : (pc : Int) + off = (tgt : Int)) (hq : pc + 3 = q) (kt : ¬ b = true → fr_V Y K tgt L st M) (kf : b = true → fr_V Y K q L st M) : fr_V Y K pc L (.int (fr_b b) :: st) M :=
  fr_if_eq F hd ht hq (fun h => kt (fun e => by rw [e] at h; exact absurd h (by decide))) (fun h => kf (by cases b with
    | true => rfl
    | false => exact absurd rfl h))
theorem fr_if_neb {b : Bool} {off : Int} {tgt : Nat} (F : fr_F Y K) (hd : decode Y.2.1 pc = .ok (.ifCond .ne off, 3)) (ht : (pc : Int) + off = (tgt : Int)) (hq : pc + 3 = q) (kt : b = true → fr_V Y K tgt L st M) (kf : ¬ b = true → fr_V Y K q L st M) : fr_V Y K pc L (.int (fr_b b) :: st) M :=
  fr_if_ne F hd ht hq (fun h => kt (by cases b with
    | true => rfl
    | false => exact absurd rfl h)) (fun h => kf (fun e => by rw [e] at h; exact absurd h (by decide)))
theorem fr_goto {off : Int} {tgt : Nat} (F : fr_F Y K) (hd : decode Y.2.1 pc = .ok (.goto off, 3)) (ht : (pc : Int) + off = (tgt : Int)) (k : fr_V Y K tgt L st M) : fr_V Y K pc L st M := by
  obtain ⟨p, l, e, R, s, m, args, below, meth, c, cells, slots, Q, G, A⟩ := K
  intro H locs ls hP hS hl
  exact lv_goto F.1 F.2.1 hd ht (k H locs ls hP hS hl)
theorem fr_tswI {x k : Int32} {dflt lo hi off : Int} {offs : Array Int} {len tgt : Nat} (F : fr_F Y K) (hx : x = k) (hd : decode Y.2.1 pc = .ok (.tableswitch dflt lo hi offs, len)) (hi1 : ¬ k.toInt < lo) (hi2 : ¬ hi < k.toInt) (ho : offs[(k.toInt - lo).toNat]? = some off) (ht : (pc : Int) + off = (tgt : Int)) (kk : fr_V Y K tgt L st M) : fr_V Y K pc L (.int x :: st) M := by
  subst hx
  obtain ⟨p, l, e, R, s, m, args, below, meth, c, cells, slots, Q, G, A⟩ := K
  intro H locs ls hP hS hl
  exact lv_tableIn F.1 F.2.1 hd hi1 hi2 ho ht (kk H locs ls hP hS hl)
theorem fr_tswO {x : Int32} {dflt lo hi : Int} {offs : Array Int} {len tgt : Nat} (F : fr_F Y K) (hd : decode Y.2.1 pc = .ok (.tableswitch dflt lo hi offs, len)) (h : x.toInt < lo ∨ hi < x.toInt) (ht : (pc : Int) + dflt = (tgt : Int)) (kk : fr_V Y K tgt L st M) : fr_V Y K pc L (.int x :: st) M := by
  obtain ⟨p, l, e, R, s, m, args, below, meth, c, cells, slots, Q, G, A⟩ := K
  intro H locs ls hP hS hl
  exact lv_tableOut F.1 F.2.1 hd h ht (kk H locs ls hP hS hl)
theorem fr_lsw {x : Int32} {dflt off : Int} {ps : Array (Int × Int)} {len tgt : Nat} (F : fr_F Y K) (hd : decode Y.2.1 pc = .ok (.lookupswitch dflt ps, len)) (hp : (ps.toList.zip (ps.toList.drop 1)).all (fun (a, next) => a.1 < next.1) = true) (ho : Op.lookupswitch.offset ps.toList dflt x.toInt = off) (ht : (pc : Int) + off = (tgt : Int)) (kk : fr_V Y K tgt L st M) : fr_V Y K pc L (.int x :: st) M := by
  obtain ⟨p, l, e, R, s, m, args, below, meth, c, cells, slots, Q, G, A⟩ := K
  intro H locs ls hP hS hl
  exact lv_lookup F.1 F.2.1 hd hp ho ht (kk H locs ls hP hS hl)
/-- a switch's number outside its table -/
theorem fr_out {x : Int32} {n : Nat} (hn : n < 1000) (h : ∀ k : Nat, k < n + 1 → ¬ x = Int32.ofNat k) : x.toInt < 0 ∨ (n : Int) < x.toInt := by
  by_cases h0 : x.toInt < 0
  · exact Or.inl h0
  · refine Or.inr (Int.not_le.mp fun h1 => ?_)
    obtain ⟨j, hj⟩ : ∃ j : Nat, x.toInt = (j : Int) := ⟨x.toInt.toNat, by omega⟩
    refine h j (by omega) (Int32.toInt_inj.mp ?_)
    rw [hj]
    exact (nI_toInt (n := j) (by omega)).symm
end FRR
