/-! THE WORLD of the law: 67 cells, those of x (0 to 51) in the order of their making, then those of m (52 to 66). A memory: of each cell, what its slots hold. -/
abbrev fr_N : Type := Nat → Nat → Int32
abbrev fr_M : Type := fr_N × fr_N
/-- a cell's row told anew -/
def fr_row (n : fr_N) (c : Nat) (f : Nat → Int32) : fr_N := fun c' => if c' = c then f else n c'
/-- one slot told anew -/
def fr_up (n : fr_N) (c j : Nat) (x : Int32) : fr_N := fr_row n c (upd (n c) j x)
/-- a row copied into another one -/
def fr_cp (n : fr_N) (c0 c1 sp dp k : Nat) : fr_N := fr_row n c1 (va_cpy (n c0) (n c1) sp dp k)
def fr_b (b : Bool) : Int32 := match b with
  | true => 1
  | false => 0
def fr_rem (x y : Int32) : Int32 := x - x / y * y
abbrev fr_cl : List vw_C := [(RX0, TX0, 5), (RX1, TX1, 11), (RX2, TX2, 4), (RX3, TX3, 6), (RX4, TX4, 6), (RX5, TX5, 8), (RX6, TX6, 2), (RX7, TX7, 8), (RX8, TX8, 27)]
/-- a cell's shape: an object of a class, its fields either a cell or a number; a row of a kind (0 int, 1 boolean, 2 Books) and length -/
abbrev fr_S : Type := (Nat × List (Option Nat)) ⊕ (Nat × Nat)
def fr_bk (b : Nat) : fr_S := .inl (1, [none, none, none, none, some (b + 1), some (b + 2), some (b + 3), some (b + 4), some (b + 5), some (b + 6), some (b + 7)])
def fr_sh (k : Nat) : fr_S := match k with
  | 0 => .inl (7, [some 1, some 34, some 3, some 17, some 43, some 11, some 48, none])
  | 1 => .inl (6, [some 2, none])
  | 2 => .inr (0, 160)
  | 3 => fr_bk 3
  | 4 => .inr (0, 6)
  | 5 => .inr (0, 48)
  | 6 => .inr (0, 4)
  | 7 => .inr (0, 4)
  | 8 => .inr (0, 4)
  | 9 => .inr (0, 5)
  | 10 => .inr (0, 5)
  | 11 => .inl (3, [some 3, some 12, some 13, some 14, some 15, some 16])
  | 12 => .inl (2, [none, none, none, none])
  | 13 => .inr (0, 12)
  | 14 => .inr (0, 12)
  | 15 => .inr (0, 12)
  | 16 => .inr (0, 367)
  | 17 => .inr (2, 2)
  | 18 => fr_bk 18
  | 19 => .inr (0, 6)
  | 20 => .inr (0, 48)
  | 21 => .inr (0, 4)
  | 22 => .inr (0, 4)
  | 23 => .inr (0, 4)
  | 24 => .inr (0, 5)
  | 25 => .inr (0, 5)
  | 26 => fr_bk 26
  | 27 => .inr (0, 6)
  | 28 => .inr (0, 48)
  | 29 => .inr (0, 4)
  | 30 => .inr (0, 4)
  | 31 => .inr (0, 4)
  | 32 => .inr (0, 5)
  | 33 => .inr (0, 5)
  | 34 => .inl (4, [some 1, some 35, none, none, none, none])
  | 35 => fr_bk 35
  | 36 => .inr (0, 6)
  | 37 => .inr (0, 48)
  | 38 => .inr (0, 4)
  | 39 => .inr (0, 4)
  | 40 => .inr (0, 4)
  | 41 => .inr (0, 5)
  | 42 => .inr (0, 5)
  | 43 => .inl (0, [some 44, some 45, some 46, some 47, none])
  | 44 => .inr (0, 16)
  | 45 => .inr (0, 16)
  | 46 => .inr (0, 16)
  | 47 => .inr (0, 16)
  | 48 => .inl (5, [some 3, some 11, some 49, some 50, some 51, none, none, none])
  | 49 => .inr (0, 5)
  | 50 => .inr (0, 5)
  | 51 => .inr (0, 4)
  | 52 => .inl (8, [some 53, some 54, some 55, none, some 56, some 57, some 58, none, none, none, none, none, none, none, none, some 59, some 60, some 61, some 62, some 63, none, none, some 64, some 65, some 66, none, none])
  | 53 => .inr (0, 79)
  | 54 => .inr (0, 79)
  | 55 => .inr (0, 1264)
  | 56 => .inr (0, 158)
  | 57 => .inr (1, 2)
  | 58 => .inr (0, 160)
  | 59 => .inr (0, 367)
  | 60 => .inr (0, 12)
  | 61 => .inr (0, 12)
  | 62 => .inr (0, 12)
  | 63 => .inr (1, 12)
  | 64 => .inr (0, 5)
  | 65 => .inr (0, 5)
  | _ => .inr (0, 4)
/-- what a run of the law has given: class numbers, the three kinds of rows, the cells' addresses (67 to 69: the class's three tables; 70: the script), the script's length, the script -/
abbrev fr_G : Type := va_G × ClassId × ClassId × ClassId × (Nat → Nat) × Nat × (Nat → Int32)
def fr_gD (G : fr_G) : va_G := G.1
def fr_gI (G : fr_G) : ClassId := G.2.1
def fr_gZ (G : fr_G) : ClassId := G.2.2.1
def fr_gB (G : fr_G) : ClassId := G.2.2.2.1
def fr_ad (G : fr_G) : Nat → Nat := G.2.2.2.2.1
def fr_gL (G : fr_G) : Nat := G.2.2.2.2.2.1
def fr_gX (G : fr_G) : Nat → Int32 := G.2.2.2.2.2.2
def fr_ty (G : fr_G) : List (ClassId × FieldType) := [(fr_gI G, .int), (fr_gZ G, .boolean), (fr_gB G, .object RX1)]
def fr_fv (G : fr_G) (o : Option Nat) (x : Int32) : Value := match o with
  | some k => .ref (fr_ad G k)
  | none => .int x
def fr_fs (G : fr_G) (fs : List (Option Nat)) (f : Nat → Int32) : List Value := (List.range fs.length).map (fun j => fr_fv G (fs.getD j none) (f j))
def fr_ce (G : fr_G) (q : fr_S) (f : Nat → Int32) : va_E := match q with
  | .inl (c, fs) => .inr (c, fr_fs G fs f)
  | .inr (0, n) => .inl (fr_gI G, n, .inl f)
  | .inr (1, n) => .inl (fr_gZ G, n, .inl f)
  | .inr (_, n) => .inl (fr_gB G, n, .inr (.inr (.inr (.inr (fun j => some (fr_ad G (18 + 8 * j)))))))
def fr_ct (M : fr_M) (k : Nat) : Nat → Int32 := if k < 52 then M.1 k else M.2 (k - 52)
def fr_ws (G : fr_G) (M : fr_M) : va_W := (List.range 67).map (fun k => (fr_ad G k, fr_ce G (fr_sh k) (fr_ct M k)))
theorem fr_ws_at {G : fr_G} {M : fr_M} {k : Nat} (h : k < 67) : (fr_ws G M)[k]? = some (fr_ad G k, fr_ce G (fr_sh k) (fr_ct M k)) := by
  simp [fr_ws, List.getElem?_range h]
theorem fr_ws_len {G : fr_G} {M : fr_M} : (fr_ws G M).length = 67 := by simp [fr_ws]
/-- a cell of the world told anew -/
theorem fr_ws_set {G : fr_G} {M M' : fr_M} {k : Nat} (h : k < 67) {e : va_E} (he : e = fr_ce G (fr_sh k) (fr_ct M' k)) (ho : ∀ j, j ≠ k → fr_ct M' j = fr_ct M j) : (fr_ws G M).set k (fr_ad G k, e) = fr_ws G M' := by
  apply List.ext_getElem?
  intro j
  by_cases hj : j = k
  · subst hj
    rw [List.getElem?_set_self (by rw [fr_ws_len]; exact h), fr_ws_at h, he]
  · rw [List.getElem?_set_ne (Ne.symm hj)]
    by_cases h67 : j < 67
    · rw [fr_ws_at h67, fr_ws_at h67, ho j hj]
    · rw [List.getElem?_eq_none (by rw [fr_ws_len]; omega), List.getElem?_eq_none (by rw [fr_ws_len]; omega)]
/-- writing a row of x or of m -/
def fr_wr (M : fr_M) (k : Nat) (f : Nat → Int32) : fr_M := if k < 52 then (fr_row M.1 k f, M.2) else (M.1, fr_row M.2 (k - 52) f)
theorem fr_ct_wr {M : fr_M} {k : Nat} {f : Nat → Int32} : fr_ct (fr_wr M k f) k = f := by
  unfold fr_ct fr_wr
  by_cases h : k < 52
  · simp [h, fr_row]
  · simp [h, fr_row]
theorem fr_ct_wr_ne {M : fr_M} {k j : Nat} {f : Nat → Int32} (hj : j ≠ k) : fr_ct (fr_wr M k f) j = fr_ct M j := by
  unfold fr_ct fr_wr
  by_cases h : k < 52
  · by_cases h2 : j < 52
    · simp [h, h2, fr_row, hj]
    · simp [h, h2]
  · by_cases h2 : j < 52
    · simp [h, h2]
    · have : ¬ (j - 52 = k - 52) := by omega
      simp [h, h2, fr_row, this]
theorem fr_fs_at {G : fr_G} {fs : List (Option Nat)} {f : Nat → Int32} {j : Nat} {o : Option Nat} (h : fs[j]? = some o) : (fr_fs G fs f)[j]? = some (fr_fv G o (f j)) := by
  have hl : j < fs.length := (List.getElem?_eq_some_iff.mp h).1
  simp [fr_fs, List.getElem?_range hl, h]
theorem fr_fs_len {G : fr_G} {fs : List (Option Nat)} {f : Nat → Int32} : (fr_fs G fs f).length = fs.length := by simp [fr_fs]
theorem fr_fs_set {G : fr_G} {fs : List (Option Nat)} {f : Nat → Int32} {j : Nat} {x : Int32} (h : fs[j]? = some none) : (fr_fs G fs f).set j (.int x) = fr_fs G fs (upd f j x) := by
  apply List.ext_getElem?
  intro i
  have hl : j < fs.length := (List.getElem?_eq_some_iff.mp h).1
  by_cases hi : i = j
  · subst hi
    rw [List.getElem?_set_self (by rw [fr_fs_len]; exact hl), fr_fs_at h]
    simp [fr_fv, upd]
  · rw [List.getElem?_set_ne (Ne.symm hi)]
    by_cases h2 : i < fs.length
    · have h3 : fs[i]? = some fs[i] := List.getElem?_eq_getElem h2
      rw [fr_fs_at h3, fr_fs_at h3]
      simp [upd, hi]
    · rw [List.getElem?_eq_none (by rw [fr_fs_len]; omega), List.getElem?_eq_none (by rw [fr_fs_len]; omega)]
/-- the cells that the world's own are -/
def fr_A (G : fr_G) : Nat → Prop := fun q => ∃ k, k < 67 ∧ q = fr_ad G k
/-- a value as the machine has it: cells by their addresses -/
def fr_v (G : fr_G) (v : Value) : Value := match v with
  | .ref k => .ref (fr_ad G k)
  | w => w
theorem fr_v_cat (G : fr_G) (v : Value) : (fr_v G v).category = v.category := by cases v <;> rfl
/-- the class's three tables -/
def fr_tb1 (j : Nat) : Int32 := match j with
  | 3 => 10
  | 4 => 1
  | _ => 0
def fr_tb2 (j : Nat) : Int32 := match j with
  | 0 => 2
  | 1 => 29
  | 2 => 6
  | 3 => 150
  | 4 => 9
  | _ => 2
def fr_tb3 (j : Nat) : Int32 := match j with
  | 0 => 1
  | 1 => 1
  | 2 => 2
  | 3 => 2
  | 4 => 3
  | _ => 4
def fr_St (G : fr_G) (A : Nat → Prop) (U : State) (H : Heap) : Prop :=
  va_Z RX7 "LEAST_LAW" "[I" (.ref (fr_ad G 67)) A U H ∧ va_Z RX7 "GREATEST_LAW" "[I" (.ref (fr_ad G 68)) A U H ∧ va_Z RX7 "SERVICES_BY_RANK" "[I" (.ref (fr_ad G 69)) A U H ∧
  va_T .int (fr_ad G 67) 6 (fun j => .int (fr_tb1 j)) A U H ∧ va_T .int (fr_ad G 68) 6 (fun j => .int (fr_tb2 j)) A U H ∧ va_T .int (fr_ad G 69) 6 (fun j => .int (fr_tb3 j)) A U H
theorem fr_St.moved {G : fr_G} {A : Nat → Prop} {u U : State} {H : Heap} (hvm : u.vm.Alike U.vm) (h : fr_St G A u H) : fr_St G A U H := by
  obtain ⟨h1, h2, h3, h4, h5, h6⟩ := h
  exact ⟨h1.moved hvm, h2.moved hvm, h3.moved hvm, h4.moved hvm, h5.moved hvm, h6.moved hvm⟩
theorem fr_St.kept {G : fr_G} {A : Nat → Prop} {U : State} {H H1 : Heap} (h : fr_St G A U H) (hq : ∀ a : Nat, a < H.size → ¬ A a → H1[a]? = H[a]?) : fr_St G A U H1 := by
  obtain ⟨h1, h2, h3, h4, h5, h6⟩ := h
  exact ⟨h1.kept hq, h2.kept hq, h3.kept hq, h4.kept hq, h5.kept hq, h6.kept hq⟩
theorem fr_St.narrow {G : fr_G} {A B : Nat → Prop} {U : State} {H : Heap} (h : fr_St G A U H) (hAB : ∀ q, B q → A q) : fr_St G B U H := by
  obtain ⟨h1, h2, h3, h4, h5, h6⟩ := h
  exact ⟨h1.narrow hAB, h2.narrow hAB, h3.narrow hAB, h4.narrow hAB, h5.narrow hAB, h6.narrow hAB⟩
/-- words that a warm machine keeps, and those on nest mates, which are carried by themselves -/
def fr_tb : List Cond := lw_tbl.filter goodWord
theorem fr_in {w : Cond} {i : Nat} (h : lw_tbl[i]? = some w) (hg : goodWord w = true) : w ∈ fr_tb := List.mem_filter.mpr ⟨List.mem_of_getElem? h, hg⟩
theorem fr_good : GoodIn fr_tb fr_tb := fun _ hw => ⟨hw, good_of_word (List.mem_filter.mp hw).2⟩
def fr_nm : List (String × Nat) := [(RX0, 48), (RX1, 33), (RX2, 54), (RX3, 91), (RX4, 112)]
def fr_nf : List (String × Nat × String) := [(RX3, 122, "SERVICES_BY_RANK"), (RX4, 115, "LEAST_LAW"), (RX4, 119, "GREATEST_LAW")]
def fr_Nw (U : State) : Prop := (∀ q ∈ fr_nm, va_Nw (.methodLinkNest q.1 q.2 yX7_within RX7) U) ∧ ∀ q ∈ fr_nf, va_Nw (.fieldLinkNest q.1 q.2.1 RX7 q.2.2 "[I" RX7) U
theorem fr_Nw.warm {s U : State} (hW : s.WarmedH U.vm) (h : fr_Nw s) : fr_Nw U := ⟨fun q hq => va_Nw.warmM hW (h.1 q hq), fun q hq => va_Nw.warmF hW (h.2 q hq)⟩
theorem fr_Nw.same {u U : State} (hv : u.vm = U.vm) (h : fr_Nw u) : fr_Nw U := ⟨fun q hq => va_Nw.same rfl hv (h.1 q hq), fun q hq => va_Nw.same rfl hv (h.2 q hq)⟩
/-- a method: its name, code, locals, what it returns, the room that it has -/
abbrev fr_Y : Type := MethodName × ByteArray × Nat × Option FieldType × Room
/-- what stands while a method is walked -/
abbrev fr_K : Type := Program × Launch × Env × Room × State × MethodId × Array Value × List Frame × Method × Code × Nat × Nat × (State → Prop) × fr_G × (Nat → Prop)
def fr_W (K : fr_K) (H : Heap) (locs : List Loc) (g : JFrame) : Prop := match K with
  | (p, l, e, R, s, m, args, below, meth, c, cells, slots, Q, _, _) => W p l e R s m args below meth c H locs cells slots Q g
def fr_F (Y : fr_Y) (K : fr_K) : Prop := match K with
  | (p, _, _, R, s, m, args, _, _, c, cells, slots, _, G, A) => p.tables.exec = Jvm.exec ∧ c.code = Y.2.1 ∧ c.maxLocals = Y.2.2.1 ∧ s.vm.findClass Y.1.cls = some m.cls ∧ (∀ w ∈ fr_tb, w.before args s = true) ∧ R = Y.2.2.2.2 ∧ (cells ≤ R.cells ∧ slots ≤ R.slots) ∧
    va_K (fr_gD G) fr_cl (fr_ty G) s ∧ (∀ M, va_D A (fr_ws G M)) ∧ fr_St G A s s.heap ∧ fr_Nw s
def fr_kG (K : fr_K) : fr_G := match K with
  | (_, _, _, _, _, _, _, _, _, _, _, _, _, G, _) => G
def fr_kA (K : fr_K) : Nat → Prop := match K with
  | (_, _, _, _, _, _, _, _, _, _, _, _, _, _, A) => A
def fr_ks (K : fr_K) : State := match K with
  | (_, _, _, _, s, _, _, _, _, _, _, _, _, _, _) => s
def fr_km (K : fr_K) : MethodId := match K with
  | (_, _, _, _, _, m, _, _, _, _, _, _, _, _, _) => m
def fr_kl (K : fr_K) : Launch := match K with
  | (_, l, _, _, _, _, _, _, _, _, _, _, _, _, _) => l
/-- the locals: those that are told -/
def fr_L (G : fr_G) (n : Nat) (L : List (Option Value)) (ls : Array Slot) : Prop := ls.size = n ∧ lv_wf ls ∧ ∀ (i : Nat) (v : Value), L[i]? = some (some v) → ls[i]? = some (.val (fr_v G v))
/-- THE JUDGEMENT: from this place of the method, with these locals, this stack and this memory, the machine comes to its goal -/
def fr_V (Y : fr_Y) (K : fr_K) (pc : Nat) (L : List (Option Value)) (st : List Value) (M : fr_M) : Prop :=
  ∀ (H : Heap) (locs : List Loc) (ls : Array Slot), va_P (fr_gD (fr_kG K)) fr_cl (fr_ws (fr_kG K) M) H → va_S (fr_kA K) (fr_ks K).heap H locs → fr_L (fr_kG K) Y.2.2.1 L ls → fr_W K H locs (F0 (fr_km K) pc ls (st.map (fr_v (fr_kG K))))
