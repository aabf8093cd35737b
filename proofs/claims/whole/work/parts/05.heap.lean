/-! ROWS of fields, rows of numbers, tables; calls; a method's contract out of the judgement -/
/-- a field's link: class number, slot -/
def fr_fa (own : String) (idx ci k : Nat) : Prop := ∃ (C : String) (T : u_T) (N : Nat), fr_cl[ci]? = some (C, T, N) ∧ k < N ∧ Cond.fieldLink own idx C (T k).2.1 (T k).2.2.1 ∈ fr_tb ∧ (∀ w ∈ u_ws C T N, w ∈ fr_tb) ∧ (T k).1 = C
/-- a field that is written: of a type (int, boolean), not final; the class's fields have names of their own -/
def fr_fp (own : String) (idx ci k : Nat) (ty : FieldType) : Prop := ∃ (C : String) (T : u_T) (N : Nat) (ty0 : Nat → FieldType), fr_cl[ci]? = some (C, T, N) ∧ k < N ∧ Cond.fieldLink own idx C (T k).2.1 (T k).2.2.1 ∈ fr_tb ∧ (∀ w ∈ u_ws C T N, w ∈ fr_tb) ∧ (T k).1 = C ∧ (T k).2.2.2 = false ∧ (∀ k, k < N → parseFieldDescriptor (T k).2.2.1 = some (ty0 k)) ∧ (∀ a, a < N → ∀ b, b < N → a ≠ b → (T a).2.1 ≠ (T b).2.1) ∧ ty0 k = ty
def fr_ck {α : Type} (i : Int32) (n : Nat) (k : Option α) : Option α := if i < 0 ∨ n ≤ i.toNatClampNeg then none else k
theorem fr_ck_some {α : Type} {i : Int32} {n : Nat} {k : Option α} {o : α} (h : fr_ck i n k = some o) : vp_in i n ∧ k = some o := by
  unfold fr_ck at h
  split at h
  · cases h
  · next hn => exact ⟨hn, h⟩
theorem fr_ck_pos {α : Type} {i : Int32} {n : Nat} {k : Option α} (h : vp_in i n) : fr_ck i n k = k := if_neg h
def fr_nz {α : Type} (y : Int32) (k : Option α) : Option α := if y = 0 then none else k
theorem fr_nz_some {α : Type} {y : Int32} {k : Option α} {o : α} (h : fr_nz y k = some o) : ¬ y = 0 ∧ k = some o := by
  unfold fr_nz at h
  split at h
  · cases h
  · next hn => exact ⟨hn, h⟩
def fr_bd {α β : Type} (a : Option α) (k : α → Option β) : Option β := match a with
  | some x => k x
  | none => none
theorem fr_bd_some {α β : Type} {a : Option α} {k : α → Option β} {o : β} (h : fr_bd a k = some o) : ∃ x, a = some x ∧ k x = some o := by
  cases a with
  | none => cases h
  | some x => exact ⟨x, rfl, h⟩
theorem fr_bd_eq {α β : Type} {x : α} {k : α → Option β} : fr_bd (some x) k = k x := rfl
theorem fr_bool (b : Bool) : narrow .boolean (.int (fr_b b)) = .int (fr_b b) := by cases b <;> decide
theorem fr_boolf (b : Bool) : fits .boolean (.int (fr_b b)) = true := by cases b <;> decide
theorem fr_booln (b : Bool) : vp_nar .boolean (fr_b b) = fr_b b := by cases b <;> decide
theorem fr_sum (G : fr_G) (st : List Value) : ((st.map (fr_v G)).map fun v => v.category).sum = (st.map fun v => v.category).sum := by
  rw [List.map_map]
  congr 1
  exact List.map_congr_left (fun v _ => fr_v_cat G v)
section FRH
variable {Y : fr_Y} {K : fr_K} {pc q : Nat} {L : List (Option Value)} {st : List Value} {M M' : fr_M}
theorem fr_gfR {b idx ci k j : Nat} {fs : List (Option Nat)} (F : fr_F Y K) (hd : decode Y.2.1 pc = .ok (.getfield idx, 3)) (hq : pc + 3 = q) (hf : fr_fa Y.1.cls idx ci k) (hb : b < 67) (hs : fr_sh b = .inl (ci, fs)) (ho : fs[k]? = some (some j)) (kk : fr_V Y K q L (.ref j :: st) M) : fr_V Y K pc L (.ref b :: st) M := by
  subst hq
  obtain ⟨p, l, e, R, s, m, args, below, meth, c, cells, slots, Q, G, A⟩ := K
  obtain ⟨C, T, N, hc, hk, hlk, hin, hT⟩ := hf
  intro H locs ls hP hS hl
  refine va_get (v := .ref (fr_ad G j)) F.1 F.2.1 F.2.2.2.2.1 hin F.2.2.2.1 F.2.2.2.2.2.2.2.1 hP b (by rw [fr_ws_at hb, hs]; rfl) hc k hk (F.2.2.2.2.1 _ hlk) (fun x h => by rw [← hT]; exact h) (fr_fs_at ho) hd (kk H locs ls hP hS hl)
theorem fr_gfI {b idx ci k : Nat} {x : Int32} {fs : List (Option Nat)} (F : fr_F Y K) (hd : decode Y.2.1 pc = .ok (.getfield idx, 3)) (hq : pc + 3 = q) (hf : fr_fa Y.1.cls idx ci k) (hb : b < 67) (hs : fr_sh b = .inl (ci, fs)) (ho : fs[k]? = some none) (hx : fr_ct M b k = x) (kk : fr_V Y K q L (.int x :: st) M) : fr_V Y K pc L (.ref b :: st) M := by
  subst hq; subst hx
  obtain ⟨p, l, e, R, s, m, args, below, meth, c, cells, slots, Q, G, A⟩ := K
  obtain ⟨C, T, N, hc, hk, hlk, hin, hT⟩ := hf
  intro H locs ls hP hS hl
  refine va_get (v := .int (fr_ct M b k)) F.1 F.2.1 F.2.2.2.2.1 hin F.2.2.2.1 F.2.2.2.2.2.2.2.1 hP b (by rw [fr_ws_at hb, hs]; rfl) hc k hk (F.2.2.2.2.1 _ hlk) (fun x h => by rw [← hT]; exact h) (fr_fs_at ho) hd (kk H locs ls hP hS hl)
theorem fr_pf {b idx ci k : Nat} {x : Int32} {ty : FieldType} {fs : List (Option Nat)} (F : fr_F Y K) (hd : decode Y.2.1 pc = .ok (.putfield idx, 3)) (hq : pc + 3 = q) (hf : fr_fp Y.1.cls idx ci k ty) (hn : narrow ty (.int x) = .int x) (hft : fits ty (.int x) = true) (hb : b < 67) (hs : fr_sh b = .inl (ci, fs)) (ho : fs[k]? = some none) (hM : fr_wr M b (upd (fr_ct M b) k x) = M') (kk : fr_V Y K q L st M') : fr_V Y K pc L (.int x :: .ref b :: st) M := by
  subst hq; subst hM
  obtain ⟨p, l, e, R, s, m, args, below, meth, c, cells, slots, Q, G, A⟩ := K
  obtain ⟨C, T, N, ty0, hc, hk, hlk, hin, hT, hfin, hty, hnm, ht⟩ := hf
  intro H locs ls hP hS hl
  have hws : (fr_ws G M).set b (fr_ad G b, .inr (ci, (fr_fs G fs (fr_ct M b)).set k (.int x))) = fr_ws G (fr_wr M b (upd (fr_ct M b) k x)) := by
    refine fr_ws_set hb ?_ (fun j hj => fr_ct_wr_ne hj)
    rw [fr_ct_wr, hs, fr_fs_set ho]
    rfl
  refine va_put F.1 F.2.1 F.2.2.2.2.1 hin ty0 hty hnm F.2.2.2.1 F.2.2.2.2.2.2.2.1 hP (F.2.2.2.2.2.2.2.2.1 M) hS b (by rw [fr_ws_at hb, hs]; rfl) hc k hk (F.2.2.2.2.1 _ hlk) (fun x h => by rw [← hT]; exact h) hfin (by rw [hty k hk, ht]) hn hft (by rw [fr_fs_len]; exact (List.getElem?_eq_some_iff.mp ho).1) hd (fun H1 locs1 hP1 _ hS1 => ?_)
  have hP1 : va_P (fr_gD G) fr_cl ((fr_ws G M).set b (fr_ad G b, .inr (ci, (fr_fs G fs (fr_ct M b)).set k (.int x)))) H1 := hP1
  rw [hws] at hP1
  exact kk H1 locs1 ls hP1 hS1 hl
theorem fr_pfI {b idx ci k : Nat} {x : Int32} {fs : List (Option Nat)} (F : fr_F Y K) (hd : decode Y.2.1 pc = .ok (.putfield idx, 3)) (hq : pc + 3 = q) (hf : fr_fp Y.1.cls idx ci k .int) (hb : b < 67) (hs : fr_sh b = .inl (ci, fs)) (ho : fs[k]? = some none) (hM : fr_wr M b (upd (fr_ct M b) k x) = M') (kk : fr_V Y K q L st M') : fr_V Y K pc L (.int x :: .ref b :: st) M :=
  fr_pf F hd hq hf rfl rfl hb hs ho hM kk
theorem fr_pfZ {b idx ci k : Nat} {x : Bool} {fs : List (Option Nat)} (F : fr_F Y K) (hd : decode Y.2.1 pc = .ok (.putfield idx, 3)) (hq : pc + 3 = q) (hf : fr_fp Y.1.cls idx ci k .boolean) (hb : b < 67) (hs : fr_sh b = .inl (ci, fs)) (ho : fs[k]? = some none) (hM : fr_wr M b (upd (fr_ct M b) k (fr_b x)) = M') (kk : fr_V Y K q L st M') : fr_V Y K pc L (.int (fr_b x) :: .ref b :: st) M :=
  fr_pf F hd hq hf (fr_bool x) (fr_boolf x) hb hs ho hM kk
theorem fr_ial {b n : Nat} {i x : Int32} (F : fr_F Y K) (hd : decode Y.2.1 pc = .ok (.iaload, 1)) (hq : pc + 1 = q) (hin : vp_in i n) (hb : b < 67) (hs : fr_sh b = .inr (0, n)) (hx : fr_ct M b i.toNatClampNeg = x) (kk : fr_V Y K q L (.int x :: st) M) : fr_V Y K pc L (.int i :: .ref b :: st) M := by
  subst hq; subst hx
  obtain ⟨p, l, e, R, s, m, args, below, meth, c, cells, slots, Q, G, A⟩ := K
  intro H locs ls hP hS hl
  exact va_iald (cA := fr_gI G) (n := n) (f := fr_ct M b) F.1 F.2.1 F.2.2.2.2.2.2.2.1 hP b 0 (by rw [fr_ws_at hb, hs]; rfl) rfl hin hd (kk H locs ls hP hS hl)
theorem fr_zal {b n : Nat} {i x : Int32} (F : fr_F Y K) (hd : decode Y.2.1 pc = .ok (.baload, 1)) (hq : pc + 1 = q) (hin : vp_in i n) (hb : b < 67) (hs : fr_sh b = .inr (1, n)) (hx : fr_ct M b i.toNatClampNeg = x) (kk : fr_V Y K q L (.int x :: st) M) : fr_V Y K pc L (.int i :: .ref b :: st) M := by
  subst hq; subst hx
  obtain ⟨p, l, e, R, s, m, args, below, meth, c, cells, slots, Q, G, A⟩ := K
  intro H locs ls hP hS hl
  exact va_zald (cA := fr_gZ G) (n := n) (f := fr_ct M b) F.1 F.2.1 F.2.2.2.2.2.2.2.1 hP b 1 (by rw [fr_ws_at hb, hs]; rfl) rfl hin hd (kk H locs ls hP hS hl)
theorem fr_ias {b n : Nat} {i x : Int32} (F : fr_F Y K) (hd : decode Y.2.1 pc = .ok (.iastore, 1)) (hq : pc + 1 = q) (hin : vp_in i n) (hb : b < 67) (hs : fr_sh b = .inr (0, n)) (hM : fr_wr M b (upd (fr_ct M b) i.toNatClampNeg x) = M') (kk : fr_V Y K q L st M') : fr_V Y K pc L (.int x :: .int i :: .ref b :: st) M := by
  subst hq; subst hM
  obtain ⟨p, l, e, R, s, m, args, below, meth, c, cells, slots, Q, G, A⟩ := K
  intro H locs ls hP hS hl
  refine va_iast (cA := fr_gI G) (n := n) (f := fr_ct M b) F.1 F.2.1 F.2.2.2.2.2.2.2.1 hP (F.2.2.2.2.2.2.2.2.1 M) hS b 0 (by rw [fr_ws_at hb, hs]; rfl) rfl hin hd (fun H1 locs1 hP1 _ hS1 => ?_)
  rw [fr_ws_set (M' := fr_wr M b (upd (fr_ct M b) i.toNatClampNeg x)) hb (by rw [fr_ct_wr, hs]; rfl) (fun j hj => fr_ct_wr_ne hj)] at hP1
  exact kk H1 locs1 ls hP1 hS1 hl
theorem fr_zas {b n : Nat} {i : Int32} {x : Bool} (F : fr_F Y K) (hd : decode Y.2.1 pc = .ok (.bastore, 1)) (hq : pc + 1 = q) (hin : vp_in i n) (hb : b < 67) (hs : fr_sh b = .inr (1, n)) (hM : fr_wr M b (upd (fr_ct M b) i.toNatClampNeg (fr_b x)) = M') (kk : fr_V Y K q L st M') : fr_V Y K pc L (.int (fr_b x) :: .int i :: .ref b :: st) M := by
  subst hq; subst hM
  obtain ⟨p, l, e, R, s, m, args, below, meth, c, cells, slots, Q, G, A⟩ := K
  intro H locs ls hP hS hl
  refine va_zast (cA := fr_gZ G) (n := n) (f := fr_ct M b) F.1 F.2.1 F.2.2.2.2.2.2.2.1 hP (F.2.2.2.2.2.2.2.2.1 M) hS b 1 (by rw [fr_ws_at hb, hs]; rfl) rfl hin hd (fun H1 locs1 hP1 _ hS1 => ?_)
  rw [fr_booln] at hP1
  rw [fr_ws_set (M' := fr_wr M b (upd (fr_ct M b) i.toNatClampNeg (fr_b x))) hb (by rw [fr_ct_wr, hs]; rfl) (fun j hj => fr_ct_wr_ne hj)] at hP1
  exact kk H1 locs1 ls hP1 hS1 hl
theorem fr_len {b kd n : Nat} {x : Int32} (F : fr_F Y K) (hd : decode Y.2.1 pc = .ok (.arraylength, 1)) (hq : pc + 1 = q) (hb : b < 67) (hs : fr_sh b = .inr (0, n)) (hx : Int32.ofNat n = x) (kk : fr_V Y K q L (.int x :: st) M) : fr_V Y K pc L (.ref b :: st) M := by
  subst hq
  obtain ⟨p, l, e, R, s, m, args, below, meth, c, cells, slots, Q, G, A⟩ := K
  intro H locs ls hP hS hl
  exact va_alen (cA := fr_gI G) (x := (n, .inl (fr_ct M b))) (ty := .int) F.1 F.2.1 F.2.2.2.2.2.2.2.1 hP b 0 (by rw [fr_ws_at hb, hs]; rfl) rfl hx hd (kk H locs ls hP hS hl)
/-- the row of the two images -/
theorem fr_aal {b n : Nat} {i : Int32} {j : Nat} (F : fr_F Y K) (hd : decode Y.2.1 pc = .ok (.aaload, 1)) (hq : pc + 1 = q) (hin : vp_in i n) (hb : b < 67) (hs : fr_sh b = .inr (2, n)) (hj : 18 + 8 * i.toNatClampNeg = j) (kk : fr_V Y K q L (.ref j :: st) M) : fr_V Y K pc L (.int i :: .ref b :: st) M := by
  subst hq; subst hj
  obtain ⟨p, l, e, R, s, m, args, below, meth, c, cells, slots, Q, G, A⟩ := K
  intro H locs ls hP hS hl
  exact va_aldq (cA := fr_gB G) (C := RX1) (n := n) (f := fun j => some (fr_ad G (18 + 8 * j))) F.1 F.2.1 F.2.2.2.2.2.2.2.1 hP b 2 (by rw [fr_ws_at hb, hs]; rfl) rfl hin hd (kk H locs ls hP hS hl)
/-- the class's tables: k 0, 1, 2 -/
def fr_tn (k : Nat) : String := match k with
  | 0 => "LEAST_LAW"
  | 1 => "GREATEST_LAW"
  | _ => "SERVICES_BY_RANK"
def fr_tv (k : Nat) : Nat → Int32 := match k with
  | 0 => fr_tb1
  | 1 => fr_tb2
  | _ => fr_tb3
theorem fr_St.z {G : fr_G} {A : Nat → Prop} {U : State} {H : Heap} (h : fr_St G A U H) {k : Nat} (hk : k < 3) : va_Z RX7 (fr_tn k) "[I" (.ref (fr_ad G (67 + k))) A U H := by
  match k, hk with
  | 0, _ => exact h.1
  | 1, _ => exact h.2.1
  | 2, _ => exact h.2.2.1
theorem fr_St.t {G : fr_G} {A : Nat → Prop} {U : State} {H : Heap} (h : fr_St G A U H) {k : Nat} (hk : k < 3) : va_T .int (fr_ad G (67 + k)) 6 (fun j => .int (fr_tv k j)) A U H := by
  match k, hk with
  | 0, _ => exact h.2.2.2.1
  | 1, _ => exact h.2.2.2.2.1
  | 2, _ => exact h.2.2.2.2.2
theorem fr_gs {idx k j : Nat} (F : fr_F Y K) (hd : decode Y.2.1 pc = .ok (.getstatic idx, 3)) (hq : pc + 3 = q) (hk : k < 3) (hw : Cond.fieldLink Y.1.cls idx RX7 (fr_tn k) "[I" ∈ fr_tb) (hj : 67 + k = j) (kk : fr_V Y K q L (.ref j :: st) M) : fr_V Y K pc L st M := by
  subst hq; subst hj
  obtain ⟨p, l, e, R, s, m, args, below, meth, c, cells, slots, Q, G, A⟩ := K
  intro H locs ls hP hS hl
  exact va_gets F.1 F.2.1 (F.2.2.2.2.2.2.2.2.2.1.z hk) hS F.2.2.2.1 (F.2.2.2.2.1 _ hw) (fun x h => h) hd (kk H locs ls hP hS hl)
theorem fr_gsN {idx k j : Nat} (F : fr_F Y K) (hd : decode Y.2.1 pc = .ok (.getstatic idx, 3)) (hq : pc + 3 = q) (hk : k < 3) (hw : (Y.1.cls, idx, fr_tn k) ∈ fr_nf) (hj : 67 + k = j) (kk : fr_V Y K q L (.ref j :: st) M) : fr_V Y K pc L st M := by
  subst hq; subst hj
  obtain ⟨p, l, e, R, s, m, args, below, meth, c, cells, slots, Q, G, A⟩ := K
  intro H locs ls hP hS hl
  exact va_getsN (host := RX7) F.1 F.2.1 (F.2.2.2.2.2.2.2.2.2.1.z hk) hS F.2.2.2.1 (va_Nw.use rfl (F.2.2.2.2.2.2.2.2.2.2.2 _ hw)) (fun x h => h) hd (kk H locs ls hP hS hl)
theorem fr_tal {k j : Nat} {i x : Int32} (F : fr_F Y K) (hd : decode Y.2.1 pc = .ok (.iaload, 1)) (hq : pc + 1 = q) (hin : vp_in i 6) (hk : k < 3) (hj : 67 + k = j) (hx : fr_tv k i.toNatClampNeg = x) (kk : fr_V Y K q L (.int x :: st) M) : fr_V Y K pc L (.int i :: .ref j :: st) M := by
  subst hq; subst hj; subst hx
  obtain ⟨p, l, e, R, s, m, args, below, meth, c, cells, slots, Q, G, A⟩ := K
  intro H locs ls hP hS hl
  exact va_ti F.1 F.2.1 (F.2.2.2.2.2.2.2.2.2.1.t hk) hS hin rfl hd (kk H locs ls hP hS hl)
theorem fr_tln {k j : Nat} (F : fr_F Y K) (hd : decode Y.2.1 pc = .ok (.arraylength, 1)) (hq : pc + 1 = q) (hk : k < 3) (hj : 67 + k = j) (kk : fr_V Y K q L (.int 6 :: st) M) : fr_V Y K pc L (.ref j :: st) M := by
  subst hq; subst hj
  obtain ⟨p, l, e, R, s, m, args, below, meth, c, cells, slots, Q, G, A⟩ := K
  intro H locs ls hP hS hl
  exact va_tlen F.1 F.2.1 (F.2.2.2.2.2.2.2.2.2.1.t hk) hS rfl hd (kk H locs ls hP hS hl)
/-- Math.max, Math.min -/
def fr_mw (y : MethodName) (b : ByteArray) : Prop := Cond.static y ∈ fr_tb ∧ Cond.initialized "java/lang/Math" ∈ fr_tb ∧ Cond.code y b 2 (some .int) ∈ fr_tb
theorem fr_max {idx : Nat} {x y : Int32} (F : fr_F Y K) (hd : decode Y.2.1 pc = .ok (.invokestatic idx, 3)) (hq : pc + 3 = q) (hw : Cond.methodLink Y.1.cls idx Lib.Math.max.name ∈ fr_tb) (hm : fr_mw Lib.Math.max.name Lib.Math.max.code) (hr : 1 ≤ Y.2.2.2.2.frames ∧ (st.map fun v => v.category).sum + 13 ≤ Y.2.2.2.2.locals) (kk : fr_V Y K q L (.int (if x < y then y else x) :: st) M) : fr_V Y K pc L (.int y :: .int x :: st) M := by
  subst hq
  obtain ⟨p, l, e, R, s, m, args, below, meth, c, cells, slots, Q, G, A⟩ := K
  intro H locs ls hP hS hl
  have hR := F.2.2.2.2.2.1
  refine va_mmax F.1 F.2.1 (F.2.2.1.trans hl.1.symm) F.2.2.2.1 (F.2.2.2.2.1 _ hw) (F.2.2.2.2.1 _ hm.1) (F.2.2.2.2.1 _ hm.2.1) (F.2.2.2.2.1 _ hm.2.2) (by rw [hR]; exact hr.1) (Nat.le_trans (Nat.le_of_eq (congrArg (fun z => z + 13) (fr_sum G st))) (by rw [hR]; exact hr.2)) F.2.2.2.2.2.2.1.1 F.2.2.2.2.2.2.1.2 hd (kk H locs ls hP hS hl)
theorem fr_min {idx : Nat} {x y : Int32} (F : fr_F Y K) (hd : decode Y.2.1 pc = .ok (.invokestatic idx, 3)) (hq : pc + 3 = q) (hw : Cond.methodLink Y.1.cls idx Lib.Math.min.name ∈ fr_tb) (hm : fr_mw Lib.Math.min.name Lib.Math.min.code) (hr : 1 ≤ Y.2.2.2.2.frames ∧ (st.map fun v => v.category).sum + 13 ≤ Y.2.2.2.2.locals) (kk : fr_V Y K q L (.int (if y < x then y else x) :: st) M) : fr_V Y K pc L (.int y :: .int x :: st) M := by
  subst hq
  obtain ⟨p, l, e, R, s, m, args, below, meth, c, cells, slots, Q, G, A⟩ := K
  intro H locs ls hP hS hl
  have hR := F.2.2.2.2.2.1
  refine va_mmin F.1 F.2.1 (F.2.2.1.trans hl.1.symm) F.2.2.2.1 (F.2.2.2.2.1 _ hw) (F.2.2.2.2.1 _ hm.1) (F.2.2.2.2.1 _ hm.2.1) (F.2.2.2.2.1 _ hm.2.2) (by rw [hR]; exact hr.1) (Nat.le_trans (Nat.le_of_eq (congrArg (fun z => z + 13) (fr_sum G st))) (by rw [hR]; exact hr.2)) F.2.2.2.2.2.2.1.1 F.2.2.2.2.2.2.1.2 hd (kk H locs ls hP hS hl)
/-- System.arraycopy between two rows of numbers -/
def fr_aw : Prop := Cond.native arraycopyName ∈ fr_tb ∧ Cond.static arraycopyName ∈ fr_tb ∧ Cond.initialized "java/lang/System" ∈ fr_tb
theorem fr_acp {idx b0 b1 n0 n1 : Nat} {sp dp n : Int32} (F : fr_F Y K) (hd : decode Y.2.1 pc = .ok (.invokestatic idx, 3)) (hq : pc + 3 = q) (hw : Cond.methodLink Y.1.cls idx arraycopyName ∈ fr_tb) (hm : fr_aw) (hb0 : b0 < 67) (hs0 : fr_sh b0 = .inr (0, n0)) (hb1 : b1 < 67) (hs1 : fr_sh b1 = .inr (0, n1)) (h1 : ¬ sp < 0) (h2 : ¬ dp < 0) (h3 : ¬ n < 0) (h4 : sp.toNatClampNeg + n.toNatClampNeg ≤ n0) (h5 : dp.toNatClampNeg + n.toNatClampNeg ≤ n1)
    (hr : 1 ≤ Y.2.2.2.2.frames ∧ (st.map fun v => v.category).sum + (nativeFrameWords "java/lang/System" "arraycopy" 5 + 11) ≤ Y.2.2.2.2.locals) (hM : fr_wr M b1 (va_cpy (fr_ct M b0) (fr_ct M b1) sp.toNatClampNeg dp.toNatClampNeg n.toNatClampNeg) = M') (kk : fr_V Y K q L st M') : fr_V Y K pc L (.int n :: .int dp :: .ref b1 :: .int sp :: .ref b0 :: st) M := by
  subst hq; subst hM
  obtain ⟨p, l, e, R, s, m, args, below, meth, c, cells, slots, Q, G, A⟩ := K
  intro H locs ls hP hS hl
  have hR := F.2.2.2.2.2.1
  refine va_copyi (c0 := fr_gI G) (c1 := fr_gI G) (n0 := n0) (n1 := n1) (f := fr_ct M b0) (g := fr_ct M b1) (ty := .int) F.1 F.2.1 (F.2.2.1.trans hl.1.symm) F.2.2.2.1 (F.2.2.2.2.1 _ hw) (F.2.2.2.2.1 _ hm.1) (F.2.2.2.2.1 _ hm.2.1) (F.2.2.2.2.1 _ hm.2.2) F.2.2.2.2.2.2.2.1 hP (F.2.2.2.2.2.2.2.2.1 M) hS b0 b1 0 0 (by rw [fr_ws_at hb0, hs0]; rfl) (by rw [fr_ws_at hb1, hs1]; rfl) rfl rfl rfl h1 h2 h3 h4 h5 (fun _ _ => rfl) (by rw [hR]; exact hr.1) (Nat.le_trans (Nat.le_of_eq (congrArg (fun z => z + (nativeFrameWords "java/lang/System" "arraycopy" 5 + 11)) (fr_sum G st))) (by rw [hR]; exact hr.2)) hd (fun H1 locs1 hP1 _ hS1 => ?_)
  rw [fr_ws_set (M' := fr_wr M b1 (va_cpy (fr_ct M b0) (fr_ct M b1) sp.toNatClampNeg dp.toNatClampNeg n.toNatClampNeg)) hb1 (by rw [fr_ct_wr, hs1]; rfl) (fun j hj => fr_ct_wr_ne hj)] at hP1
  exact kk H1 locs1 ls hP1 hS1 hl
end FRH
