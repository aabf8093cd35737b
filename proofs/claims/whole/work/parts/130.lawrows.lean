def R_law : String := "FeastRotaLaw"
def lw_P (b : Addr) (xs : List Int32) (args : Array Value) (s : State) : Prop := args = #[.ref b] ∧ s.IntsAt b xs ∧ xs.length ≤ 2560 ∧ (Jvm.Cond.and given_1 narrow_1).before args s = true
def lw_Q (_ : Array Value) (s : State) (o : Outcome) (t : State) : Prop := o = .returned (some (.int 1)) ∧ Framed s o t [] 600000 7302250
def lw_Z (below : List Frame) (a : Array Value) (s : State) : State → Prop := fun t => ∃ o, t.status = .running ∧ Ended t below o ∧ lw_Q a s o t
/-- the law's own end, with 1 on the stack, nothing written that was there before, its room as the claim has it -/
theorem lw_ret {p : Program} {l : Launch} {e : Env} {s : State} {m : MethodId} {below : List Frame} {meth : Method} {c : Code} {b : Nat} (hx : p.tables.exec = Jvm.exec) (hb : c.code = code) (hr : meth.sig.returnType = ret) (hlocks : meth.locks = false) {pc : Nat} {H : Heap} {ls : Array Slot} (hdg : decode code pc = .ok (.ireturn, 1)) : W p l e room_1 s m #[Value.ref b] below meth c H [] 600000 7302250 (lw_Z below #[Value.ref b] s) (F0 m pc ls [.int 1]) := by
  intro T hT X
  obtain ⟨fs, hret, hrun, hended, hW, hframe⟩ := X.leave (v := some (.int 1)) (hlocks := hlocks) (fun h => by rw [hr] at h; cases h)
  have hmeth' : T.vm.method? m = some meth := X.method'
  refine ⟨T.setFrames fs, ?_, .returned (some (.int 1)), hrun, hended, rfl, ⟨_, rfl⟩, hW, hframe⟩
  jvm_step X.here [X.here.top, hx, hb, hdg, hmeth', hr, ret, narrow_b1]
  (try refine ⟨rfl, ?_⟩); (try refine ⟨rfl, ?_⟩)
  first | (intro acts; rw [hret _ acts rfl rfl rfl]) | rw [hret _ _ rfl rfl rfl]
  exact Steps.refl _
/-- what holds at the law's entry: the machine, the code, the tables' words (any of lw_tbl by 'hts w (by decide +kernel)'), the script of L ints xs at the cell b, what the Statement gives of the start (any of its parts by flat_of_before) -/
def lw_At (p : Program) (s : State) (m : MethodId) (meth : Method) (c : Code) (b L : Nat) (xs : Nat → Int32) : Prop :=
  p.tables.exec = Jvm.exec ∧ c.code = code ∧ meth.sig.returnType = ret ∧ c.maxLocals = 4 ∧ s.vm.findClass R_law = some m.cls ∧ (∀ w ∈ lw_tbl, w.before #[Value.ref b] s = true) ∧ va_X b L xs s s.heap ∧ b < s.heap.size ∧ meth.locks = false ∧ (Jvm.Cond.and given_1 narrow_1).before #[Value.ref b] s = true
/-! THE LAW's loop -/
def Y_law : fr_Y := (yL_law, cL_law, 4, some .boolean, room_1)
/-- the script: a row that nobody writes -/
def fr_X (K : fr_K) (gL : Nat) (xs : Nat → Int32) : Prop := va_X (fr_ad (fr_kG K) 70) gL xs (fr_ks K) (fr_ks K).heap ∧ fr_ad (fr_kG K) 70 < (fr_ks K).heap.size ∧ ¬ fr_kA K (fr_ad (fr_kG K) 70)
/-- the law's end -/
def fr_E (K : fr_K) : Prop := match K with
  | (_, _, _, R, s, _, args, below, meth, _, cells, slots, Q, _, A) => (∃ b : Nat, args = #[Value.ref b] ∧ Q = lw_Z below #[Value.ref b] s) ∧ R = room_1 ∧ meth.locks = false ∧ meth.sig.returnType = ret ∧ cells = 600000 ∧ slots = 7302250 ∧ A = (fun q => s.heap.size ≤ q)
section FRL
variable {K : fr_K} {pc q : Nat} {L : List (Option Value)} {st : List Value} {M : fr_M} {gL : Nat} {xs : Nat → Int32}
theorem fr_sal {i : Int32} (F : fr_F Y_law K) (X : fr_X K gL xs) (hin : vp_in i gL) (hd : decode Y_law.2.1 pc = .ok (.iaload, 1)) (hq : pc + 1 = q) (k : fr_V Y_law K q L (.int (xs i.toNatClampNeg) :: st) M) : fr_V Y_law K pc L (.int i :: .ref 70 :: st) M := by
  subst hq
  obtain ⟨p, l, e, R, s, m, args, below, meth, c, cells, slots, Q, G, A⟩ := K
  intro H locs ls hP hS hl
  exact va_sld F.1 F.2.1 X.1 X.2.1 X.2.2 hS hin hd (k H locs ls hP hS hl)
theorem fr_sln (F : fr_F Y_law K) (X : fr_X K gL xs) (hd : decode Y_law.2.1 pc = .ok (.arraylength, 1)) (hq : pc + 1 = q) (k : fr_V Y_law K q L (.int (Int32.ofNat gL) :: st) M) : fr_V Y_law K pc L (.ref 70 :: st) M := by
  subst hq
  obtain ⟨p, l, e, R, s, m, args, below, meth, c, cells, slots, Q, G, A⟩ := K
  intro H locs ls hP hS hl
  exact va_slen F.1 F.2.1 X.1 X.2.1 X.2.2 hS hd (k H locs ls hP hS hl)
theorem fr_lret (F : fr_F Y_law K) (E : fr_E K) (hd : decode Y_law.2.1 pc = .ok (.ireturn, 1)) : fr_V Y_law K pc L [.int 1] M := by
  obtain ⟨p, l, e, R, s, m, args, below, meth, c, cells, slots, Q, G, A⟩ := K
  obtain ⟨⟨b, rfl, rfl⟩, rfl, hlk, hrt, rfl, rfl, rfl⟩ := E
  intro H locs ls hP hS hl
  exact va_forget (fun q hq => hS.2.2 q hq) (lw_ret F.1 F.2.1 hrt hlk hd)
end FRL
theorem mlL_13 : Cond.methodLink RL 13 yX7_feed ∈ fr_tb := fr_in (i := 340) (by decide +kernel) rfl
theorem mlL_17 : Cond.methodLink RL 17 yX8_feed ∈ fr_tb := fr_in (i := 867) (by decide +kernel) rfl
theorem mlL_18 : Cond.methodLink RL 18 yX7_book ∈ fr_tb := fr_in (i := 353) (by decide +kernel) rfl
theorem mlL_22 : Cond.methodLink RL 22 yX8_book ∈ fr_tb := fr_in (i := 877) (by decide +kernel) rfl
theorem mlL_23 : Cond.methodLink RL 23 yX7_fault ∈ fr_tb := fr_in (i := 456) (by decide +kernel) rfl
theorem mlL_26 : Cond.methodLink RL 26 yX8_fault ∈ fr_tb := fr_in (i := 939) (by decide +kernel) rfl
theorem mlL_27 : Cond.methodLink RL 27 yX7_undo ∈ fr_tb := fr_in (i := 460) (by decide +kernel) rfl
theorem mlL_30 : Cond.methodLink RL 30 yX8_undo ∈ fr_tb := fr_in (i := 943) (by decide +kernel) rfl
theorem mlL_31 : Cond.methodLink RL 31 yX7_alter ∈ fr_tb := fr_in (i := 473) (by decide +kernel) rfl
theorem mlL_35 : Cond.methodLink RL 35 yX8_alter ∈ fr_tb := fr_in (i := 948) (by decide +kernel) rfl
theorem mlL_36 : Cond.methodLink RL 36 yX7_add ∈ fr_tb := fr_in (i := 501) (by decide +kernel) rfl
theorem mlL_40 : Cond.methodLink RL 40 yX8_add ∈ fr_tb := fr_in (i := 976) (by decide +kernel) rfl
theorem mlL_41 : Cond.methodLink RL 41 yX7_law ∈ fr_tb := fr_in (i := 506) (by decide +kernel) rfl
theorem mlL_45 : Cond.methodLink RL 45 yX8_law ∈ fr_tb := fr_in (i := 984) (by decide +kernel) rfl
theorem mlL_46 : Cond.methodLink RL 46 yX7_away ∈ fr_tb := fr_in (i := 512) (by decide +kernel) rfl
theorem mlL_49 : Cond.methodLink RL 49 yX8_away ∈ fr_tb := fr_in (i := 996) (by decide +kernel) rfl
theorem mlL_50 : Cond.methodLink RL 50 yX7_feast ∈ fr_tb := fr_in (i := 520) (by decide +kernel) rfl
theorem mlL_53 : Cond.methodLink RL 53 yX8_feast ∈ fr_tb := fr_in (i := 1005) (by decide +kernel) rfl
theorem mlL_54 : Cond.methodLink RL 54 yX7_year ∈ fr_tb := fr_in (i := 524) (by decide +kernel) rfl
theorem mlL_57 : Cond.methodLink RL 57 yX8_year ∈ fr_tb := fr_in (i := 1009) (by decide +kernel) rfl
theorem mlL_58 : Cond.methodLink RL 58 yX7_day ∈ fr_tb := fr_in (i := 657) (by decide +kernel) rfl
theorem mlL_61 : Cond.methodLink RL 61 yX8_day ∈ fr_tb := fr_in (i := 1118) (by decide +kernel) rfl
theorem mlL_62 : Cond.methodLink RL 62 yX7_held ∈ fr_tb := fr_in (i := 688) (by decide +kernel) rfl
theorem mlL_65 : Cond.methodLink RL 65 yX8_held ∈ fr_tb := fr_in (i := 1134) (by decide +kernel) rfl
theorem mlL_66 : Cond.methodLink RL 66 yX7_psalm ∈ fr_tb := fr_in (i := 692) (by decide +kernel) rfl
theorem mlL_69 : Cond.methodLink RL 69 yX8_psalm ∈ fr_tb := fr_in (i := 1138) (by decide +kernel) rfl
theorem mlL_70 : Cond.methodLink RL 70 yX7_read ∈ fr_tb := fr_in (i := 706) (by decide +kernel) rfl
theorem mlL_73 : Cond.methodLink RL 73 yX8_read ∈ fr_tb := fr_in (i := 1146) (by decide +kernel) rfl
theorem mlL_74 : Cond.methodLink RL 74 yX7_sings ∈ fr_tb := fr_in (i := 714) (by decide +kernel) rfl
theorem mlL_77 : Cond.methodLink RL 77 yX8_sings ∈ fr_tb := fr_in (i := 1150) (by decide +kernel) rfl
theorem mlL_78 : Cond.methodLink RL 78 yX7_duties ∈ fr_tb := fr_in (i := 718) (by decide +kernel) rfl
theorem mlL_81 : Cond.methodLink RL 81 yX8_duties ∈ fr_tb := fr_in (i := 1154) (by decide +kernel) rfl
theorem mlL_82 : Cond.methodLink RL 82 yX7_fair ∈ fr_tb := fr_in (i := 722) (by decide +kernel) rfl
theorem mlL_85 : Cond.methodLink RL 85 yX8_fair ∈ fr_tb := fr_in (i := 1158) (by decide +kernel) rfl
theorem mlL_86 : Cond.methodLink RL 86 yX7_meet ∈ fr_tb := fr_in (i := 731) (by decide +kernel) rfl
theorem mlL_89 : Cond.methodLink RL 89 yX8_meet ∈ fr_tb := fr_in (i := 1166) (by decide +kernel) rfl
theorem mlL_90 : Cond.methodLink RL 90 yX7_springs ∈ fr_tb := fr_in (i := 741) (by decide +kernel) rfl
theorem mlL_93 : Cond.methodLink RL 93 yX8_springs ∈ fr_tb := fr_in (i := 1170) (by decide +kernel) rfl
theorem mlL_94 : Cond.methodLink RL 94 yX7_often ∈ fr_tb := fr_in (i := 750) (by decide +kernel) rfl
theorem mlL_97 : Cond.methodLink RL 97 yX8_often ∈ fr_tb := fr_in (i := 1174) (by decide +kernel) rfl
theorem mlL_98 : Cond.methodLink RL 98 yX7_enough ∈ fr_tb := fr_in (i := 754) (by decide +kernel) rfl
theorem mlL_101 : Cond.methodLink RL 101 yX8_enough ∈ fr_tb := fr_in (i := 1179) (by decide +kernel) rfl
theorem mlL_102 : Cond.methodLink RL 102 yX7_best ∈ fr_tb := fr_in (i := 758) (by decide +kernel) rfl
theorem mlL_105 : Cond.methodLink RL 105 yX8_best ∈ fr_tb := fr_in (i := 1184) (by decide +kernel) rfl
theorem mlL_106 : Cond.methodLink RL 106 yX7_bars ∈ fr_tb := fr_in (i := 762) (by decide +kernel) rfl
theorem mlL_109 : Cond.methodLink RL 109 yX8_bars ∈ fr_tb := fr_in (i := 1188) (by decide +kernel) rfl
theorem mlL_110 : Cond.methodLink RL 110 yX7_image ∈ fr_tb := fr_in (i := 766) (by decide +kernel) rfl
theorem mlL_113 : Cond.methodLink RL 113 yX8_image ∈ fr_tb := fr_in (i := 1192) (by decide +kernel) rfl
theorem mlL_114 : Cond.methodLink RL 114 yX7_restore ∈ fr_tb := fr_in (i := 770) (by decide +kernel) rfl
theorem mlL_117 : Cond.methodLink RL 117 yX8_restore ∈ fr_tb := fr_in (i := 1196) (by decide +kernel) rfl
theorem mlL_118 : Cond.methodLink RL 118 yX7_count ∈ fr_tb := fr_in (i := 774) (by decide +kernel) rfl
theorem mlL_121 : Cond.methodLink RL 121 yX8_count ∈ fr_tb := fr_in (i := 1200) (by decide +kernel) rfl
