section
-- ===== PART A: goes FIRST, ahead of the names: the tables' words, and 'selects' of the private methods out of them =====
/-- a private method of a class that the tables say can be made, by its rows of tables_1 -/
def lw_okq (q : MethodName × Nat) : Prop := (q.1.cls ≠ "java/lang/invoke/MethodHandle" ∧ q.1.cls ≠ "java/lang/invoke/VarHandle") ∧ Cond.instantiable q.1.cls q.2 ∈ tables_1 ∧ Cond.privateMethod q.1 ∈ tables_1 ∧ Cond.instanceMethod q.1 ∈ tables_1
theorem lw_p0 : lw_okq (⟨"FeastRota$Reader", "head", "()Z"⟩, 6) := ⟨⟨by decide +kernel, by decide +kernel⟩, List.mem_of_getElem? (i := 157) (by decide +kernel), List.mem_of_getElem? (i := 295) (by decide +kernel), List.mem_of_getElem? (i := 296) (by decide +kernel)⟩
theorem lw_p1 : lw_okq (⟨"FeastRota$Reader", "sign", "(I)Z"⟩, 6) := ⟨⟨by decide +kernel, by decide +kernel⟩, List.mem_of_getElem? (i := 157) (by decide +kernel), List.mem_of_getElem? (i := 299) (by decide +kernel), List.mem_of_getElem? (i := 300) (by decide +kernel)⟩
theorem lw_p2 : lw_okq (⟨"FeastRota$Reader", "fails", "(I)Z"⟩, 6) := ⟨⟨by decide +kernel, by decide +kernel⟩, List.mem_of_getElem? (i := 157) (by decide +kernel), List.mem_of_getElem? (i := 308) (by decide +kernel), List.mem_of_getElem? (i := 309) (by decide +kernel)⟩
theorem lw_p3 : lw_okq (⟨"FeastRota$Reader", "lawNumber", "(II)Z"⟩, 6) := ⟨⟨by decide +kernel, by decide +kernel⟩, List.mem_of_getElem? (i := 157) (by decide +kernel), List.mem_of_getElem? (i := 312) (by decide +kernel), List.mem_of_getElem? (i := 313) (by decide +kernel)⟩
theorem lw_p4 : lw_okq (⟨"FeastRota$Reader", "number", "(III)Z"⟩, 6) := ⟨⟨by decide +kernel, by decide +kernel⟩, List.mem_of_getElem? (i := 157) (by decide +kernel), List.mem_of_getElem? (i := 321) (by decide +kernel), List.mem_of_getElem? (i := 322) (by decide +kernel)⟩
theorem lw_p5 : lw_okq (⟨"FeastRota$Reader", "bareNumber", "(II)Z"⟩, 6) := ⟨⟨by decide +kernel, by decide +kernel⟩, List.mem_of_getElem? (i := 157) (by decide +kernel), List.mem_of_getElem? (i := 325) (by decide +kernel), List.mem_of_getElem? (i := 326) (by decide +kernel)⟩
theorem lw_p6 : lw_okq (⟨"FeastRota$Reader", "feasts", "()Z"⟩, 6) := ⟨⟨by decide +kernel, by decide +kernel⟩, List.mem_of_getElem? (i := 157) (by decide +kernel), List.mem_of_getElem? (i := 329) (by decide +kernel), List.mem_of_getElem? (i := 330) (by decide +kernel)⟩
theorem lw_p7 : lw_okq (⟨"FeastRota$Reader", "oneFeast", "(I)Z"⟩, 6) := ⟨⟨by decide +kernel, by decide +kernel⟩, List.mem_of_getElem? (i := 157) (by decide +kernel), List.mem_of_getElem? (i := 337) (by decide +kernel), List.mem_of_getElem? (i := 338) (by decide +kernel)⟩
theorem lw_p8 : lw_okq (⟨"FeastRota$Reader", "seasons", "()Z"⟩, 6) := ⟨⟨by decide +kernel, by decide +kernel⟩, List.mem_of_getElem? (i := 157) (by decide +kernel), List.mem_of_getElem? (i := 351) (by decide +kernel), List.mem_of_getElem? (i := 352) (by decide +kernel)⟩
theorem lw_p9 : lw_okq (⟨"FeastRota$Reader", "oneSeason", "()Z"⟩, 6) := ⟨⟨by decide +kernel, by decide +kernel⟩, List.mem_of_getElem? (i := 157) (by decide +kernel), List.mem_of_getElem? (i := 355) (by decide +kernel), List.mem_of_getElem? (i := 356) (by decide +kernel)⟩
theorem lw_p10 : lw_okq (⟨"FeastRota$Reader", "psalter", "()Z"⟩, 6) := ⟨⟨by decide +kernel, by decide +kernel⟩, List.mem_of_getElem? (i := 157) (by decide +kernel), List.mem_of_getElem? (i := 363) (by decide +kernel), List.mem_of_getElem? (i := 364) (by decide +kernel)⟩
theorem lw_p11 : lw_okq (⟨"FeastRota$Reader", "choirs", "()Z"⟩, 6) := ⟨⟨by decide +kernel, by decide +kernel⟩, List.mem_of_getElem? (i := 157) (by decide +kernel), List.mem_of_getElem? (i := 367) (by decide +kernel), List.mem_of_getElem? (i := 368) (by decide +kernel)⟩
theorem lw_p12 : lw_okq (⟨"FeastRota$Reader", "end", "()Z"⟩, 6) := ⟨⟨by decide +kernel, by decide +kernel⟩, List.mem_of_getElem? (i := 157) (by decide +kernel), List.mem_of_getElem? (i := 371) (by decide +kernel), List.mem_of_getElem? (i := 372) (by decide +kernel)⟩
theorem lw_p13 : lw_okq (⟨"FeastRota$Acts", "forgetOldest", "()V"⟩, 5) := ⟨⟨by decide +kernel, by decide +kernel⟩, List.mem_of_getElem? (i := 185) (by decide +kernel), List.mem_of_getElem? (i := 423) (by decide +kernel), List.mem_of_getElem? (i := 424) (by decide +kernel)⟩
theorem lw_p14 : lw_okq (⟨"FeastRota$Calendar", "unboundDay", "(II)I"⟩, 4) := ⟨⟨by decide +kernel, by decide +kernel⟩, List.mem_of_getElem? (i := 105) (by decide +kernel), List.mem_of_getElem? (i := 499) (by decide +kernel), List.mem_of_getElem? (i := 500) (by decide +kernel)⟩
theorem lw_p15 : lw_okq (⟨"FeastRota$Plan", "settleAll", "(II)V"⟩, 6) := ⟨⟨by decide +kernel, by decide +kernel⟩, List.mem_of_getElem? (i := 103) (by decide +kernel), List.mem_of_getElem? (i := 505) (by decide +kernel), List.mem_of_getElem? (i := 506) (by decide +kernel)⟩
def lw_privs_1 : List (MethodName × Nat) := [(⟨"FeastRota$Reader", "head", "()Z"⟩, 6), (⟨"FeastRota$Reader", "sign", "(I)Z"⟩, 6), (⟨"FeastRota$Reader", "fails", "(I)Z"⟩, 6), (⟨"FeastRota$Reader", "lawNumber", "(II)Z"⟩, 6), (⟨"FeastRota$Reader", "number", "(III)Z"⟩, 6), (⟨"FeastRota$Reader", "bareNumber", "(II)Z"⟩, 6), (⟨"FeastRota$Reader", "feasts", "()Z"⟩, 6), (⟨"FeastRota$Reader", "oneFeast", "(I)Z"⟩, 6), (⟨"FeastRota$Reader", "seasons", "()Z"⟩, 6), (⟨"FeastRota$Reader", "oneSeason", "()Z"⟩, 6), (⟨"FeastRota$Reader", "psalter", "()Z"⟩, 6), (⟨"FeastRota$Reader", "choirs", "()Z"⟩, 6), (⟨"FeastRota$Reader", "end", "()Z"⟩, 6), (⟨"FeastRota$Acts", "forgetOldest", "()V"⟩, 5), (⟨"FeastRota$Calendar", "unboundDay", "(II)I"⟩, 4), (⟨"FeastRota$Plan", "settleAll", "(II)V"⟩, 6)]
theorem lw_r1 : ∀ q ∈ lw_privs_1, lw_okq q := List.forall_mem_cons.mpr ⟨lw_p0, List.forall_mem_cons.mpr ⟨lw_p1, List.forall_mem_cons.mpr ⟨lw_p2, List.forall_mem_cons.mpr ⟨lw_p3, List.forall_mem_cons.mpr ⟨lw_p4, List.forall_mem_cons.mpr ⟨lw_p5, List.forall_mem_cons.mpr ⟨lw_p6, List.forall_mem_cons.mpr ⟨lw_p7, List.forall_mem_cons.mpr ⟨lw_p8, List.forall_mem_cons.mpr ⟨lw_p9, List.forall_mem_cons.mpr ⟨lw_p10, List.forall_mem_cons.mpr ⟨lw_p11, List.forall_mem_cons.mpr ⟨lw_p12, List.forall_mem_cons.mpr ⟨lw_p13, List.forall_mem_cons.mpr ⟨lw_p14, List.forall_mem_cons.mpr ⟨lw_p15, fun _ h => absurd h List.not_mem_nil⟩⟩⟩⟩⟩⟩⟩⟩⟩⟩⟩⟩⟩⟩⟩⟩
theorem lw_p16 : lw_okq (⟨"FeastRota$Plan", "settle", "(II)V"⟩, 6) := ⟨⟨by decide +kernel, by decide +kernel⟩, List.mem_of_getElem? (i := 103) (by decide +kernel), List.mem_of_getElem? (i := 509) (by decide +kernel), List.mem_of_getElem? (i := 510) (by decide +kernel)⟩
theorem lw_p17 : lw_okq (⟨"FeastRota$Plan", "isFree", "(I)Z"⟩, 6) := ⟨⟨by decide +kernel, by decide +kernel⟩, List.mem_of_getElem? (i := 103) (by decide +kernel), List.mem_of_getElem? (i := 513) (by decide +kernel), List.mem_of_getElem? (i := 514) (by decide +kernel)⟩
theorem lw_p18 : lw_okq (⟨"FeastRota$Plan", "hold", "(III)V"⟩, 6) := ⟨⟨by decide +kernel, by decide +kernel⟩, List.mem_of_getElem? (i := 103) (by decide +kernel), List.mem_of_getElem? (i := 519) (by decide +kernel), List.mem_of_getElem? (i := 520) (by decide +kernel)⟩
theorem lw_p19 : lw_okq (⟨"FeastRota$Plan", "firstFree", "(II)I"⟩, 6) := ⟨⟨by decide +kernel, by decide +kernel⟩, List.mem_of_getElem? (i := 103) (by decide +kernel), List.mem_of_getElem? (i := 526) (by decide +kernel), List.mem_of_getElem? (i := 527) (by decide +kernel)⟩
theorem lw_p20 : lw_okq (⟨"FeastRota$Rota", "dealOut", "(II)V"⟩, 8) := ⟨⟨by decide +kernel, by decide +kernel⟩, List.mem_of_getElem? (i := 208) (by decide +kernel), List.mem_of_getElem? (i := 561) (by decide +kernel), List.mem_of_getElem? (i := 562) (by decide +kernel)⟩
theorem lw_p21 : lw_okq (⟨"FeastRota$Rota", "choose", "(III)I"⟩, 8) := ⟨⟨by decide +kernel, by decide +kernel⟩, List.mem_of_getElem? (i := 208) (by decide +kernel), List.mem_of_getElem? (i := 567) (by decide +kernel), List.mem_of_getElem? (i := 568) (by decide +kernel)⟩
theorem lw_p22 : lw_okq (⟨"FeastRota$Rota", "goesAheadOf", "(III)Z"⟩, 8) := ⟨⟨by decide +kernel, by decide +kernel⟩, List.mem_of_getElem? (i := 208) (by decide +kernel), List.mem_of_getElem? (i := 576) (by decide +kernel), List.mem_of_getElem? (i := 577) (by decide +kernel)⟩
theorem lw_p23 : lw_okq (⟨"FeastRota$Rota", "give", "(I)V"⟩, 8) := ⟨⟨by decide +kernel, by decide +kernel⟩, List.mem_of_getElem? (i := 208) (by decide +kernel), List.mem_of_getElem? (i := 580) (by decide +kernel), List.mem_of_getElem? (i := 581) (by decide +kernel)⟩
theorem lw_p24 : lw_okq (⟨"FeastRota", "isDay", "(II)Z"⟩, 8) := ⟨⟨by decide +kernel, by decide +kernel⟩, List.mem_of_getElem? (i := 14) (by decide +kernel), List.mem_of_getElem? (i := 588) (by decide +kernel), List.mem_of_getElem? (i := 589) (by decide +kernel)⟩
theorem lw_p25 : lw_okq (⟨"FeastRota$Plan", "liesIn", "(III)Z"⟩, 6) := ⟨⟨by decide +kernel, by decide +kernel⟩, List.mem_of_getElem? (i := 103) (by decide +kernel), List.mem_of_getElem? (i := 601) (by decide +kernel), List.mem_of_getElem? (i := 602) (by decide +kernel)⟩
theorem lw_p26 : lw_okq (⟨"FeastRota$Plan", "isHeld", "(I)Z"⟩, 6) := ⟨⟨by decide +kernel, by decide +kernel⟩, List.mem_of_getElem? (i := 103) (by decide +kernel), List.mem_of_getElem? (i := 605) (by decide +kernel), List.mem_of_getElem? (i := 606) (by decide +kernel)⟩
theorem lw_p27 : lw_okq (⟨"FeastRotaModel", "reads", "()V"⟩, 27) := ⟨⟨by decide +kernel, by decide +kernel⟩, List.mem_of_getElem? (i := 707) (by decide +kernel), List.mem_of_getElem? (i := 812) (by decide +kernel), List.mem_of_getElem? (i := 813) (by decide +kernel)⟩
theorem lw_p28 : lw_okq (⟨"FeastRotaModel", "byteAt", "(I)I"⟩, 27) := ⟨⟨by decide +kernel, by decide +kernel⟩, List.mem_of_getElem? (i := 707) (by decide +kernel), List.mem_of_getElem? (i := 816) (by decide +kernel), List.mem_of_getElem? (i := 817) (by decide +kernel)⟩
theorem lw_p29 : lw_okq (⟨"FeastRotaModel", "readsAll", "()V"⟩, 27) := ⟨⟨by decide +kernel, by decide +kernel⟩, List.mem_of_getElem? (i := 707) (by decide +kernel), List.mem_of_getElem? (i := 824) (by decide +kernel), List.mem_of_getElem? (i := 825) (by decide +kernel)⟩
theorem lw_p30 : lw_okq (⟨"FeastRotaModel", "letter", "(I)V"⟩, 27) := ⟨⟨by decide +kernel, by decide +kernel⟩, List.mem_of_getElem? (i := 707) (by decide +kernel), List.mem_of_getElem? (i := 828) (by decide +kernel), List.mem_of_getElem? (i := 829) (by decide +kernel)⟩
theorem lw_p31 : lw_okq (⟨"FeastRotaModel", "isLetter", "(I)Z"⟩, 27) := ⟨⟨by decide +kernel, by decide +kernel⟩, List.mem_of_getElem? (i := 707) (by decide +kernel), List.mem_of_getElem? (i := 832) (by decide +kernel), List.mem_of_getElem? (i := 833) (by decide +kernel)⟩
def lw_privs_2 : List (MethodName × Nat) := [(⟨"FeastRota$Plan", "settle", "(II)V"⟩, 6), (⟨"FeastRota$Plan", "isFree", "(I)Z"⟩, 6), (⟨"FeastRota$Plan", "hold", "(III)V"⟩, 6), (⟨"FeastRota$Plan", "firstFree", "(II)I"⟩, 6), (⟨"FeastRota$Rota", "dealOut", "(II)V"⟩, 8), (⟨"FeastRota$Rota", "choose", "(III)I"⟩, 8), (⟨"FeastRota$Rota", "goesAheadOf", "(III)Z"⟩, 8), (⟨"FeastRota$Rota", "give", "(I)V"⟩, 8), (⟨"FeastRota", "isDay", "(II)Z"⟩, 8), (⟨"FeastRota$Plan", "liesIn", "(III)Z"⟩, 6), (⟨"FeastRota$Plan", "isHeld", "(I)Z"⟩, 6), (⟨"FeastRotaModel", "reads", "()V"⟩, 27), (⟨"FeastRotaModel", "byteAt", "(I)I"⟩, 27), (⟨"FeastRotaModel", "readsAll", "()V"⟩, 27), (⟨"FeastRotaModel", "letter", "(I)V"⟩, 27), (⟨"FeastRotaModel", "isLetter", "(I)Z"⟩, 27)]
theorem lw_r2 : ∀ q ∈ lw_privs_2, lw_okq q := List.forall_mem_cons.mpr ⟨lw_p16, List.forall_mem_cons.mpr ⟨lw_p17, List.forall_mem_cons.mpr ⟨lw_p18, List.forall_mem_cons.mpr ⟨lw_p19, List.forall_mem_cons.mpr ⟨lw_p20, List.forall_mem_cons.mpr ⟨lw_p21, List.forall_mem_cons.mpr ⟨lw_p22, List.forall_mem_cons.mpr ⟨lw_p23, List.forall_mem_cons.mpr ⟨lw_p24, List.forall_mem_cons.mpr ⟨lw_p25, List.forall_mem_cons.mpr ⟨lw_p26, List.forall_mem_cons.mpr ⟨lw_p27, List.forall_mem_cons.mpr ⟨lw_p28, List.forall_mem_cons.mpr ⟨lw_p29, List.forall_mem_cons.mpr ⟨lw_p30, List.forall_mem_cons.mpr ⟨lw_p31, fun _ h => absurd h List.not_mem_nil⟩⟩⟩⟩⟩⟩⟩⟩⟩⟩⟩⟩⟩⟩⟩⟩
theorem lw_p32 : lw_okq (⟨"FeastRotaModel", "bad", "(I)V"⟩, 27) := ⟨⟨by decide +kernel, by decide +kernel⟩, List.mem_of_getElem? (i := 707) (by decide +kernel), List.mem_of_getElem? (i := 836) (by decide +kernel), List.mem_of_getElem? (i := 837) (by decide +kernel)⟩
theorem lw_p33 : lw_okq (⟨"FeastRotaModel", "goesOn", "()V"⟩, 27) := ⟨⟨by decide +kernel, by decide +kernel⟩, List.mem_of_getElem? (i := 707) (by decide +kernel), List.mem_of_getElem? (i := 840) (by decide +kernel), List.mem_of_getElem? (i := 841) (by decide +kernel)⟩
theorem lw_p34 : lw_okq (⟨"FeastRotaModel", "number", "(III)I"⟩, 27) := ⟨⟨by decide +kernel, by decide +kernel⟩, List.mem_of_getElem? (i := 707) (by decide +kernel), List.mem_of_getElem? (i := 844) (by decide +kernel), List.mem_of_getElem? (i := 845) (by decide +kernel)⟩
theorem lw_p35 : lw_okq (⟨"FeastRotaModel", "sort", "()I"⟩, 27) := ⟨⟨by decide +kernel, by decide +kernel⟩, List.mem_of_getElem? (i := 707) (by decide +kernel), List.mem_of_getElem? (i := 848) (by decide +kernel), List.mem_of_getElem? (i := 849) (by decide +kernel)⟩
theorem lw_p36 : lw_okq (⟨"FeastRotaModel", "readsFeast", "()V"⟩, 27) := ⟨⟨by decide +kernel, by decide +kernel⟩, List.mem_of_getElem? (i := 707) (by decide +kernel), List.mem_of_getElem? (i := 853) (by decide +kernel), List.mem_of_getElem? (i := 854) (by decide +kernel)⟩
theorem lw_p37 : lw_okq (⟨"FeastRotaModel", "readsSeason", "()V"⟩, 27) := ⟨⟨by decide +kernel, by decide +kernel⟩, List.mem_of_getElem? (i := 707) (by decide +kernel), List.mem_of_getElem? (i := 860) (by decide +kernel), List.mem_of_getElem? (i := 861) (by decide +kernel)⟩
theorem lw_p38 : lw_okq (⟨"FeastRotaModel", "isFeast", "(I)Z"⟩, 27) := ⟨⟨by decide +kernel, by decide +kernel⟩, List.mem_of_getElem? (i := 707) (by decide +kernel), List.mem_of_getElem? (i := 881) (by decide +kernel), List.mem_of_getElem? (i := 882) (by decide +kernel)⟩
theorem lw_p39 : lw_okq (⟨"FeastRotaModel", "mayBe", "(III)Z"⟩, 27) := ⟨⟨by decide +kernel, by decide +kernel⟩, List.mem_of_getElem? (i := 707) (by decide +kernel), List.mem_of_getElem? (i := 885) (by decide +kernel), List.mem_of_getElem? (i := 886) (by decide +kernel)⟩
theorem lw_p40 : lw_okq (⟨"FeastRotaModel", "of", "(II)I"⟩, 27) := ⟨⟨by decide +kernel, by decide +kernel⟩, List.mem_of_getElem? (i := 707) (by decide +kernel), List.mem_of_getElem? (i := 890) (by decide +kernel), List.mem_of_getElem? (i := 891) (by decide +kernel)⟩
theorem lw_p41 : lw_okq (⟨"FeastRotaModel", "notes", "()V"⟩, 27) := ⟨⟨by decide +kernel, by decide +kernel⟩, List.mem_of_getElem? (i := 707) (by decide +kernel), List.mem_of_getElem? (i := 901) (by decide +kernel), List.mem_of_getElem? (i := 902) (by decide +kernel)⟩
theorem lw_p42 : lw_okq (⟨"FeastRotaModel", "isBook", "()Z"⟩, 27) := ⟨⟨by decide +kernel, by decide +kernel⟩, List.mem_of_getElem? (i := 707) (by decide +kernel), List.mem_of_getElem? (i := 909) (by decide +kernel), List.mem_of_getElem? (i := 910) (by decide +kernel)⟩
theorem lw_p43 : lw_okq (⟨"FeastRotaModel", "isChoir", "(I)Z"⟩, 27) := ⟨⟨by decide +kernel, by decide +kernel⟩, List.mem_of_getElem? (i := 707) (by decide +kernel), List.mem_of_getElem? (i := 929) (by decide +kernel), List.mem_of_getElem? (i := 930) (by decide +kernel)⟩
theorem lw_p44 : lw_okq (⟨"FeastRotaModel", "lays", "(II)V"⟩, 27) := ⟨⟨by decide +kernel, by decide +kernel⟩, List.mem_of_getElem? (i := 707) (by decide +kernel), List.mem_of_getElem? (i := 947) (by decide +kernel), List.mem_of_getElem? (i := 948) (by decide +kernel)⟩
theorem lw_p45 : lw_okq (⟨"FeastRotaModel", "opens", "(I)V"⟩, 27) := ⟨⟨by decide +kernel, by decide +kernel⟩, List.mem_of_getElem? (i := 707) (by decide +kernel), List.mem_of_getElem? (i := 951) (by decide +kernel), List.mem_of_getElem? (i := 952) (by decide +kernel)⟩
theorem lw_p46 : lw_okq (⟨"FeastRotaModel", "isLeap", "(I)Z"⟩, 27) := ⟨⟨by decide +kernel, by decide +kernel⟩, List.mem_of_getElem? (i := 707) (by decide +kernel), List.mem_of_getElem? (i := 955) (by decide +kernel), List.mem_of_getElem? (i := 956) (by decide +kernel)⟩
theorem lw_p47 : lw_okq (⟨"FeastRotaModel", "ownDay", "(II)I"⟩, 27) := ⟨⟨by decide +kernel, by decide +kernel⟩, List.mem_of_getElem? (i := 707) (by decide +kernel), List.mem_of_getElem? (i := 959) (by decide +kernel), List.mem_of_getElem? (i := 960) (by decide +kernel)⟩
def lw_privs_3 : List (MethodName × Nat) := [(⟨"FeastRotaModel", "bad", "(I)V"⟩, 27), (⟨"FeastRotaModel", "goesOn", "()V"⟩, 27), (⟨"FeastRotaModel", "number", "(III)I"⟩, 27), (⟨"FeastRotaModel", "sort", "()I"⟩, 27), (⟨"FeastRotaModel", "readsFeast", "()V"⟩, 27), (⟨"FeastRotaModel", "readsSeason", "()V"⟩, 27), (⟨"FeastRotaModel", "isFeast", "(I)Z"⟩, 27), (⟨"FeastRotaModel", "mayBe", "(III)Z"⟩, 27), (⟨"FeastRotaModel", "of", "(II)I"⟩, 27), (⟨"FeastRotaModel", "notes", "()V"⟩, 27), (⟨"FeastRotaModel", "isBook", "()Z"⟩, 27), (⟨"FeastRotaModel", "isChoir", "(I)Z"⟩, 27), (⟨"FeastRotaModel", "lays", "(II)V"⟩, 27), (⟨"FeastRotaModel", "opens", "(I)V"⟩, 27), (⟨"FeastRotaModel", "isLeap", "(I)Z"⟩, 27), (⟨"FeastRotaModel", "ownDay", "(II)I"⟩, 27)]
theorem lw_r3 : ∀ q ∈ lw_privs_3, lw_okq q := List.forall_mem_cons.mpr ⟨lw_p32, List.forall_mem_cons.mpr ⟨lw_p33, List.forall_mem_cons.mpr ⟨lw_p34, List.forall_mem_cons.mpr ⟨lw_p35, List.forall_mem_cons.mpr ⟨lw_p36, List.forall_mem_cons.mpr ⟨lw_p37, List.forall_mem_cons.mpr ⟨lw_p38, List.forall_mem_cons.mpr ⟨lw_p39, List.forall_mem_cons.mpr ⟨lw_p40, List.forall_mem_cons.mpr ⟨lw_p41, List.forall_mem_cons.mpr ⟨lw_p42, List.forall_mem_cons.mpr ⟨lw_p43, List.forall_mem_cons.mpr ⟨lw_p44, List.forall_mem_cons.mpr ⟨lw_p45, List.forall_mem_cons.mpr ⟨lw_p46, List.forall_mem_cons.mpr ⟨lw_p47, fun _ h => absurd h List.not_mem_nil⟩⟩⟩⟩⟩⟩⟩⟩⟩⟩⟩⟩⟩⟩⟩⟩
theorem lw_p48 : lw_okq (⟨"FeastRotaModel", "dayOfDate", "(II)I"⟩, 27) := ⟨⟨by decide +kernel, by decide +kernel⟩, List.mem_of_getElem? (i := 707) (by decide +kernel), List.mem_of_getElem? (i := 963) (by decide +kernel), List.mem_of_getElem? (i := 964) (by decide +kernel)⟩
theorem lw_p49 : lw_okq (⟨"FeastRotaModel", "sunday", "(I)I"⟩, 27) := ⟨⟨by decide +kernel, by decide +kernel⟩, List.mem_of_getElem? (i := 707) (by decide +kernel), List.mem_of_getElem? (i := 967) (by decide +kernel), List.mem_of_getElem? (i := 968) (by decide +kernel)⟩
theorem lw_p50 : lw_okq (⟨"FeastRotaModel", "weekdayOf", "(I)I"⟩, 27) := ⟨⟨by decide +kernel, by decide +kernel⟩, List.mem_of_getElem? (i := 707) (by decide +kernel), List.mem_of_getElem? (i := 971) (by decide +kernel), List.mem_of_getElem? (i := 972) (by decide +kernel)⟩
theorem lw_p51 : lw_okq (⟨"FeastRotaModel", "spring", "(I)I"⟩, 27) := ⟨⟨by decide +kernel, by decide +kernel⟩, List.mem_of_getElem? (i := 707) (by decide +kernel), List.mem_of_getElem? (i := 975) (by decide +kernel), List.mem_of_getElem? (i := 976) (by decide +kernel)⟩
theorem lw_p52 : lw_okq (⟨"FeastRotaModel", "moon", "(I)I"⟩, 27) := ⟨⟨by decide +kernel, by decide +kernel⟩, List.mem_of_getElem? (i := 707) (by decide +kernel), List.mem_of_getElem? (i := 979) (by decide +kernel), List.mem_of_getElem? (i := 980) (by decide +kernel)⟩
theorem lw_p53 : lw_okq (⟨"FeastRotaModel", "nextFeast", "()I"⟩, 27) := ⟨⟨by decide +kernel, by decide +kernel⟩, List.mem_of_getElem? (i := 707) (by decide +kernel), List.mem_of_getElem? (i := 983) (by decide +kernel), List.mem_of_getElem? (i := 984) (by decide +kernel)⟩
theorem lw_p54 : lw_okq (⟨"FeastRotaModel", "isAhead", "(II)Z"⟩, 27) := ⟨⟨by decide +kernel, by decide +kernel⟩, List.mem_of_getElem? (i := 707) (by decide +kernel), List.mem_of_getElem? (i := 987) (by decide +kernel), List.mem_of_getElem? (i := 988) (by decide +kernel)⟩
theorem lw_p55 : lw_okq (⟨"FeastRotaModel", "comes", "(I)V"⟩, 27) := ⟨⟨by decide +kernel, by decide +kernel⟩, List.mem_of_getElem? (i := 707) (by decide +kernel), List.mem_of_getElem? (i := 991) (by decide +kernel), List.mem_of_getElem? (i := 992) (by decide +kernel)⟩
theorem lw_p56 : lw_okq (⟨"FeastRotaModel", "isFree", "(I)Z"⟩, 27) := ⟨⟨by decide +kernel, by decide +kernel⟩, List.mem_of_getElem? (i := 707) (by decide +kernel), List.mem_of_getElem? (i := 995) (by decide +kernel), List.mem_of_getElem? (i := 996) (by decide +kernel)⟩
theorem lw_p57 : lw_okq (⟨"FeastRotaModel", "holds", "(III)V"⟩, 27) := ⟨⟨by decide +kernel, by decide +kernel⟩, List.mem_of_getElem? (i := 707) (by decide +kernel), List.mem_of_getElem? (i := 999) (by decide +kernel), List.mem_of_getElem? (i := 1000) (by decide +kernel)⟩
theorem lw_p58 : lw_okq (⟨"FeastRotaModel", "freeBehind", "(II)I"⟩, 27) := ⟨⟨by decide +kernel, by decide +kernel⟩, List.mem_of_getElem? (i := 707) (by decide +kernel), List.mem_of_getElem? (i := 1003) (by decide +kernel), List.mem_of_getElem? (i := 1004) (by decide +kernel)⟩
theorem lw_p59 : lw_okq (⟨"FeastRotaModel", "sundays", "()I"⟩, 27) := ⟨⟨by decide +kernel, by decide +kernel⟩, List.mem_of_getElem? (i := 707) (by decide +kernel), List.mem_of_getElem? (i := 1007) (by decide +kernel), List.mem_of_getElem? (i := 1008) (by decide +kernel)⟩
theorem lw_p60 : lw_okq (⟨"FeastRotaModel", "manyHeld", "(Z)I"⟩, 27) := ⟨⟨by decide +kernel, by decide +kernel⟩, List.mem_of_getElem? (i := 707) (by decide +kernel), List.mem_of_getElem? (i := 1011) (by decide +kernel), List.mem_of_getElem? (i := 1012) (by decide +kernel)⟩
theorem lw_p61 : lw_okq (⟨"FeastRotaModel", "isHeld", "(I)Z"⟩, 27) := ⟨⟨by decide +kernel, by decide +kernel⟩, List.mem_of_getElem? (i := 707) (by decide +kernel), List.mem_of_getElem? (i := 1015) (by decide +kernel), List.mem_of_getElem? (i := 1016) (by decide +kernel)⟩
theorem lw_p62 : lw_okq (⟨"FeastRotaModel", "laysRota", "(II)V"⟩, 27) := ⟨⟨by decide +kernel, by decide +kernel⟩, List.mem_of_getElem? (i := 707) (by decide +kernel), List.mem_of_getElem? (i := 1019) (by decide +kernel), List.mem_of_getElem? (i := 1020) (by decide +kernel)⟩
theorem lw_p63 : lw_okq (⟨"FeastRotaModel", "servicesOf", "(I)I"⟩, 27) := ⟨⟨by decide +kernel, by decide +kernel⟩, List.mem_of_getElem? (i := 707) (by decide +kernel), List.mem_of_getElem? (i := 1023) (by decide +kernel), List.mem_of_getElem? (i := 1024) (by decide +kernel)⟩
def lw_privs_4 : List (MethodName × Nat) := [(⟨"FeastRotaModel", "dayOfDate", "(II)I"⟩, 27), (⟨"FeastRotaModel", "sunday", "(I)I"⟩, 27), (⟨"FeastRotaModel", "weekdayOf", "(I)I"⟩, 27), (⟨"FeastRotaModel", "spring", "(I)I"⟩, 27), (⟨"FeastRotaModel", "moon", "(I)I"⟩, 27), (⟨"FeastRotaModel", "nextFeast", "()I"⟩, 27), (⟨"FeastRotaModel", "isAhead", "(II)Z"⟩, 27), (⟨"FeastRotaModel", "comes", "(I)V"⟩, 27), (⟨"FeastRotaModel", "isFree", "(I)Z"⟩, 27), (⟨"FeastRotaModel", "holds", "(III)V"⟩, 27), (⟨"FeastRotaModel", "freeBehind", "(II)I"⟩, 27), (⟨"FeastRotaModel", "sundays", "()I"⟩, 27), (⟨"FeastRotaModel", "manyHeld", "(Z)I"⟩, 27), (⟨"FeastRotaModel", "isHeld", "(I)Z"⟩, 27), (⟨"FeastRotaModel", "laysRota", "(II)V"⟩, 27), (⟨"FeastRotaModel", "servicesOf", "(I)I"⟩, 27)]
theorem lw_r4 : ∀ q ∈ lw_privs_4, lw_okq q := List.forall_mem_cons.mpr ⟨lw_p48, List.forall_mem_cons.mpr ⟨lw_p49, List.forall_mem_cons.mpr ⟨lw_p50, List.forall_mem_cons.mpr ⟨lw_p51, List.forall_mem_cons.mpr ⟨lw_p52, List.forall_mem_cons.mpr ⟨lw_p53, List.forall_mem_cons.mpr ⟨lw_p54, List.forall_mem_cons.mpr ⟨lw_p55, List.forall_mem_cons.mpr ⟨lw_p56, List.forall_mem_cons.mpr ⟨lw_p57, List.forall_mem_cons.mpr ⟨lw_p58, List.forall_mem_cons.mpr ⟨lw_p59, List.forall_mem_cons.mpr ⟨lw_p60, List.forall_mem_cons.mpr ⟨lw_p61, List.forall_mem_cons.mpr ⟨lw_p62, List.forall_mem_cons.mpr ⟨lw_p63, fun _ h => absurd h List.not_mem_nil⟩⟩⟩⟩⟩⟩⟩⟩⟩⟩⟩⟩⟩⟩⟩⟩
theorem lw_p64 : lw_okq (⟨"FeastRotaModel", "rankOf", "(I)I"⟩, 27) := ⟨⟨by decide +kernel, by decide +kernel⟩, List.mem_of_getElem? (i := 707) (by decide +kernel), List.mem_of_getElem? (i := 1027) (by decide +kernel), List.mem_of_getElem? (i := 1028) (by decide +kernel)⟩
theorem lw_p65 : lw_okq (⟨"FeastRotaModel", "choose", "(IIIZ)I"⟩, 27) := ⟨⟨by decide +kernel, by decide +kernel⟩, List.mem_of_getElem? (i := 707) (by decide +kernel), List.mem_of_getElem? (i := 1031) (by decide +kernel), List.mem_of_getElem? (i := 1032) (by decide +kernel)⟩
theorem lw_p66 : lw_okq (⟨"FeastRotaModel", "isAway", "(II)Z"⟩, 27) := ⟨⟨by decide +kernel, by decide +kernel⟩, List.mem_of_getElem? (i := 707) (by decide +kernel), List.mem_of_getElem? (i := 1035) (by decide +kernel), List.mem_of_getElem? (i := 1036) (by decide +kernel)⟩
theorem lw_p67 : lw_okq (⟨"FeastRotaModel", "had", "(II)Z"⟩, 27) := ⟨⟨by decide +kernel, by decide +kernel⟩, List.mem_of_getElem? (i := 707) (by decide +kernel), List.mem_of_getElem? (i := 1039) (by decide +kernel), List.mem_of_getElem? (i := 1040) (by decide +kernel)⟩
theorem lw_p68 : lw_okq (⟨"FeastRotaModel", "isBetter", "(III)Z"⟩, 27) := ⟨⟨by decide +kernel, by decide +kernel⟩, List.mem_of_getElem? (i := 707) (by decide +kernel), List.mem_of_getElem? (i := 1043) (by decide +kernel), List.mem_of_getElem? (i := 1044) (by decide +kernel)⟩
theorem lw_p69 : lw_okq (⟨"FeastRotaModel", "hasDay", "(III)Z"⟩, 27) := ⟨⟨by decide +kernel, by decide +kernel⟩, List.mem_of_getElem? (i := 707) (by decide +kernel), List.mem_of_getElem? (i := 1051) (by decide +kernel), List.mem_of_getElem? (i := 1052) (by decide +kernel)⟩
theorem lw_p70 : lw_okq (⟨"FeastRotaModel", "colourOf", "(I)I"⟩, 27) := ⟨⟨by decide +kernel, by decide +kernel⟩, List.mem_of_getElem? (i := 707) (by decide +kernel), List.mem_of_getElem? (i := 1055) (by decide +kernel), List.mem_of_getElem? (i := 1056) (by decide +kernel)⟩
theorem lw_p71 : lw_okq (⟨"FeastRotaModel", "rememberedOn", "(I)I"⟩, 27) := ⟨⟨by decide +kernel, by decide +kernel⟩, List.mem_of_getElem? (i := 707) (by decide +kernel), List.mem_of_getElem? (i := 1059) (by decide +kernel), List.mem_of_getElem? (i := 1060) (by decide +kernel)⟩
theorem lw_p72 : lw_okq (⟨"FeastRotaModel", "readings", "(I)I"⟩, 27) := ⟨⟨by decide +kernel, by decide +kernel⟩, List.mem_of_getElem? (i := 707) (by decide +kernel), List.mem_of_getElem? (i := 1071) (by decide +kernel), List.mem_of_getElem? (i := 1072) (by decide +kernel)⟩
theorem lw_p73 : lw_okq (⟨"FeastRotaModel", "unfair", "(I)I"⟩, 27) := ⟨⟨by decide +kernel, by decide +kernel⟩, List.mem_of_getElem? (i := 707) (by decide +kernel), List.mem_of_getElem? (i := 1091) (by decide +kernel), List.mem_of_getElem? (i := 1092) (by decide +kernel)⟩
def lw_privs_5 : List (MethodName × Nat) := [(⟨"FeastRotaModel", "rankOf", "(I)I"⟩, 27), (⟨"FeastRotaModel", "choose", "(IIIZ)I"⟩, 27), (⟨"FeastRotaModel", "isAway", "(II)Z"⟩, 27), (⟨"FeastRotaModel", "had", "(II)Z"⟩, 27), (⟨"FeastRotaModel", "isBetter", "(III)Z"⟩, 27), (⟨"FeastRotaModel", "hasDay", "(III)Z"⟩, 27), (⟨"FeastRotaModel", "colourOf", "(I)I"⟩, 27), (⟨"FeastRotaModel", "rememberedOn", "(I)I"⟩, 27), (⟨"FeastRotaModel", "readings", "(I)I"⟩, 27), (⟨"FeastRotaModel", "unfair", "(I)I"⟩, 27)]
theorem lw_r5 : ∀ q ∈ lw_privs_5, lw_okq q := List.forall_mem_cons.mpr ⟨lw_p64, List.forall_mem_cons.mpr ⟨lw_p65, List.forall_mem_cons.mpr ⟨lw_p66, List.forall_mem_cons.mpr ⟨lw_p67, List.forall_mem_cons.mpr ⟨lw_p68, List.forall_mem_cons.mpr ⟨lw_p69, List.forall_mem_cons.mpr ⟨lw_p70, List.forall_mem_cons.mpr ⟨lw_p71, List.forall_mem_cons.mpr ⟨lw_p72, List.forall_mem_cons.mpr ⟨lw_p73, fun _ h => absurd h List.not_mem_nil⟩⟩⟩⟩⟩⟩⟩⟩⟩⟩
def lw_privs : List (MethodName × Nat) := lw_privs_1 ++ (lw_privs_2 ++ (lw_privs_3 ++ (lw_privs_4 ++ (lw_privs_5))))
def lw_tbl : List Cond := k2_sels lw_privs ++ tables_1
theorem lw_privs_ok : ∀ q ∈ lw_privs, lw_okq q := by
  show ∀ q ∈ lw_privs_1 ++ (lw_privs_2 ++ (lw_privs_3 ++ (lw_privs_4 ++ (lw_privs_5)))), lw_okq q
  exact List.forall_mem_append.mpr ⟨lw_r1, List.forall_mem_append.mpr ⟨lw_r2, List.forall_mem_append.mpr ⟨lw_r3, List.forall_mem_append.mpr ⟨lw_r4, lw_r5⟩⟩⟩⟩
end
section
def RX0 : String := "FeastRota$Acts"
def TX0 : u_T := fun k => match k with
  | 0 => ("FeastRota$Acts", "sort", "[I", true)
  | 1 => ("FeastRota$Acts", "index", "[I", true)
  | 2 => ("FeastRota$Acts", "was", "[I", true)
  | 3 => ("FeastRota$Acts", "wasTo", "[I", true)
  | _ => ("FeastRota$Acts", "kept", "I", false)
def tyX0 : Nat → FieldType := fun k => match k with
  | 0 => .array .int
  | 1 => .array .int
  | 2 => .array .int
  | 3 => .array .int
  | _ => .int
abbrev wsX00 : List Cond := u_ws RX0 TX0 5
theorem nmX0 : ∀ a, a < 5 → ∀ b, b < 5 → a ≠ b → (TX0 a).2.1 ≠ (TX0 b).2.1 := by decide +kernel
theorem tyX0_ok : ∀ k, k < 5 → parseFieldDescriptor (TX0 k).2.2.1 = some (tyX0 k) := by decide +kernel
abbrev cX0_init : ByteArray := prog_2_method_1_code
def yX0_init : MethodName := ⟨RX0, "<init>", "()V"⟩
abbrev cX0_keep : ByteArray := prog_2_method_2_code
def yX0_keep : MethodName := ⟨RX0, "keep", "(IIII)V"⟩
abbrev cX0_forgetOldest : ByteArray := prog_2_method_3_code
def yX0_forgetOldest : MethodName := ⟨RX0, "forgetOldest", "()V"⟩
abbrev cX0_takeBackLatest : ByteArray := prog_2_method_4_code
def yX0_takeBackLatest : MethodName := ⟨RX0, "takeBackLatest", "(LFeastRota$Book;)V"⟩
def RX1 : String := "FeastRota$Book"
def TX1 : u_T := fun k => match k with
  | 0 => ("FeastRota$Book", "told", "Z", false)
  | 1 => ("FeastRota$Book", "feasts", "I", false)
  | 2 => ("FeastRota$Book", "seasons", "I", false)
  | 3 => ("FeastRota$Book", "choirs", "I", false)
  | 4 => ("FeastRota$Book", "laws", "[I", true)
  | 5 => ("FeastRota$Book", "marks", "[I", true)
  | 6 => ("FeastRota$Book", "seasonFrom", "[I", true)
  | 7 => ("FeastRota$Book", "seasonTo", "[I", true)
  | 8 => ("FeastRota$Book", "seasonColour", "[I", true)
  | 9 => ("FeastRota$Book", "leaves", "[I", true)
  | _ => ("FeastRota$Book", "returns", "[I", true)
def tyX1 : Nat → FieldType := fun k => match k with
  | 0 => .boolean
  | 1 => .int
  | 2 => .int
  | 3 => .int
  | 4 => .array .int
  | 5 => .array .int
  | 6 => .array .int
  | 7 => .array .int
  | 8 => .array .int
  | 9 => .array .int
  | _ => .array .int
abbrev wsX10 : List Cond := u_ws RX1 TX1 11
theorem nmX1 : ∀ a, a < 11 → ∀ b, b < 11 → a ≠ b → (TX1 a).2.1 ≠ (TX1 b).2.1 := by decide +kernel
theorem tyX1_ok : ∀ k, k < 11 → parseFieldDescriptor (TX1 k).2.2.1 = some (tyX1 k) := by decide +kernel
abbrev cX1_init : ByteArray := prog_3_method_1_code
def yX1_init : MethodName := ⟨RX1, "<init>", "()V"⟩
abbrev cX1_canBe : ByteArray := prog_3_method_2_code
def yX1_canBe : MethodName := ⟨RX1, "canBe", "(IIII)Z"⟩
abbrev cX1_leastN : ByteArray := prog_3_method_3_code
def yX1_leastN : MethodName := ⟨RX1, "leastN", "(I)I"⟩
abbrev cX1_greatestN : ByteArray := prog_3_method_4_code
def yX1_greatestN : MethodName := ⟨RX1, "greatestN", "(I)I"⟩
abbrev cX1_empty : ByteArray := prog_3_method_5_code
def yX1_empty : MethodName := ⟨RX1, "empty", "()V"⟩
abbrev cX1_become : ByteArray := prog_3_method_6_code
def yX1_become : MethodName := ⟨RX1, "become", "(LFeastRota$Book;)V"⟩
abbrev cX1_hasFeast : ByteArray := prog_3_method_7_code
def yX1_hasFeast : MethodName := ⟨RX1, "hasFeast", "(I)Z"⟩
abbrev cX1_hasChoir : ByteArray := prog_3_method_8_code
def yX1_hasChoir : MethodName := ⟨RX1, "hasChoir", "(I)Z"⟩
abbrev cX1_mark : ByteArray := prog_3_method_9_code
def yX1_mark : MethodName := ⟨RX1, "mark", "(II)I"⟩
abbrev cX1_tellFeast : ByteArray := prog_3_method_10_code
def yX1_tellFeast : MethodName := ⟨RX1, "tellFeast", "(IIII)V"⟩
abbrev cX1_tellSeason : ByteArray := prog_3_method_11_code
def yX1_tellSeason : MethodName := ⟨RX1, "tellSeason", "(III)V"⟩
abbrev cX1_isAway : ByteArray := prog_3_method_12_code
def yX1_isAway : MethodName := ⟨RX1, "isAway", "(II)Z"⟩
def RX2 : String := "FeastRota$Calendar"
def TX2 : u_T := fun k => match k with
  | 0 => ("FeastRota$Calendar", "days", "I", false)
  | 1 => ("FeastRota$Calendar", "start", "I", false)
  | 2 => ("FeastRota$Calendar", "moon", "I", false)
  | _ => ("FeastRota$Calendar", "spring", "I", false)
def tyX2 : Nat → FieldType := fun k => match k with
  | 0 => .int
  | 1 => .int
  | 2 => .int
  | _ => .int
abbrev wsX20 : List Cond := u_ws RX2 TX2 4
theorem nmX2 : ∀ a, a < 4 → ∀ b, b < 4 → a ≠ b → (TX2 a).2.1 ≠ (TX2 b).2.1 := by decide +kernel
theorem tyX2_ok : ∀ k, k < 4 → parseFieldDescriptor (TX2 k).2.2.1 = some (tyX2 k) := by decide +kernel
abbrev cX2_init : ByteArray := prog_4_method_1_code
def yX2_init : MethodName := ⟨RX2, "<init>", "()V"⟩
abbrev cX2_daysOf : ByteArray := prog_4_method_2_code
def yX2_daysOf : MethodName := ⟨RX2, "daysOf", "(II)I"⟩
abbrev cX2_leapYearsAhead : ByteArray := prog_4_method_3_code
def yX2_leapYearsAhead : MethodName := ⟨RX2, "leapYearsAhead", "(II)I"⟩
abbrev cX2_turnTo : ByteArray := prog_4_method_4_code
def yX2_turnTo : MethodName := ⟨RX2, "turnTo", "(LFeastRota$Book;I)V"⟩
abbrev cX2_isLeap : ByteArray := prog_4_method_5_code
def yX2_isLeap : MethodName := ⟨RX2, "isLeap", "()Z"⟩
abbrev cX2_weekday : ByteArray := prog_4_method_6_code
def yX2_weekday : MethodName := ⟨RX2, "weekday", "(I)I"⟩
abbrev cX2_dayOfDate : ByteArray := prog_4_method_7_code
def yX2_dayOfDate : MethodName := ⟨RX2, "dayOfDate", "(I)I"⟩
abbrev cX2_dateOfSpring : ByteArray := prog_4_method_8_code
def yX2_dateOfSpring : MethodName := ⟨RX2, "dateOfSpring", "()I"⟩
abbrev cX2_sundayFrom : ByteArray := prog_4_method_9_code
def yX2_sundayFrom : MethodName := ⟨RX2, "sundayFrom", "(I)I"⟩
abbrev cX2_sundays : ByteArray := prog_4_method_10_code
def yX2_sundays : MethodName := ⟨RX2, "sundays", "()I"⟩
abbrev cX2_ownDay : ByteArray := prog_4_method_11_code
def yX2_ownDay : MethodName := ⟨RX2, "ownDay", "(II)I"⟩
abbrev cX2_unboundDay : ByteArray := prog_4_method_12_code
def yX2_unboundDay : MethodName := ⟨RX2, "unboundDay", "(II)I"⟩
def RX3 : String := "FeastRota$Plan"
def TX3 : u_T := fun k => match k with
  | 0 => ("FeastRota$Plan", "book", "LFeastRota$Book;", true)
  | 1 => ("FeastRota$Plan", "calendar", "LFeastRota$Calendar;", true)
  | 2 => ("FeastRota$Plan", "own", "[I", true)
  | 3 => ("FeastRota$Plan", "how", "[I", true)
  | 4 => ("FeastRota$Plan", "on", "[I", true)
  | _ => ("FeastRota$Plan", "feastOn", "[I", true)
def tyX3 : Nat → FieldType := fun k => match k with
  | 0 => .object "FeastRota$Book"
  | 1 => .object "FeastRota$Calendar"
  | 2 => .array .int
  | 3 => .array .int
  | 4 => .array .int
  | _ => .array .int
abbrev wsX30 : List Cond := u_ws RX3 TX3 6
theorem nmX3 : ∀ a, a < 6 → ∀ b, b < 6 → a ≠ b → (TX3 a).2.1 ≠ (TX3 b).2.1 := by decide +kernel
theorem tyX3_ok : ∀ k, k < 6 → parseFieldDescriptor (TX3 k).2.2.1 = some (tyX3 k) := by decide +kernel
abbrev cX3_init : ByteArray := prog_5_method_1_code
def yX3_init : MethodName := ⟨RX3, "<init>", "(LFeastRota$Book;LFeastRota$Calendar;)V"⟩
abbrev cX3_lay : ByteArray := prog_5_method_2_code
def yX3_lay : MethodName := ⟨RX3, "lay", "(II)V"⟩
abbrev cX3_ownDayOf : ByteArray := prog_5_method_3_code
def yX3_ownDayOf : MethodName := ⟨RX3, "ownDayOf", "(I)I"⟩
abbrev cX3_settleAll : ByteArray := prog_5_method_4_code
def yX3_settleAll : MethodName := ⟨RX3, "settleAll", "(II)V"⟩
abbrev cX3_settle : ByteArray := prog_5_method_5_code
def yX3_settle : MethodName := ⟨RX3, "settle", "(II)V"⟩
abbrev cX3_hold : ByteArray := prog_5_method_6_code
def yX3_hold : MethodName := ⟨RX3, "hold", "(III)V"⟩
abbrev cX3_isFree : ByteArray := prog_5_method_7_code
def yX3_isFree : MethodName := ⟨RX3, "isFree", "(I)Z"⟩
abbrev cX3_firstFree : ByteArray := prog_5_method_8_code
def yX3_firstFree : MethodName := ⟨RX3, "firstFree", "(II)I"⟩
abbrev cX3_howMany : ByteArray := prog_5_method_9_code
def yX3_howMany : MethodName := ⟨RX3, "howMany", "(I)I"⟩
abbrev cX3_rememberedOn : ByteArray := prog_5_method_10_code
def yX3_rememberedOn : MethodName := ⟨RX3, "rememberedOn", "(I)I"⟩
abbrev cX3_holderOf : ByteArray := prog_5_method_11_code
def yX3_holderOf : MethodName := ⟨RX3, "holderOf", "(I)I"⟩
abbrev cX3_rankOf : ByteArray := prog_5_method_12_code
def yX3_rankOf : MethodName := ⟨RX3, "rankOf", "(I)I"⟩
abbrev cX3_colourOf : ByteArray := prog_5_method_13_code
def yX3_colourOf : MethodName := ⟨RX3, "colourOf", "(I)I"⟩
abbrev cX3_liesIn : ByteArray := prog_5_method_14_code
def yX3_liesIn : MethodName := ⟨RX3, "liesIn", "(III)Z"⟩
abbrev cX3_isHeld : ByteArray := prog_5_method_15_code
def yX3_isHeld : MethodName := ⟨RX3, "isHeld", "(I)Z"⟩
abbrev cX3_servicesOf : ByteArray := prog_5_method_16_code
def yX3_servicesOf : MethodName := ⟨RX3, "servicesOf", "(I)I"⟩
abbrev cX3_servicesOfAllDays : ByteArray := prog_5_method_17_code
def yX3_servicesOfAllDays : MethodName := ⟨RX3, "servicesOfAllDays", "()I"⟩
abbrev cX3_isReadingDay : ByteArray := prog_5_method_18_code
def yX3_isReadingDay : MethodName := ⟨RX3, "isReadingDay", "(I)Z"⟩
abbrev cX3_readingDays : ByteArray := prog_5_method_19_code
def yX3_readingDays : MethodName := ⟨RX3, "readingDays", "(I)I"⟩
abbrev cX3_dayOfReading : ByteArray := prog_5_method_20_code
def yX3_dayOfReading : MethodName := ⟨RX3, "dayOfReading", "(J)I"⟩
def RX4 : String := "FeastRota$Reader"
def TX4 : u_T := fun k => match k with
  | 0 => ("FeastRota$Reader", "tape", "LFeastRota$Tape;", true)
  | 1 => ("FeastRota$Reader", "draft", "LFeastRota$Book;", true)
  | 2 => ("FeastRota$Reader", "at", "I", false)
  | 3 => ("FeastRota$Reader", "value", "I", false)
  | 4 => ("FeastRota$Reader", "fault", "I", false)
  | _ => ("FeastRota$Reader", "place", "I", false)
def tyX4 : Nat → FieldType := fun k => match k with
  | 0 => .object "FeastRota$Tape"
  | 1 => .object "FeastRota$Book"
  | 2 => .int
  | 3 => .int
  | 4 => .int
  | _ => .int
abbrev wsX40 : List Cond := u_ws RX4 TX4 6
theorem nmX4 : ∀ a, a < 6 → ∀ b, b < 6 → a ≠ b → (TX4 a).2.1 ≠ (TX4 b).2.1 := by decide +kernel
theorem tyX4_ok : ∀ k, k < 6 → parseFieldDescriptor (TX4 k).2.2.1 = some (tyX4 k) := by decide +kernel
abbrev cX4_init : ByteArray := prog_6_method_1_code
def yX4_init : MethodName := ⟨RX4, "<init>", "(LFeastRota$Tape;LFeastRota$Book;)V"⟩
abbrev cX4_readsAll : ByteArray := prog_6_method_2_code
def yX4_readsAll : MethodName := ⟨RX4, "readsAll", "()Z"⟩
abbrev cX4_head : ByteArray := prog_6_method_3_code
def yX4_head : MethodName := ⟨RX4, "head", "()Z"⟩
abbrev cX4_feasts : ByteArray := prog_6_method_4_code
def yX4_feasts : MethodName := ⟨RX4, "feasts", "()Z"⟩
abbrev cX4_oneFeast : ByteArray := prog_6_method_5_code
def yX4_oneFeast : MethodName := ⟨RX4, "oneFeast", "(I)Z"⟩
abbrev cX4_seasons : ByteArray := prog_6_method_6_code
def yX4_seasons : MethodName := ⟨RX4, "seasons", "()Z"⟩
abbrev cX4_oneSeason : ByteArray := prog_6_method_7_code
def yX4_oneSeason : MethodName := ⟨RX4, "oneSeason", "()Z"⟩
abbrev cX4_psalter : ByteArray := prog_6_method_8_code
def yX4_psalter : MethodName := ⟨RX4, "psalter", "()Z"⟩
abbrev cX4_choirs : ByteArray := prog_6_method_9_code
def yX4_choirs : MethodName := ⟨RX4, "choirs", "()Z"⟩
abbrev cX4_end : ByteArray := prog_6_method_10_code
def yX4_end : MethodName := ⟨RX4, "end", "()Z"⟩
abbrev cX4_lawNumber : ByteArray := prog_6_method_11_code
def yX4_lawNumber : MethodName := ⟨RX4, "lawNumber", "(II)Z"⟩
abbrev cX4_number : ByteArray := prog_6_method_12_code
def yX4_number : MethodName := ⟨RX4, "number", "(III)Z"⟩
abbrev cX4_bareNumber : ByteArray := prog_6_method_13_code
def yX4_bareNumber : MethodName := ⟨RX4, "bareNumber", "(II)Z"⟩
abbrev cX4_sign : ByteArray := prog_6_method_14_code
def yX4_sign : MethodName := ⟨RX4, "sign", "(I)Z"⟩
abbrev cX4_fails : ByteArray := prog_6_method_15_code
def yX4_fails : MethodName := ⟨RX4, "fails", "(I)Z"⟩
abbrev cX4_kindOf : ByteArray := prog_6_method_16_code
def yX4_kindOf : MethodName := ⟨RX4, "kindOf", "(I)I"⟩
def RX5 : String := "FeastRota$Rota"
def TX5 : u_T := fun k => match k with
  | 0 => ("FeastRota$Rota", "book", "LFeastRota$Book;", true)
  | 1 => ("FeastRota$Rota", "plan", "LFeastRota$Plan;", true)
  | 2 => ("FeastRota$Rota", "has", "[I", true)
  | 3 => ("FeastRota$Rota", "latest", "[I", true)
  | 4 => ("FeastRota$Rota", "today", "[I", true)
  | 5 => ("FeastRota$Rota", "dealt", "I", false)
  | 6 => ("FeastRota$Rota", "missed", "I", false)
  | _ => ("FeastRota$Rota", "sangToday", "I", false)
def tyX5 : Nat → FieldType := fun k => match k with
  | 0 => .object "FeastRota$Book"
  | 1 => .object "FeastRota$Plan"
  | 2 => .array .int
  | 3 => .array .int
  | 4 => .array .int
  | 5 => .int
  | 6 => .int
  | _ => .int
abbrev wsX50 : List Cond := u_ws RX5 TX5 8
theorem nmX5 : ∀ a, a < 8 → ∀ b, b < 8 → a ≠ b → (TX5 a).2.1 ≠ (TX5 b).2.1 := by decide +kernel
theorem tyX5_ok : ∀ k, k < 8 → parseFieldDescriptor (TX5 k).2.2.1 = some (tyX5 k) := by decide +kernel
abbrev cX5_init : ByteArray := prog_7_method_1_code
def yX5_init : MethodName := ⟨RX5, "<init>", "(LFeastRota$Book;LFeastRota$Plan;)V"⟩
abbrev cX5_go : ByteArray := prog_7_method_2_code
def yX5_go : MethodName := ⟨RX5, "go", "(II)V"⟩
abbrev cX5_dealOut : ByteArray := prog_7_method_3_code
def yX5_dealOut : MethodName := ⟨RX5, "dealOut", "(II)V"⟩
abbrev cX5_choose : ByteArray := prog_7_method_4_code
def yX5_choose : MethodName := ⟨RX5, "choose", "(III)I"⟩
abbrev cX5_goesAheadOf : ByteArray := prog_7_method_5_code
def yX5_goesAheadOf : MethodName := ⟨RX5, "goesAheadOf", "(III)Z"⟩
abbrev cX5_give : ByteArray := prog_7_method_6_code
def yX5_give : MethodName := ⟨RX5, "give", "(I)V"⟩
abbrev cX5_gap : ByteArray := prog_7_method_7_code
def yX5_gap : MethodName := ⟨RX5, "gap", "()I"⟩
def RX6 : String := "FeastRota$Tape"
def TX6 : u_T := fun k => match k with
  | 0 => ("FeastRota$Tape", "bytes", "[I", true)
  | _ => ("FeastRota$Tape", "length", "I", false)
def tyX6 : Nat → FieldType := fun k => match k with
  | 0 => .array .int
  | _ => .int
abbrev wsX60 : List Cond := u_ws RX6 TX6 2
theorem nmX6 : ∀ a, a < 2 → ∀ b, b < 2 → a ≠ b → (TX6 a).2.1 ≠ (TX6 b).2.1 := by decide +kernel
theorem tyX6_ok : ∀ k, k < 2 → parseFieldDescriptor (TX6 k).2.2.1 = some (tyX6 k) := by decide +kernel
abbrev cX6_init : ByteArray := prog_8_method_1_code
def yX6_init : MethodName := ⟨RX6, "<init>", "()V"⟩
abbrev cX6_put : ByteArray := prog_8_method_2_code
def yX6_put : MethodName := ⟨RX6, "put", "(I)Z"⟩
abbrev cX6_at : ByteArray := prog_8_method_3_code
def yX6_at : MethodName := ⟨RX6, "at", "(I)I"⟩
def RX7 : String := "FeastRota"
def TX7 : u_T := fun k => match k with
  | 0 => ("FeastRota", "tape", "LFeastRota$Tape;", true)
  | 1 => ("FeastRota", "reader", "LFeastRota$Reader;", true)
  | 2 => ("FeastRota", "current", "LFeastRota$Book;", true)
  | 3 => ("FeastRota", "images", "[LFeastRota$Book;", true)
  | 4 => ("FeastRota", "acts", "LFeastRota$Acts;", true)
  | 5 => ("FeastRota", "plan", "LFeastRota$Plan;", true)
  | 6 => ("FeastRota", "rota", "LFeastRota$Rota;", true)
  | _ => ("FeastRota", "latestFault", "I", false)
def tyX7 : Nat → FieldType := fun k => match k with
  | 0 => .object "FeastRota$Tape"
  | 1 => .object "FeastRota$Reader"
  | 2 => .object "FeastRota$Book"
  | 3 => .array (.object "FeastRota$Book")
  | 4 => .object "FeastRota$Acts"
  | 5 => .object "FeastRota$Plan"
  | 6 => .object "FeastRota$Rota"
  | _ => .int
abbrev wsX70 : List Cond := u_ws RX7 TX7 8
theorem nmX7 : ∀ a, a < 8 → ∀ b, b < 8 → a ≠ b → (TX7 a).2.1 ≠ (TX7 b).2.1 := by decide +kernel
theorem tyX7_ok : ∀ k, k < 8 → parseFieldDescriptor (TX7 k).2.2.1 = some (tyX7 k) := by decide +kernel
abbrev cX7_init : ByteArray := prog_1_method_1_code
def yX7_init : MethodName := ⟨RX7, "<init>", "()V"⟩
abbrev cX7_feed : ByteArray := prog_1_method_2_code
def yX7_feed : MethodName := ⟨RX7, "feed", "(I)I"⟩
abbrev cX7_book : ByteArray := prog_1_method_3_code
def yX7_book : MethodName := ⟨RX7, "book", "()I"⟩
abbrev cX7_fault : ByteArray := prog_1_method_4_code
def yX7_fault : MethodName := ⟨RX7, "fault", "()I"⟩
abbrev cX7_undo : ByteArray := prog_1_method_5_code
def yX7_undo : MethodName := ⟨RX7, "undo", "()I"⟩
abbrev cX7_alter : ByteArray := prog_1_method_6_code
def yX7_alter : MethodName := ⟨RX7, "alter", "(III)I"⟩
abbrev cX7_add : ByteArray := prog_1_method_7_code
def yX7_add : MethodName := ⟨RX7, "add", "(IIII)I"⟩
abbrev cX7_law : ByteArray := prog_1_method_8_code
def yX7_law : MethodName := ⟨RX7, "law", "(II)I"⟩
abbrev cX7_away : ByteArray := prog_1_method_9_code
def yX7_away : MethodName := ⟨RX7, "away", "(III)I"⟩
abbrev cX7_feast : ByteArray := prog_1_method_10_code
def yX7_feast : MethodName := ⟨RX7, "feast", "(II)I"⟩
abbrev cX7_year : ByteArray := prog_1_method_11_code
def yX7_year : MethodName := ⟨RX7, "year", "(II)I"⟩
abbrev cX7_day : ByteArray := prog_1_method_12_code
def yX7_day : MethodName := ⟨RX7, "day", "(III)I"⟩
abbrev cX7_held : ByteArray := prog_1_method_13_code
def yX7_held : MethodName := ⟨RX7, "held", "(III)I"⟩
abbrev cX7_psalm : ByteArray := prog_1_method_14_code
def yX7_psalm : MethodName := ⟨RX7, "psalm", "(III)I"⟩
abbrev cX7_read : ByteArray := prog_1_method_15_code
def yX7_read : MethodName := ⟨RX7, "read", "(III)I"⟩
abbrev cX7_sings : ByteArray := prog_1_method_16_code
def yX7_sings : MethodName := ⟨RX7, "sings", "(III)I"⟩
abbrev cX7_duties : ByteArray := prog_1_method_17_code
def yX7_duties : MethodName := ⟨RX7, "duties", "(III)I"⟩
abbrev cX7_fair : ByteArray := prog_1_method_18_code
def yX7_fair : MethodName := ⟨RX7, "fair", "(I)I"⟩
abbrev cX7_meet : ByteArray := prog_1_method_19_code
def yX7_meet : MethodName := ⟨RX7, "meet", "(III)I"⟩
abbrev cX7_springs : ByteArray := prog_1_method_20_code
def yX7_springs : MethodName := ⟨RX7, "springs", "(III)I"⟩
abbrev cX7_often : ByteArray := prog_1_method_21_code
def yX7_often : MethodName := ⟨RX7, "often", "(IIII)I"⟩
abbrev cX7_enough : ByteArray := prog_1_method_22_code
def yX7_enough : MethodName := ⟨RX7, "enough", "(II)I"⟩
abbrev cX7_best : ByteArray := prog_1_method_23_code
def yX7_best : MethodName := ⟨RX7, "best", "(I)I"⟩
abbrev cX7_bars : ByteArray := prog_1_method_24_code
def yX7_bars : MethodName := ⟨RX7, "bars", "(II)I"⟩
abbrev cX7_image : ByteArray := prog_1_method_25_code
def yX7_image : MethodName := ⟨RX7, "image", "(I)I"⟩
abbrev cX7_restore : ByteArray := prog_1_method_26_code
def yX7_restore : MethodName := ⟨RX7, "restore", "(I)I"⟩
abbrev cX7_count : ByteArray := prog_1_method_27_code
def yX7_count : MethodName := ⟨RX7, "count", "(I)I"⟩
abbrev cX7_within : ByteArray := prog_1_method_28_code
def yX7_within : MethodName := ⟨RX7, "within", "(III)Z"⟩
abbrev cX7_isYear : ByteArray := prog_1_method_29_code
def yX7_isYear : MethodName := ⟨RX7, "isYear", "(I)Z"⟩
abbrev cX7_isDay : ByteArray := prog_1_method_30_code
def yX7_isDay : MethodName := ⟨RX7, "isDay", "(II)Z"⟩
abbrev cX7_lastOf : ByteArray := prog_1_method_31_code
def yX7_lastOf : MethodName := ⟨RX7, "lastOf", "(II)I"⟩
def RX8 : String := "FeastRotaModel"
def TX8 : u_T := fun k => match k with
  | 0 => ("FeastRotaModel", "now", "[I", true)
  | 1 => ("FeastRotaModel", "draft", "[I", true)
  | 2 => ("FeastRotaModel", "past", "[I", true)
  | 3 => ("FeastRotaModel", "acts", "I", false)
  | 4 => ("FeastRotaModel", "images", "[I", true)
  | 5 => ("FeastRotaModel", "kept", "[Z", true)
  | 6 => ("FeastRotaModel", "tape", "[I", true)
  | 7 => ("FeastRotaModel", "taped", "I", false)
  | 8 => ("FeastRotaModel", "at", "I", false)
  | 9 => ("FeastRotaModel", "start", "I", false)
  | 10 => ("FeastRotaModel", "token", "I", false)
  | 11 => ("FeastRotaModel", "value", "I", false)
  | 12 => ("FeastRotaModel", "fault", "I", false)
  | 13 => ("FeastRotaModel", "place", "I", false)
  | 14 => ("FeastRotaModel", "latest", "I", false)
  | 15 => ("FeastRotaModel", "heldOn", "[I", true)
  | 16 => ("FeastRotaModel", "own", "[I", true)
  | 17 => ("FeastRotaModel", "how", "[I", true)
  | 18 => ("FeastRotaModel", "dayOf", "[I", true)
  | 19 => ("FeastRotaModel", "done", "[Z", true)
  | 20 => ("FeastRotaModel", "days", "I", false)
  | 21 => ("FeastRotaModel", "weekday", "I", false)
  | 22 => ("FeastRotaModel", "many", "[I", true)
  | 23 => ("FeastRotaModel", "last", "[I", true)
  | 24 => ("FeastRotaModel", "today", "[I", true)
  | 25 => ("FeastRotaModel", "services", "I", false)
  | _ => ("FeastRotaModel", "missed", "I", false)
def tyX8 : Nat → FieldType := fun k => match k with
  | 0 => .array .int
  | 1 => .array .int
  | 2 => .array .int
  | 3 => .int
  | 4 => .array .int
  | 5 => .array .boolean
  | 6 => .array .int
  | 7 => .int
  | 8 => .int
  | 9 => .int
  | 10 => .int
  | 11 => .int
  | 12 => .int
  | 13 => .int
  | 14 => .int
  | 15 => .array .int
  | 16 => .array .int
  | 17 => .array .int
  | 18 => .array .int
  | 19 => .array .boolean
  | 20 => .int
  | 21 => .int
  | 22 => .array .int
  | 23 => .array .int
  | 24 => .array .int
  | 25 => .int
  | _ => .int
abbrev wsX80 : List Cond := u_ws RX8 TX8 27
theorem nmX8 : ∀ a, a < 27 → ∀ b, b < 27 → a ≠ b → (TX8 a).2.1 ≠ (TX8 b).2.1 := by decide +kernel
theorem tyX8_ok : ∀ k, k < 27 → parseFieldDescriptor (TX8 k).2.2.1 = some (tyX8 k) := by decide +kernel
abbrev cX8_init : ByteArray := prog_10_method_1_code
def yX8_init : MethodName := ⟨RX8, "<init>", "()V"⟩
abbrev cX8_in : ByteArray := prog_10_method_3_code
def yX8_in : MethodName := ⟨RX8, "in", "(JJJ)Z"⟩
abbrev cX8_copies : ByteArray := prog_10_method_4_code
def yX8_copies : MethodName := ⟨RX8, "copies", "([II[II)V"⟩
abbrev cX8_isBook : ByteArray := prog_10_method_5_code
def yX8_isBook : MethodName := ⟨RX8, "isBook", "()Z"⟩
abbrev cX8_isYear : ByteArray := prog_10_method_6_code
def yX8_isYear : MethodName := ⟨RX8, "isYear", "(I)Z"⟩
abbrev cX8_isFeast : ByteArray := prog_10_method_7_code
def yX8_isFeast : MethodName := ⟨RX8, "isFeast", "(I)Z"⟩
abbrev cX8_of : ByteArray := prog_10_method_8_code
def yX8_of : MethodName := ⟨RX8, "of", "(II)I"⟩
abbrev cX8_isLeap : ByteArray := prog_10_method_9_code
def yX8_isLeap : MethodName := ⟨RX8, "isLeap", "(I)Z"⟩
abbrev cX8_dayOfDate : ByteArray := prog_10_method_10_code
def yX8_dayOfDate : MethodName := ⟨RX8, "dayOfDate", "(II)I"⟩
abbrev cX8_weekdayOf : ByteArray := prog_10_method_11_code
def yX8_weekdayOf : MethodName := ⟨RX8, "weekdayOf", "(I)I"⟩
abbrev cX8_sunday : ByteArray := prog_10_method_12_code
def yX8_sunday : MethodName := ⟨RX8, "sunday", "(I)I"⟩
abbrev cX8_opens : ByteArray := prog_10_method_13_code
def yX8_opens : MethodName := ⟨RX8, "opens", "(I)V"⟩
abbrev cX8_moon : ByteArray := prog_10_method_14_code
def yX8_moon : MethodName := ⟨RX8, "moon", "(I)I"⟩
abbrev cX8_spring : ByteArray := prog_10_method_15_code
def yX8_spring : MethodName := ⟨RX8, "spring", "(I)I"⟩
abbrev cX8_ownDay : ByteArray := prog_10_method_16_code
def yX8_ownDay : MethodName := ⟨RX8, "ownDay", "(II)I"⟩
abbrev cX8_isFree : ByteArray := prog_10_method_17_code
def yX8_isFree : MethodName := ⟨RX8, "isFree", "(I)Z"⟩
abbrev cX8_freeBehind : ByteArray := prog_10_method_18_code
def yX8_freeBehind : MethodName := ⟨RX8, "freeBehind", "(II)I"⟩
abbrev cX8_holds : ByteArray := prog_10_method_19_code
def yX8_holds : MethodName := ⟨RX8, "holds", "(III)V"⟩
abbrev cX8_comes : ByteArray := prog_10_method_20_code
def yX8_comes : MethodName := ⟨RX8, "comes", "(I)V"⟩
abbrev cX8_isAhead : ByteArray := prog_10_method_21_code
def yX8_isAhead : MethodName := ⟨RX8, "isAhead", "(II)Z"⟩
abbrev cX8_lays : ByteArray := prog_10_method_22_code
def yX8_lays : MethodName := ⟨RX8, "lays", "(II)V"⟩
abbrev cX8_nextFeast : ByteArray := prog_10_method_23_code
def yX8_nextFeast : MethodName := ⟨RX8, "nextFeast", "()I"⟩
abbrev cX8_rankOf : ByteArray := prog_10_method_24_code
def yX8_rankOf : MethodName := ⟨RX8, "rankOf", "(I)I"⟩
abbrev cX8_isHeld : ByteArray := prog_10_method_25_code
def yX8_isHeld : MethodName := ⟨RX8, "isHeld", "(I)Z"⟩
abbrev cX8_colourOf : ByteArray := prog_10_method_26_code
def yX8_colourOf : MethodName := ⟨RX8, "colourOf", "(I)I"⟩
abbrev cX8_servicesOf : ByteArray := prog_10_method_27_code
def yX8_servicesOf : MethodName := ⟨RX8, "servicesOf", "(I)I"⟩
abbrev cX8_readings : ByteArray := prog_10_method_28_code
def yX8_readings : MethodName := ⟨RX8, "readings", "(I)I"⟩
abbrev cX8_isAway : ByteArray := prog_10_method_29_code
def yX8_isAway : MethodName := ⟨RX8, "isAway", "(II)Z"⟩
abbrev cX8_had : ByteArray := prog_10_method_30_code
def yX8_had : MethodName := ⟨RX8, "had", "(II)Z"⟩
abbrev cX8_isBetter : ByteArray := prog_10_method_31_code
def yX8_isBetter : MethodName := ⟨RX8, "isBetter", "(III)Z"⟩
abbrev cX8_choose : ByteArray := prog_10_method_32_code
def yX8_choose : MethodName := ⟨RX8, "choose", "(IIIZ)I"⟩
abbrev cX8_laysRota : ByteArray := prog_10_method_33_code
def yX8_laysRota : MethodName := ⟨RX8, "laysRota", "(II)V"⟩
abbrev cX8_unfair : ByteArray := prog_10_method_34_code
def yX8_unfair : MethodName := ⟨RX8, "unfair", "(I)I"⟩
abbrev cX8_byteAt : ByteArray := prog_10_method_35_code
def yX8_byteAt : MethodName := ⟨RX8, "byteAt", "(I)I"⟩
abbrev cX8_reads : ByteArray := prog_10_method_36_code
def yX8_reads : MethodName := ⟨RX8, "reads", "()V"⟩
abbrev cX8_bad : ByteArray := prog_10_method_37_code
def yX8_bad : MethodName := ⟨RX8, "bad", "(I)V"⟩
abbrev cX8_goesOn : ByteArray := prog_10_method_38_code
def yX8_goesOn : MethodName := ⟨RX8, "goesOn", "()V"⟩
abbrev cX8_number : ByteArray := prog_10_method_39_code
def yX8_number : MethodName := ⟨RX8, "number", "(III)I"⟩
abbrev cX8_isLetter : ByteArray := prog_10_method_40_code
def yX8_isLetter : MethodName := ⟨RX8, "isLetter", "(I)Z"⟩
abbrev cX8_letter : ByteArray := prog_10_method_41_code
def yX8_letter : MethodName := ⟨RX8, "letter", "(I)V"⟩
abbrev cX8_sort : ByteArray := prog_10_method_42_code
def yX8_sort : MethodName := ⟨RX8, "sort", "()I"⟩
abbrev cX8_readsFeast : ByteArray := prog_10_method_43_code
def yX8_readsFeast : MethodName := ⟨RX8, "readsFeast", "()V"⟩
abbrev cX8_puts : ByteArray := prog_10_method_44_code
def yX8_puts : MethodName := ⟨RX8, "puts", "([IIIII)V"⟩
abbrev cX8_readsSeason : ByteArray := prog_10_method_45_code
def yX8_readsSeason : MethodName := ⟨RX8, "readsSeason", "()V"⟩
abbrev cX8_feed : ByteArray := prog_10_method_46_code
def yX8_feed : MethodName := ⟨RX8, "feed", "(I)I"⟩
abbrev cX8_readsAll : ByteArray := prog_10_method_47_code
def yX8_readsAll : MethodName := ⟨RX8, "readsAll", "()V"⟩
abbrev cX8_book : ByteArray := prog_10_method_48_code
def yX8_book : MethodName := ⟨RX8, "book", "()I"⟩
abbrev cX8_fault : ByteArray := prog_10_method_49_code
def yX8_fault : MethodName := ⟨RX8, "fault", "()I"⟩
abbrev cX8_notes : ByteArray := prog_10_method_50_code
def yX8_notes : MethodName := ⟨RX8, "notes", "()V"⟩
abbrev cX8_undo : ByteArray := prog_10_method_51_code
def yX8_undo : MethodName := ⟨RX8, "undo", "()I"⟩
abbrev cX8_isN : ByteArray := prog_10_method_52_code
def yX8_isN : MethodName := ⟨RX8, "isN", "(II)Z"⟩
abbrev cX8_mayBe : ByteArray := prog_10_method_53_code
def yX8_mayBe : MethodName := ⟨RX8, "mayBe", "(III)Z"⟩
abbrev cX8_alter : ByteArray := prog_10_method_54_code
def yX8_alter : MethodName := ⟨RX8, "alter", "(III)I"⟩
abbrev cX8_add : ByteArray := prog_10_method_55_code
def yX8_add : MethodName := ⟨RX8, "add", "(IIII)I"⟩
abbrev cX8_isLaw : ByteArray := prog_10_method_56_code
def yX8_isLaw : MethodName := ⟨RX8, "isLaw", "(II)Z"⟩
abbrev cX8_law : ByteArray := prog_10_method_57_code
def yX8_law : MethodName := ⟨RX8, "law", "(II)I"⟩
abbrev cX8_isChoir : ByteArray := prog_10_method_58_code
def yX8_isChoir : MethodName := ⟨RX8, "isChoir", "(I)Z"⟩
abbrev cX8_away : ByteArray := prog_10_method_59_code
def yX8_away : MethodName := ⟨RX8, "away", "(III)I"⟩
abbrev cX8_feast : ByteArray := prog_10_method_60_code
def yX8_feast : MethodName := ⟨RX8, "feast", "(II)I"⟩
abbrev cX8_sundays : ByteArray := prog_10_method_61_code
def yX8_sundays : MethodName := ⟨RX8, "sundays", "()I"⟩
abbrev cX8_manyHeld : ByteArray := prog_10_method_62_code
def yX8_manyHeld : MethodName := ⟨RX8, "manyHeld", "(Z)I"⟩
abbrev cX8_year : ByteArray := prog_10_method_63_code
def yX8_year : MethodName := ⟨RX8, "year", "(II)I"⟩
abbrev cX8_hasDay : ByteArray := prog_10_method_64_code
def yX8_hasDay : MethodName := ⟨RX8, "hasDay", "(III)Z"⟩
abbrev cX8_rememberedOn : ByteArray := prog_10_method_65_code
def yX8_rememberedOn : MethodName := ⟨RX8, "rememberedOn", "(I)I"⟩
abbrev cX8_day : ByteArray := prog_10_method_66_code
def yX8_day : MethodName := ⟨RX8, "day", "(III)I"⟩
abbrev cX8_held : ByteArray := prog_10_method_67_code
def yX8_held : MethodName := ⟨RX8, "held", "(III)I"⟩
abbrev cX8_psalm : ByteArray := prog_10_method_68_code
def yX8_psalm : MethodName := ⟨RX8, "psalm", "(III)I"⟩
abbrev cX8_read : ByteArray := prog_10_method_69_code
def yX8_read : MethodName := ⟨RX8, "read", "(III)I"⟩
abbrev cX8_sings : ByteArray := prog_10_method_70_code
def yX8_sings : MethodName := ⟨RX8, "sings", "(III)I"⟩
abbrev cX8_duties : ByteArray := prog_10_method_71_code
def yX8_duties : MethodName := ⟨RX8, "duties", "(III)I"⟩
abbrev cX8_fair : ByteArray := prog_10_method_72_code
def yX8_fair : MethodName := ⟨RX8, "fair", "(I)I"⟩
abbrev cX8_meet : ByteArray := prog_10_method_73_code
def yX8_meet : MethodName := ⟨RX8, "meet", "(III)I"⟩
abbrev cX8_springs : ByteArray := prog_10_method_74_code
def yX8_springs : MethodName := ⟨RX8, "springs", "(III)I"⟩
abbrev cX8_often : ByteArray := prog_10_method_75_code
def yX8_often : MethodName := ⟨RX8, "often", "(IIII)I"⟩
abbrev cX8_enough : ByteArray := prog_10_method_76_code
def yX8_enough : MethodName := ⟨RX8, "enough", "(II)I"⟩
abbrev cX8_best : ByteArray := prog_10_method_77_code
def yX8_best : MethodName := ⟨RX8, "best", "(I)I"⟩
abbrev cX8_bars : ByteArray := prog_10_method_78_code
def yX8_bars : MethodName := ⟨RX8, "bars", "(II)I"⟩
abbrev cX8_image : ByteArray := prog_10_method_79_code
def yX8_image : MethodName := ⟨RX8, "image", "(I)I"⟩
abbrev cX8_restore : ByteArray := prog_10_method_80_code
def yX8_restore : MethodName := ⟨RX8, "restore", "(I)I"⟩
abbrev cX8_count : ByteArray := prog_10_method_81_code
def yX8_count : MethodName := ⟨RX8, "count", "(I)I"⟩
def RJ9 : String := "java/lang/Math"
def TJ9 : u_T := fun k => match k with
  | _ => ("", "", "", false)
def tyJ9 : Nat → FieldType := fun k => match k with
  | _ => .int
abbrev cJ9_max_7cf53 : ByteArray := prog_11_method_65_code
def yJ9_max_7cf53 : MethodName := ⟨RJ9, "max", "(II)I"⟩
abbrev cJ9_min_7cf53 : ByteArray := prog_11_method_69_code
def yJ9_min_7cf53 : MethodName := ⟨RJ9, "min", "(II)I"⟩
def RJ10 : String := "java/lang/System"
def TJ10 : u_T := fun k => match k with
  | _ => ("", "", "", false)
def tyJ10 : Nat → FieldType := fun k => match k with
  | _ => .int
def RJ7 : String := "java/util/Arrays"
def TJ7 : u_T := fun k => match k with
  | _ => ("", "", "", false)
def tyJ7 : Nat → FieldType := fun k => match k with
  | _ => .int
abbrev cJ7_fill_53178 : ByteArray := prog_13_method_103_code
def yJ7_fill_53178 : MethodName := ⟨RJ7, "fill", "([II)V"⟩
def RL : String := "FeastRotaLaw"
abbrev cL_law : ByteArray := code
def yL_law : MethodName := ⟨RL, "law", "([I)Z"⟩
end
section
/-! THE WORLD of the law: 67 cells, those of x (0 to 51) in the order of their making, then those of m (52 to 66). A memory: of each cell, what its slots hold. -/
abbrev fr_N : Type := Nat → Nat → Int32
abbrev fr_M : Type := fr_N × fr_N
/-- a cell's row told anew -/
def fr_row (n : fr_N) (c : Nat) (f : Nat → Int32) : fr_N := fun c' => if c' = c then f else n c'
/-- one slot told anew -/
def fr_up (n : fr_N) (c j : Nat) (x : Int32) : fr_N := fr_row n c (upd (n c) j x)
/-- a row copied into another one -/
def fr_cp (n : fr_N) (c0 c1 sp dp k : Nat) : fr_N := fr_row n c1 (va_cpy (n c0) (n c1) sp dp k)
def fr_b (b : Bool) : Int32 := match b with
  | true => 1
  | false => 0
def fr_rem (x y : Int32) : Int32 := x - x / y * y
abbrev fr_cl : List vw_C := [(RX0, TX0, 5), (RX1, TX1, 11), (RX2, TX2, 4), (RX3, TX3, 6), (RX4, TX4, 6), (RX5, TX5, 8), (RX6, TX6, 2), (RX7, TX7, 8), (RX8, TX8, 27)]
/-- a cell's shape: an object of a class, its fields either a cell or a number; a row of a kind (0 int, 1 boolean, 2 Books) and length -/
abbrev fr_S : Type := (Nat × List (Option Nat)) ⊕ (Nat × Nat)
def fr_bk (b : Nat) : fr_S := .inl (1, [none, none, none, none, some (b + 1), some (b + 2), some (b + 3), some (b + 4), some (b + 5), some (b + 6), some (b + 7)])
def fr_sh (k : Nat) : fr_S := match k with
  | 0 => .inl (7, [some 1, some 34, some 3, some 17, some 43, some 11, some 48, none])
  | 1 => .inl (6, [some 2, none])
  | 2 => .inr (0, 160)
  | 3 => fr_bk 3
  | 4 => .inr (0, 6)
  | 5 => .inr (0, 48)
  | 6 => .inr (0, 4)
  | 7 => .inr (0, 4)
  | 8 => .inr (0, 4)
  | 9 => .inr (0, 5)
  | 10 => .inr (0, 5)
  | 11 => .inl (3, [some 3, some 12, some 13, some 14, some 15, some 16])
  | 12 => .inl (2, [none, none, none, none])
  | 13 => .inr (0, 12)
  | 14 => .inr (0, 12)
  | 15 => .inr (0, 12)
  | 16 => .inr (0, 367)
  | 17 => .inr (2, 2)
  | 18 => fr_bk 18
  | 19 => .inr (0, 6)
  | 20 => .inr (0, 48)
  | 21 => .inr (0, 4)
  | 22 => .inr (0, 4)
  | 23 => .inr (0, 4)
  | 24 => .inr (0, 5)
  | 25 => .inr (0, 5)
  | 26 => fr_bk 26
  | 27 => .inr (0, 6)
  | 28 => .inr (0, 48)
  | 29 => .inr (0, 4)
  | 30 => .inr (0, 4)
  | 31 => .inr (0, 4)
  | 32 => .inr (0, 5)
  | 33 => .inr (0, 5)
  | 34 => .inl (4, [some 1, some 35, none, none, none, none])
  | 35 => fr_bk 35
  | 36 => .inr (0, 6)
  | 37 => .inr (0, 48)
  | 38 => .inr (0, 4)
  | 39 => .inr (0, 4)
  | 40 => .inr (0, 4)
  | 41 => .inr (0, 5)
  | 42 => .inr (0, 5)
  | 43 => .inl (0, [some 44, some 45, some 46, some 47, none])
  | 44 => .inr (0, 16)
  | 45 => .inr (0, 16)
  | 46 => .inr (0, 16)
  | 47 => .inr (0, 16)
  | 48 => .inl (5, [some 3, some 11, some 49, some 50, some 51, none, none, none])
  | 49 => .inr (0, 5)
  | 50 => .inr (0, 5)
  | 51 => .inr (0, 4)
  | 52 => .inl (8, [some 53, some 54, some 55, none, some 56, some 57, some 58, none, none, none, none, none, none, none, none, some 59, some 60, some 61, some 62, some 63, none, none, some 64, some 65, some 66, none, none])
  | 53 => .inr (0, 79)
  | 54 => .inr (0, 79)
  | 55 => .inr (0, 1264)
  | 56 => .inr (0, 158)
  | 57 => .inr (1, 2)
  | 58 => .inr (0, 160)
  | 59 => .inr (0, 367)
  | 60 => .inr (0, 12)
  | 61 => .inr (0, 12)
  | 62 => .inr (0, 12)
  | 63 => .inr (1, 12)
  | 64 => .inr (0, 5)
  | 65 => .inr (0, 5)
  | _ => .inr (0, 4)
/-- what a run of the law has given: class numbers, the three kinds of rows, the cells' addresses (67 to 69: the class's three tables; 70: the script), the script's length, the script -/
abbrev fr_G : Type := va_G × ClassId × ClassId × ClassId × (Nat → Nat) × Nat × (Nat → Int32)
def fr_gD (G : fr_G) : va_G := G.1
def fr_gI (G : fr_G) : ClassId := G.2.1
def fr_gZ (G : fr_G) : ClassId := G.2.2.1
def fr_gB (G : fr_G) : ClassId := G.2.2.2.1
def fr_ad (G : fr_G) : Nat → Nat := G.2.2.2.2.1
def fr_gL (G : fr_G) : Nat := G.2.2.2.2.2.1
def fr_gX (G : fr_G) : Nat → Int32 := G.2.2.2.2.2.2
def fr_ty (G : fr_G) : List (ClassId × FieldType) := [(fr_gI G, .int), (fr_gZ G, .boolean), (fr_gB G, .object RX1)]
def fr_fv (G : fr_G) (o : Option Nat) (x : Int32) : Value := match o with
  | some k => .ref (fr_ad G k)
  | none => .int x
def fr_fs (G : fr_G) (fs : List (Option Nat)) (f : Nat → Int32) : List Value := (List.range fs.length).map (fun j => fr_fv G (fs.getD j none) (f j))
def fr_ce (G : fr_G) (q : fr_S) (f : Nat → Int32) : va_E := match q with
  | .inl (c, fs) => .inr (c, fr_fs G fs f)
  | .inr (0, n) => .inl (fr_gI G, n, .inl f)
  | .inr (1, n) => .inl (fr_gZ G, n, .inl f)
  | .inr (_, n) => .inl (fr_gB G, n, .inr (.inr (.inr (.inr (fun j => some (fr_ad G (18 + 8 * j)))))))
def fr_ct (M : fr_M) (k : Nat) : Nat → Int32 := if k < 52 then M.1 k else M.2 (k - 52)
def fr_ws (G : fr_G) (M : fr_M) : va_W := (List.range 67).map (fun k => (fr_ad G k, fr_ce G (fr_sh k) (fr_ct M k)))
theorem fr_ws_at {G : fr_G} {M : fr_M} {k : Nat} (h : k < 67) : (fr_ws G M)[k]? = some (fr_ad G k, fr_ce G (fr_sh k) (fr_ct M k)) := by
  simp [fr_ws, List.getElem?_range h]
theorem fr_ws_len {G : fr_G} {M : fr_M} : (fr_ws G M).length = 67 := by simp [fr_ws]
/-- a cell of the world told anew -/
theorem fr_ws_set {G : fr_G} {M M' : fr_M} {k : Nat} (h : k < 67) {e : va_E} (he : e = fr_ce G (fr_sh k) (fr_ct M' k)) (ho : ∀ j, j ≠ k → fr_ct M' j = fr_ct M j) : (fr_ws G M).set k (fr_ad G k, e) = fr_ws G M' := by
  apply List.ext_getElem?
  intro j
  by_cases hj : j = k
  · subst hj
    rw [List.getElem?_set_self (by rw [fr_ws_len]; exact h), fr_ws_at h, he]
  · rw [List.getElem?_set_ne (Ne.symm hj)]
    by_cases h67 : j < 67
    · rw [fr_ws_at h67, fr_ws_at h67, ho j hj]
    · rw [List.getElem?_eq_none (by rw [fr_ws_len]; omega), List.getElem?_eq_none (by rw [fr_ws_len]; omega)]
/-- writing a row of x or of m -/
def fr_wr (M : fr_M) (k : Nat) (f : Nat → Int32) : fr_M := if k < 52 then (fr_row M.1 k f, M.2) else (M.1, fr_row M.2 (k - 52) f)
theorem fr_ct_wr {M : fr_M} {k : Nat} {f : Nat → Int32} : fr_ct (fr_wr M k f) k = f := by
  unfold fr_ct fr_wr
  by_cases h : k < 52
  · simp [h, fr_row]
  · simp [h, fr_row]
theorem fr_ct_wr_ne {M : fr_M} {k j : Nat} {f : Nat → Int32} (hj : j ≠ k) : fr_ct (fr_wr M k f) j = fr_ct M j := by
  unfold fr_ct fr_wr
  by_cases h : k < 52
  · by_cases h2 : j < 52
    · simp [h, h2, fr_row, hj]
    · simp [h, h2]
  · by_cases h2 : j < 52
    · simp [h, h2]
    · have : ¬ (j - 52 = k - 52) := by omega
      simp [h, h2, fr_row, this]
theorem fr_fs_at {G : fr_G} {fs : List (Option Nat)} {f : Nat → Int32} {j : Nat} {o : Option Nat} (h : fs[j]? = some o) : (fr_fs G fs f)[j]? = some (fr_fv G o (f j)) := by
  have hl : j < fs.length := (List.getElem?_eq_some_iff.mp h).1
  simp [fr_fs, List.getElem?_range hl, h]
theorem fr_fs_len {G : fr_G} {fs : List (Option Nat)} {f : Nat → Int32} : (fr_fs G fs f).length = fs.length := by simp [fr_fs]
theorem fr_fs_set {G : fr_G} {fs : List (Option Nat)} {f : Nat → Int32} {j : Nat} {x : Int32} (h : fs[j]? = some none) : (fr_fs G fs f).set j (.int x) = fr_fs G fs (upd f j x) := by
  apply List.ext_getElem?
  intro i
  have hl : j < fs.length := (List.getElem?_eq_some_iff.mp h).1
  by_cases hi : i = j
  · subst hi
    rw [List.getElem?_set_self (by rw [fr_fs_len]; exact hl), fr_fs_at h]
    simp [fr_fv, upd]
  · rw [List.getElem?_set_ne (Ne.symm hi)]
    by_cases h2 : i < fs.length
    · have h3 : fs[i]? = some fs[i] := List.getElem?_eq_getElem h2
      rw [fr_fs_at h3, fr_fs_at h3]
      simp [upd, hi]
    · rw [List.getElem?_eq_none (by rw [fr_fs_len]; omega), List.getElem?_eq_none (by rw [fr_fs_len]; omega)]
/-- the cells that the world's own are -/
def fr_A (G : fr_G) : Nat → Prop := fun q => ∃ k, k < 67 ∧ q = fr_ad G k
/-- a value as the machine has it: cells by their addresses -/
def fr_v (G : fr_G) (v : Value) : Value := match v with
  | .ref k => .ref (fr_ad G k)
  | w => w
theorem fr_v_cat (G : fr_G) (v : Value) : (fr_v G v).category = v.category := by cases v <;> rfl
/-- the class's three tables -/
def fr_tb1 (j : Nat) : Int32 := match j with
  | 3 => 10
  | 4 => 1
  | _ => 0
def fr_tb2 (j : Nat) : Int32 := match j with
  | 0 => 2
  | 1 => 29
  | 2 => 6
  | 3 => 150
  | 4 => 9
  | _ => 2
def fr_tb3 (j : Nat) : Int32 := match j with
  | 0 => 1
  | 1 => 1
  | 2 => 2
  | 3 => 2
  | 4 => 3
  | _ => 4
def fr_St (G : fr_G) (A : Nat → Prop) (U : State) (H : Heap) : Prop :=
  va_Z RX7 "LEAST_LAW" "[I" (.ref (fr_ad G 67)) A U H ∧ va_Z RX7 "GREATEST_LAW" "[I" (.ref (fr_ad G 68)) A U H ∧ va_Z RX7 "SERVICES_BY_RANK" "[I" (.ref (fr_ad G 69)) A U H ∧
  va_T .int (fr_ad G 67) 6 (fun j => .int (fr_tb1 j)) A U H ∧ va_T .int (fr_ad G 68) 6 (fun j => .int (fr_tb2 j)) A U H ∧ va_T .int (fr_ad G 69) 6 (fun j => .int (fr_tb3 j)) A U H
theorem fr_St.moved {G : fr_G} {A : Nat → Prop} {u U : State} {H : Heap} (hvm : u.vm.Alike U.vm) (h : fr_St G A u H) : fr_St G A U H := by
  obtain ⟨h1, h2, h3, h4, h5, h6⟩ := h
  exact ⟨h1.moved hvm, h2.moved hvm, h3.moved hvm, h4.moved hvm, h5.moved hvm, h6.moved hvm⟩
theorem fr_St.kept {G : fr_G} {A : Nat → Prop} {U : State} {H H1 : Heap} (h : fr_St G A U H) (hq : ∀ a : Nat, a < H.size → ¬ A a → H1[a]? = H[a]?) : fr_St G A U H1 := by
  obtain ⟨h1, h2, h3, h4, h5, h6⟩ := h
  exact ⟨h1.kept hq, h2.kept hq, h3.kept hq, h4.kept hq, h5.kept hq, h6.kept hq⟩
theorem fr_St.narrow {G : fr_G} {A B : Nat → Prop} {U : State} {H : Heap} (h : fr_St G A U H) (hAB : ∀ q, B q → A q) : fr_St G B U H := by
  obtain ⟨h1, h2, h3, h4, h5, h6⟩ := h
  exact ⟨h1.narrow hAB, h2.narrow hAB, h3.narrow hAB, h4.narrow hAB, h5.narrow hAB, h6.narrow hAB⟩
/-- words that a warm machine keeps, and those on nest mates, which are carried by themselves -/
def fr_tb : List Cond := lw_tbl.filter goodWord
theorem fr_in {w : Cond} {i : Nat} (h : lw_tbl[i]? = some w) (hg : goodWord w = true) : w ∈ fr_tb := List.mem_filter.mpr ⟨List.mem_of_getElem? h, hg⟩
theorem fr_good : GoodIn fr_tb fr_tb := fun _ hw => ⟨hw, good_of_word (List.mem_filter.mp hw).2⟩
def fr_nm : List (String × Nat) := [(RX0, 48), (RX1, 33), (RX2, 54), (RX3, 91), (RX4, 112)]
def fr_nf : List (String × Nat × String) := [(RX3, 122, "SERVICES_BY_RANK"), (RX4, 115, "LEAST_LAW"), (RX4, 119, "GREATEST_LAW")]
def fr_Nw (U : State) : Prop := (∀ q ∈ fr_nm, va_Nw (.methodLinkNest q.1 q.2 yX7_within RX7) U) ∧ ∀ q ∈ fr_nf, va_Nw (.fieldLinkNest q.1 q.2.1 RX7 q.2.2 "[I" RX7) U
theorem fr_Nw.warm {s U : State} (hW : s.WarmedH U.vm) (h : fr_Nw s) : fr_Nw U := ⟨fun q hq => va_Nw.warmM hW (h.1 q hq), fun q hq => va_Nw.warmF hW (h.2 q hq)⟩
theorem fr_Nw.same {u U : State} (hv : u.vm = U.vm) (h : fr_Nw u) : fr_Nw U := ⟨fun q hq => va_Nw.same rfl hv (h.1 q hq), fun q hq => va_Nw.same rfl hv (h.2 q hq)⟩
/-- a method: its name, code, locals, what it returns, the room that it has -/
abbrev fr_Y : Type := MethodName × ByteArray × Nat × Option FieldType × Room
/-- what stands while a method is walked -/
abbrev fr_K : Type := Program × Launch × Env × Room × State × MethodId × Array Value × List Frame × Method × Code × Nat × Nat × (State → Prop) × fr_G × (Nat → Prop)
def fr_W (K : fr_K) (H : Heap) (locs : List Loc) (g : JFrame) : Prop := match K with
  | (p, l, e, R, s, m, args, below, meth, c, cells, slots, Q, _, _) => W p l e R s m args below meth c H locs cells slots Q g
def fr_F (Y : fr_Y) (K : fr_K) : Prop := match K with
  | (p, _, _, R, s, m, args, _, _, c, cells, slots, _, G, A) => p.tables.exec = Jvm.exec ∧ c.code = Y.2.1 ∧ c.maxLocals = Y.2.2.1 ∧ s.vm.findClass Y.1.cls = some m.cls ∧ (∀ w ∈ fr_tb, w.before args s = true) ∧ R = Y.2.2.2.2 ∧ (cells ≤ R.cells ∧ slots ≤ R.slots) ∧
    va_K (fr_gD G) fr_cl (fr_ty G) s ∧ (∀ M, va_D A (fr_ws G M)) ∧ fr_St G A s s.heap ∧ fr_Nw s
def fr_kG (K : fr_K) : fr_G := match K with
  | (_, _, _, _, _, _, _, _, _, _, _, _, _, G, _) => G
def fr_kA (K : fr_K) : Nat → Prop := match K with
  | (_, _, _, _, _, _, _, _, _, _, _, _, _, _, A) => A
def fr_ks (K : fr_K) : State := match K with
  | (_, _, _, _, s, _, _, _, _, _, _, _, _, _, _) => s
def fr_km (K : fr_K) : MethodId := match K with
  | (_, _, _, _, _, m, _, _, _, _, _, _, _, _, _) => m
def fr_kl (K : fr_K) : Launch := match K with
  | (_, l, _, _, _, _, _, _, _, _, _, _, _, _, _) => l
/-- the locals: those that are told -/
def fr_L (G : fr_G) (n : Nat) (L : List (Option Value)) (ls : Array Slot) : Prop := ls.size = n ∧ lv_wf ls ∧ ∀ (i : Nat) (v : Value), L[i]? = some (some v) → ls[i]? = some (.val (fr_v G v))
/-- THE JUDGEMENT: from this place of the method, with these locals, this stack and this memory, the machine comes to its goal -/
def fr_V (Y : fr_Y) (K : fr_K) (pc : Nat) (L : List (Option Value)) (st : List Value) (M : fr_M) : Prop :=
  ∀ (H : Heap) (locs : List Loc) (ls : Array Slot), va_P (fr_gD (fr_kG K)) fr_cl (fr_ws (fr_kG K) M) H → va_S (fr_kA K) (fr_ks K).heap H locs → fr_L (fr_kG K) Y.2.2.1 L ls → fr_W K H locs (F0 (fr_km K) pc ls (st.map (fr_v (fr_kG K))))
end
section
/-! ROWS: an instruction a row -/
def fr_get : List (Option Value) → Nat → Option Value
  | [], _ => none
  | a :: _, 0 => a
  | _ :: t, n + 1 => fr_get t n
def fr_set : List (Option Value) → Nat → Value → List (Option Value)
  | [], _, _ => []
  | _ :: t, 0, v => some v :: t
  | a :: t, n + 1, v => a :: fr_set t n v
/-- a long: the slot behind it is nobody's -/
def fr_set2 : List (Option Value) → Nat → Value → List (Option Value)
  | [], _, _ => []
  | _ :: t, 0, v => some v :: (match t with
    | [] => []
    | _ :: u => none :: u)
  | a :: t, n + 1, v => a :: fr_set2 t n v
/-- no long stands just ahead -/
def fr_ok : List (Option Value) → Nat → Bool
  | [], _ => true
  | _ :: _, 0 => true
  | a :: _, 1 => match a with
    | some v => decide (v.category = 1)
    | none => true
  | _ :: t, n + 2 => fr_ok t (n + 1)
theorem fr_get_eq : ∀ (L : List (Option Value)) (i : Nat) (v : Value), fr_get L i = some v → L[i]? = some (some v)
  | [], _, _, h => by cases h
  | _ :: _, 0, _, h => by simpa [fr_get] using h
  | _ :: t, n + 1, v, h => by simpa using fr_get_eq t n v h
theorem fr_eq_get : ∀ (L : List (Option Value)) (i : Nat) (v : Value), L[i]? = some (some v) → fr_get L i = some v
  | [], _, _, h => by simp at h
  | _ :: _, 0, _, h => by simpa [fr_get] using h
  | _ :: t, n + 1, v, h => fr_eq_get t n v (by simpa using h)
theorem fr_get_set : ∀ (L : List (Option Value)) (i j : Nat) (v w : Value), fr_get (fr_set L i v) j = some w → (j = i ∧ w = v) ∨ (j ≠ i ∧ fr_get L j = some w)
  | [], _, _, _, _, h => by cases h
  | _ :: _, 0, 0, v, w, h => Or.inl ⟨rfl, (Option.some.inj h).symm⟩
  | _ :: _, 0, _ + 1, v, w, h => Or.inr ⟨by omega, h⟩
  | _ :: _, _ + 1, 0, v, w, h => Or.inr ⟨by omega, h⟩
  | _ :: t, i + 1, j + 1, v, w, h => by
    rcases fr_get_set t i j v w h with ⟨h1, h2⟩ | ⟨h1, h2⟩
    · exact Or.inl ⟨by omega, h2⟩
    · exact Or.inr ⟨by omega, h2⟩
theorem fr_get_set2 : ∀ (L : List (Option Value)) (i j : Nat) (v w : Value), fr_get (fr_set2 L i v) j = some w → (j = i ∧ w = v) ∨ (j ≠ i ∧ j ≠ i + 1 ∧ fr_get L j = some w)
  | [], _, _, _, _, h => by cases h
  | _ :: _, 0, 0, v, w, h => Or.inl ⟨rfl, (Option.some.inj h).symm⟩
  | _ :: [], 0, _ + 1, v, w, h => by cases h
  | _ :: _ :: _, 0, 1, v, w, h => by cases h
  | _ :: _ :: _, 0, _ + 2, v, w, h => Or.inr ⟨by omega, by omega, h⟩
  | _ :: _, _ + 1, 0, v, w, h => Or.inr ⟨by omega, by omega, h⟩
  | _ :: t, i + 1, j + 1, v, w, h => by
    rcases fr_get_set2 t i j v w h with ⟨h1, h2⟩ | ⟨h1, h2, h3⟩
    · exact Or.inl ⟨by omega, h2⟩
    · exact Or.inr ⟨by omega, by omega, h3⟩
theorem fr_ok_cat : ∀ (L : List (Option Value)) (i j : Nat) (w : Value), fr_ok L i = true → j + 1 = i → fr_get L j = some w → w.category = 1
  | [], _, _, _, _, _, h => by cases h
  | _ :: _, 0, _, _, _, h, _ => by omega
  | a :: _, 1, 0, w, h, _, hg => by
    have ha : a = some w := hg
    subst ha
    exact of_decide_eq_true h
  | _ :: _, 1, _ + 1, _, _, h, _ => by omega
  | _ :: _, _ + 2, 0, _, _, h, _ => by omega
  | _ :: t, n + 2, j + 1, w, h, hj, hg => fr_ok_cat t (n + 1) j w h (by omega) hg
/-- the locals that are told, as the kit lists them -/
def fr_ll (G : fr_G) (L : List (Option Value)) : List (Nat × Value) := (List.range L.length).filterMap (fun i => (fr_get L i).map (fun v => (i, fr_v G v)))
theorem fr_ll_mem {G : fr_G} {L : List (Option Value)} {i : Nat} {v : Value} (h : fr_get L i = some v) : (i, fr_v G v) ∈ fr_ll G L := by
  have hl : i < L.length := (List.getElem?_eq_some_iff.mp (fr_get_eq L i v h)).1
  exact List.mem_filterMap.mpr ⟨i, List.mem_range.mpr hl, by rw [h]; rfl⟩
theorem fr_ll_has {G : fr_G} {n : Nat} {L : List (Option Value)} {ls : Array Slot} (h : fr_L G n L ls) : lv_has ls n (fr_ll G L) := by
  refine ⟨h.1, h.2.1, fun q hq => ?_⟩
  obtain ⟨i, -, hi⟩ := List.mem_filterMap.mp hq
  cases hg : fr_get L i with
  | none => rw [hg] at hi; cases hi
  | some v =>
    rw [hg] at hi
    obtain rfl := Option.some.inj hi
    exact h.2.2 i v (fr_get_eq L i v hg)
theorem fr_at {G : fr_G} {n : Nat} {L : List (Option Value)} {ls : Array Slot} {i : Nat} {v : Value} (h : fr_L G n L ls) (hg : fr_get L i = some v) : ls[i]? = some (.val (fr_v G v)) := h.2.2 i v (fr_get_eq L i v hg)
theorem fr_st1 {G : fr_G} {n : Nat} {L : List (Option Value)} {ls : Array Slot} {i : Nat} {v : Value} (ho : fr_ok L i = true) (h : lv_has ls n ((i, fr_v G v) :: (fr_ll G L).filter (fun q => !(q.1 == i) && !(q.1 + 1 == i && q.2.category == 2)))) : fr_L G n (fr_set L i v) ls := by
  refine ⟨h.1, h.2.1, fun j w hj => ?_⟩
  rcases fr_get_set L i j v w (fr_eq_get _ _ _ hj) with ⟨rfl, rfl⟩ | ⟨h1, h2⟩
  · exact h.2.2 (j, fr_v G w) List.mem_cons_self
  · refine h.2.2 (j, fr_v G w) (List.mem_cons_of_mem _ (List.mem_filter.mpr ⟨fr_ll_mem h2, ?_⟩))
    by_cases h3 : j + 1 = i
    · have := fr_ok_cat L i j w ho h3 h2
      simp [h1, fr_v_cat, this]
    · simp [h1, h3]
theorem fr_st2 {G : fr_G} {n : Nat} {L : List (Option Value)} {ls : Array Slot} {i : Nat} {v : Value} (ho : fr_ok L i = true) (h : lv_has ls n ((i, fr_v G v) :: (fr_ll G L).filter (fun q => !(q.1 == i) && (!(q.1 == i + 1) && !(q.1 + 1 == i && q.2.category == 2))))) : fr_L G n (fr_set2 L i v) ls := by
  refine ⟨h.1, h.2.1, fun j w hj => ?_⟩
  rcases fr_get_set2 L i j v w (fr_eq_get _ _ _ hj) with ⟨rfl, rfl⟩ | ⟨h1, h0, h2⟩
  · exact h.2.2 (j, fr_v G w) List.mem_cons_self
  · refine h.2.2 (j, fr_v G w) (List.mem_cons_of_mem _ (List.mem_filter.mpr ⟨fr_ll_mem h2, ?_⟩))
    by_cases h3 : j + 1 = i
    · have := fr_ok_cat L i j w ho h3 h2
      simp [h1, h0, fr_v_cat, this]
    · simp [h1, h0, h3]
section FRR
variable {Y : fr_Y} {K : fr_K} {pc q : Nat} {L : List (Option Value)} {st : List Value} {M : fr_M}
theorem fr_iconst {n : Int} {v : Int32} (F : fr_F Y K) (hd : decode Y.2.1 pc = .ok (.iconst n, 1)) (hq : pc + 1 = q) (hv : Int32.ofInt n = v) (k : fr_V Y K q L (.int v :: st) M) : fr_V Y K pc L (st) M := by
  subst hq
  obtain ⟨p, l, e, R, s, m, args, below, meth, c, cells, slots, Q, G, A⟩ := K
  intro H locs ls hP hS hl
  exact lv_iconst F.1 F.2.1 hd hv (k H locs ls hP hS hl)
theorem fr_bipush {n : Int} {v : Int32} (F : fr_F Y K) (hd : decode Y.2.1 pc = .ok (.bipush n, 2)) (hq : pc + 2 = q) (hv : (Int8.ofInt n).toInt32 = v) (k : fr_V Y K q L (.int v :: st) M) : fr_V Y K pc L (st) M := by
  subst hq
  obtain ⟨p, l, e, R, s, m, args, below, meth, c, cells, slots, Q, G, A⟩ := K
  intro H locs ls hP hS hl
  exact lv_bipush F.1 F.2.1 hd hv (k H locs ls hP hS hl)
theorem fr_sipush {n : Int} {v : Int32} (F : fr_F Y K) (hd : decode Y.2.1 pc = .ok (.sipush n, 3)) (hq : pc + 3 = q) (hv : (Int16.ofInt n).toInt32 = v) (k : fr_V Y K q L (.int v :: st) M) : fr_V Y K pc L (st) M := by
  subst hq
  obtain ⟨p, l, e, R, s, m, args, below, meth, c, cells, slots, Q, G, A⟩ := K
  intro H locs ls hP hS hl
  exact lv_sipush F.1 F.2.1 hd hv (k H locs ls hP hS hl)
theorem fr_lconst {n : Fin 2} {v : Int64} (F : fr_F Y K) (hd : decode Y.2.1 pc = .ok (.lconst n, 1)) (hq : pc + 1 = q) (hv : Int64.ofNat (n : Nat) = v) (k : fr_V Y K q L (.long v :: st) M) : fr_V Y K pc L (st) M := by
  subst hq
  obtain ⟨p, l, e, R, s, m, args, below, meth, c, cells, slots, Q, G, A⟩ := K
  intro H locs ls hP hS hl
  exact lv_lconst F.1 F.2.1 hd hv (k H locs ls hP hS hl)
theorem fr_ldc {n : Nat} {v : Int32} (F : fr_F Y K) (hd : decode Y.2.1 pc = .ok (.ldc n, 2)) (hq : pc + 2 = q) (hw : Cond.constant Y.1.cls n v ∈ fr_tb) (k : fr_V Y K q L (.int v :: st) M) : fr_V Y K pc L (st) M := by
  subst hq
  obtain ⟨p, l, e, R, s, m, args, below, meth, c, cells, slots, Q, G, A⟩ := K
  intro H locs ls hP hS hl
  exact lv_ldc F.1 F.2.1 F.2.2.2.1 (F.2.2.2.2.1 _ hw) hd (k H locs ls hP hS hl)
theorem fr_ldcw {n : Nat} {v : Int32} (F : fr_F Y K) (hd : decode Y.2.1 pc = .ok (.ldc_w n, 3)) (hq : pc + 3 = q) (hw : Cond.constant Y.1.cls n v ∈ fr_tb) (k : fr_V Y K q L (.int v :: st) M) : fr_V Y K pc L (st) M := by
  subst hq
  obtain ⟨p, l, e, R, s, m, args, below, meth, c, cells, slots, Q, G, A⟩ := K
  intro H locs ls hP hS hl
  exact lv_ldcw F.1 F.2.1 F.2.2.2.1 (F.2.2.2.2.1 _ hw) hd (k H locs ls hP hS hl)
theorem fr_ldc2 {n : Nat} {v : Int64} (F : fr_F Y K) (hd : decode Y.2.1 pc = .ok (.ldc2_w n, 3)) (hq : pc + 3 = q) (hw : Cond.constantLong Y.1.cls n v ∈ fr_tb) (k : fr_V Y K q L (.long v :: st) M) : fr_V Y K pc L (st) M := by
  subst hq
  obtain ⟨p, l, e, R, s, m, args, below, meth, c, cells, slots, Q, G, A⟩ := K
  intro H locs ls hP hS hl
  exact lv_ldc2 F.1 F.2.1 F.2.2.2.1 (F.2.2.2.2.1 _ hw) hd (k H locs ls hP hS hl)
theorem fr_iload_n {n : Fin 4} {x : Int32} (F : fr_F Y K) (hd : decode Y.2.1 pc = .ok (.iload_n n, 1)) (hq : pc + 1 = q) (hg : fr_get L n.val = some (.int x)) (k : fr_V Y K q L (.int x :: st) M) : fr_V Y K pc L (st) M := by
  subst hq
  obtain ⟨p, l, e, R, s, m, args, below, meth, c, cells, slots, Q, G, A⟩ := K
  intro H locs ls hP hS hl
  exact lv_iload_n F.1 F.2.1 hd rfl (fr_at hl hg) (k H locs ls hP hS hl)
theorem fr_iload {n : Nat} {x : Int32} (F : fr_F Y K) (hd : decode Y.2.1 pc = .ok (.iload n, 2)) (hq : pc + 2 = q) (hg : fr_get L n = some (.int x)) (k : fr_V Y K q L (.int x :: st) M) : fr_V Y K pc L (st) M := by
  subst hq
  obtain ⟨p, l, e, R, s, m, args, below, meth, c, cells, slots, Q, G, A⟩ := K
  intro H locs ls hP hS hl
  exact lv_iload F.1 F.2.1 hd (fr_at hl hg) (k H locs ls hP hS hl)
theorem fr_istore_n {n : Fin 4} {x : Int32} (F : fr_F Y K) (hd : decode Y.2.1 pc = .ok (.istore_n n, 1)) (hq : pc + 1 = q) (hn : n.val < Y.2.2.1) (ho : fr_ok L n.val = true) (k : fr_V Y K q (fr_set L n.val (.int x)) (st) M) : fr_V Y K pc L (.int x :: st) M := by
  subst hq
  obtain ⟨p, l, e, R, s, m, args, below, meth, c, cells, slots, Q, G, A⟩ := K
  intro H locs ls hP hS hl
  exact lv_istore_n F.1 F.2.1 hd rfl (fr_ll_has hl) hn rfl (fun ls' h => k H locs ls' hP hS (fr_st1 (v := .int x) ho h))
theorem fr_istore {n : Nat} {x : Int32} (F : fr_F Y K) (hd : decode Y.2.1 pc = .ok (.istore n, 2)) (hq : pc + 2 = q) (hn : n < Y.2.2.1) (ho : fr_ok L n = true) (k : fr_V Y K q (fr_set L n (.int x)) (st) M) : fr_V Y K pc L (.int x :: st) M := by
  subst hq
  obtain ⟨p, l, e, R, s, m, args, below, meth, c, cells, slots, Q, G, A⟩ := K
  intro H locs ls hP hS hl
  exact lv_istore F.1 F.2.1 hd (fr_ll_has hl) hn rfl (fun ls' h => k H locs ls' hP hS (fr_st1 (v := .int x) ho h))
theorem fr_lload_n {n : Fin 4} {x : Int64} (F : fr_F Y K) (hd : decode Y.2.1 pc = .ok (.lload_n n, 1)) (hq : pc + 1 = q) (hg : fr_get L n.val = some (.long x)) (k : fr_V Y K q L (.long x :: st) M) : fr_V Y K pc L (st) M := by
  subst hq
  obtain ⟨p, l, e, R, s, m, args, below, meth, c, cells, slots, Q, G, A⟩ := K
  intro H locs ls hP hS hl
  exact lv_lload_n F.1 F.2.1 hd rfl (fr_at hl hg) (k H locs ls hP hS hl)
theorem fr_lload {n : Nat} {x : Int64} (F : fr_F Y K) (hd : decode Y.2.1 pc = .ok (.lload n, 2)) (hq : pc + 2 = q) (hg : fr_get L n = some (.long x)) (k : fr_V Y K q L (.long x :: st) M) : fr_V Y K pc L (st) M := by
  subst hq
  obtain ⟨p, l, e, R, s, m, args, below, meth, c, cells, slots, Q, G, A⟩ := K
  intro H locs ls hP hS hl
  exact lv_lload F.1 F.2.1 hd (fr_at hl hg) (k H locs ls hP hS hl)
theorem fr_lstore_n {n : Fin 4} {x : Int64} (F : fr_F Y K) (hd : decode Y.2.1 pc = .ok (.lstore_n n, 1)) (hq : pc + 1 = q) (hn : n.val + 1 < Y.2.2.1) (ho : fr_ok L n.val = true) (k : fr_V Y K q (fr_set2 L n.val (.long x)) (st) M) : fr_V Y K pc L (.long x :: st) M := by
  subst hq
  obtain ⟨p, l, e, R, s, m, args, below, meth, c, cells, slots, Q, G, A⟩ := K
  intro H locs ls hP hS hl
  exact lv_lstore_n F.1 F.2.1 hd rfl (fr_ll_has hl) hn rfl (fun ls' h => k H locs ls' hP hS (fr_st2 (v := .long x) ho h))
theorem fr_lstore {n : Nat} {x : Int64} (F : fr_F Y K) (hd : decode Y.2.1 pc = .ok (.lstore n, 2)) (hq : pc + 2 = q) (hn : n + 1 < Y.2.2.1) (ho : fr_ok L n = true) (k : fr_V Y K q (fr_set2 L n (.long x)) (st) M) : fr_V Y K pc L (.long x :: st) M := by
  subst hq
  obtain ⟨p, l, e, R, s, m, args, below, meth, c, cells, slots, Q, G, A⟩ := K
  intro H locs ls hP hS hl
  exact lv_lstore F.1 F.2.1 hd (fr_ll_has hl) hn rfl (fun ls' h => k H locs ls' hP hS (fr_st2 (v := .long x) ho h))
theorem fr_aload_n {n : Fin 4} {x : Nat} (F : fr_F Y K) (hd : decode Y.2.1 pc = .ok (.aload_n n, 1)) (hq : pc + 1 = q) (hg : fr_get L n.val = some (.ref x)) (k : fr_V Y K q L (.ref x :: st) M) : fr_V Y K pc L (st) M := by
  subst hq
  obtain ⟨p, l, e, R, s, m, args, below, meth, c, cells, slots, Q, G, A⟩ := K
  intro H locs ls hP hS hl
  exact lv_aload_n F.1 F.2.1 hd rfl (fr_at hl hg) (k H locs ls hP hS hl)
theorem fr_aload {n : Nat} {x : Nat} (F : fr_F Y K) (hd : decode Y.2.1 pc = .ok (.aload n, 2)) (hq : pc + 2 = q) (hg : fr_get L n = some (.ref x)) (k : fr_V Y K q L (.ref x :: st) M) : fr_V Y K pc L (st) M := by
  subst hq
  obtain ⟨p, l, e, R, s, m, args, below, meth, c, cells, slots, Q, G, A⟩ := K
  intro H locs ls hP hS hl
  exact lv_aload F.1 F.2.1 hd (fr_at hl hg) (k H locs ls hP hS hl)
theorem fr_astore_n {n : Fin 4} {x : Nat} (F : fr_F Y K) (hd : decode Y.2.1 pc = .ok (.astore_n n, 1)) (hq : pc + 1 = q) (hn : n.val < Y.2.2.1) (ho : fr_ok L n.val = true) (k : fr_V Y K q (fr_set L n.val (.ref x)) (st) M) : fr_V Y K pc L (.ref x :: st) M := by
  subst hq
  obtain ⟨p, l, e, R, s, m, args, below, meth, c, cells, slots, Q, G, A⟩ := K
  intro H locs ls hP hS hl
  exact lv_astore_n F.1 F.2.1 hd rfl (fr_ll_has hl) hn rfl (fun ls' h => k H locs ls' hP hS (fr_st1 (v := .ref x) ho h))
theorem fr_astore {n : Nat} {x : Nat} (F : fr_F Y K) (hd : decode Y.2.1 pc = .ok (.astore n, 2)) (hq : pc + 2 = q) (hn : n < Y.2.2.1) (ho : fr_ok L n = true) (k : fr_V Y K q (fr_set L n (.ref x)) (st) M) : fr_V Y K pc L (.ref x :: st) M := by
  subst hq
  obtain ⟨p, l, e, R, s, m, args, below, meth, c, cells, slots, Q, G, A⟩ := K
  intro H locs ls hP hS hl
  exact lv_astore F.1 F.2.1 hd (fr_ll_has hl) hn rfl (fun ls' h => k H locs ls' hP hS (fr_st1 (v := .ref x) ho h))
theorem fr_ll_idx {G : fr_G} {i : Nat} {v : Value} (hg : fr_get L i = some v) : ∃ k : Nat, (fr_ll G L)[k]? = some (i, fr_v G v) := List.getElem?_of_mem (fr_ll_mem hg)
theorem fr_iinc {n : Nat} {d : Int} {x v : Int32} (F : fr_F Y K) (hd : decode Y.2.1 pc = .ok (.iinc n d, 3)) (hq : pc + 3 = q) (hg : fr_get L n = some (.int x)) (hv : x + Int32.ofInt d = v) (hn : n < Y.2.2.1) (ho : fr_ok L n = true) (k : fr_V Y K q (fr_set L n (.int v)) st M) : fr_V Y K pc L st M := by
  subst hq
  obtain ⟨p, l, e, R, s, m, args, below, meth, c, cells, slots, Q, G, A⟩ := K
  intro H locs ls hP hS hl
  obtain ⟨j, hj⟩ := fr_ll_idx (G := G) hg
  exact lv_iinc F.1 F.2.1 hd (fr_ll_has hl) hj hv hn rfl (fun ls' h => k H locs ls' hP hS (fr_st1 (v := .int v) ho h))
theorem fr_iadd {x y : Int32} (F : fr_F Y K) (hd : decode Y.2.1 pc = .ok (.iadd, 1)) (hq : pc + 1 = q) (k : fr_V Y K q L (.int (x + y) :: st) M) : fr_V Y K pc L (.int y :: .int x :: st) M := by
  subst hq
  obtain ⟨p, l, e, R, s, m, args, below, meth, c, cells, slots, Q, G, A⟩ := K
  intro H locs ls hP hS hl
  exact lv_iadd F.1 F.2.1 hd (k H locs ls hP hS hl)
theorem fr_isub {x y : Int32} (F : fr_F Y K) (hd : decode Y.2.1 pc = .ok (.isub, 1)) (hq : pc + 1 = q) (k : fr_V Y K q L (.int (x - y) :: st) M) : fr_V Y K pc L (.int y :: .int x :: st) M := by
  subst hq
  obtain ⟨p, l, e, R, s, m, args, below, meth, c, cells, slots, Q, G, A⟩ := K
  intro H locs ls hP hS hl
  exact lv_isub F.1 F.2.1 hd (k H locs ls hP hS hl)
theorem fr_imul {x y : Int32} (F : fr_F Y K) (hd : decode Y.2.1 pc = .ok (.imul, 1)) (hq : pc + 1 = q) (k : fr_V Y K q L (.int (x * y) :: st) M) : fr_V Y K pc L (.int y :: .int x :: st) M := by
  subst hq
  obtain ⟨p, l, e, R, s, m, args, below, meth, c, cells, slots, Q, G, A⟩ := K
  intro H locs ls hP hS hl
  exact lv_imul F.1 F.2.1 hd (k H locs ls hP hS hl)
theorem fr_iand {x y : Int32} (F : fr_F Y K) (hd : decode Y.2.1 pc = .ok (.iand, 1)) (hq : pc + 1 = q) (k : fr_V Y K q L (.int (x &&& y) :: st) M) : fr_V Y K pc L (.int y :: .int x :: st) M := by
  subst hq
  obtain ⟨p, l, e, R, s, m, args, below, meth, c, cells, slots, Q, G, A⟩ := K
  intro H locs ls hP hS hl
  exact lv_iand F.1 F.2.1 hd (k H locs ls hP hS hl)
theorem fr_ior {x y : Int32} (F : fr_F Y K) (hd : decode Y.2.1 pc = .ok (.ior, 1)) (hq : pc + 1 = q) (k : fr_V Y K q L (.int (x ||| y) :: st) M) : fr_V Y K pc L (.int y :: .int x :: st) M := by
  subst hq
  obtain ⟨p, l, e, R, s, m, args, below, meth, c, cells, slots, Q, G, A⟩ := K
  intro H locs ls hP hS hl
  exact lv_ior F.1 F.2.1 hd (k H locs ls hP hS hl)
theorem fr_ishl {x y : Int32} (F : fr_F Y K) (hd : decode Y.2.1 pc = .ok (.ishl, 1)) (hq : pc + 1 = q) (k : fr_V Y K q L (.int (x <<< (y &&& 31)) :: st) M) : fr_V Y K pc L (.int y :: .int x :: st) M := by
  subst hq
  obtain ⟨p, l, e, R, s, m, args, below, meth, c, cells, slots, Q, G, A⟩ := K
  intro H locs ls hP hS hl
  exact lv_ishl F.1 F.2.1 hd (k H locs ls hP hS hl)
theorem fr_ishr {x y : Int32} (F : fr_F Y K) (hd : decode Y.2.1 pc = .ok (.ishr, 1)) (hq : pc + 1 = q) (k : fr_V Y K q L (.int (x >>> (y &&& 31)) :: st) M) : fr_V Y K pc L (.int y :: .int x :: st) M := by
  subst hq
  obtain ⟨p, l, e, R, s, m, args, below, meth, c, cells, slots, Q, G, A⟩ := K
  intro H locs ls hP hS hl
  exact lv_ishr F.1 F.2.1 hd (k H locs ls hP hS hl)
theorem fr_idiv {x y : Int32} (F : fr_F Y K) (hd : decode Y.2.1 pc = .ok (.idiv, 1)) (hq : pc + 1 = q) (hne : ¬ y = 0) (k : fr_V Y K q L (.int (x / y) :: st) M) : fr_V Y K pc L (.int y :: .int x :: st) M := by
  subst hq
  obtain ⟨p, l, e, R, s, m, args, below, meth, c, cells, slots, Q, G, A⟩ := K
  intro H locs ls hP hS hl
  exact lv_idiv F.1 F.2.1 hd hne (k H locs ls hP hS hl)
theorem fr_irem {x y : Int32} (F : fr_F Y K) (hd : decode Y.2.1 pc = .ok (.irem, 1)) (hq : pc + 1 = q) (hne : ¬ y = 0) (k : fr_V Y K q L (.int (fr_rem x y) :: st) M) : fr_V Y K pc L (.int y :: .int x :: st) M := by
  subst hq
  obtain ⟨p, l, e, R, s, m, args, below, meth, c, cells, slots, Q, G, A⟩ := K
  intro H locs ls hP hS hl
  exact lv_irem F.1 F.2.1 hd hne (k H locs ls hP hS hl)
theorem fr_ladd {x y : Int64} (F : fr_F Y K) (hd : decode Y.2.1 pc = .ok (.ladd, 1)) (hq : pc + 1 = q) (k : fr_V Y K q L (.long (x + y) :: st) M) : fr_V Y K pc L (.long y :: .long x :: st) M := by
  subst hq
  obtain ⟨p, l, e, R, s, m, args, below, meth, c, cells, slots, Q, G, A⟩ := K
  intro H locs ls hP hS hl
  exact lv_ladd F.1 F.2.1 hd (k H locs ls hP hS hl)
theorem fr_lsub {x y : Int64} (F : fr_F Y K) (hd : decode Y.2.1 pc = .ok (.lsub, 1)) (hq : pc + 1 = q) (k : fr_V Y K q L (.long (x - y) :: st) M) : fr_V Y K pc L (.long y :: .long x :: st) M := by
  subst hq
  obtain ⟨p, l, e, R, s, m, args, below, meth, c, cells, slots, Q, G, A⟩ := K
  intro H locs ls hP hS hl
  exact lv_lsub F.1 F.2.1 hd (k H locs ls hP hS hl)
theorem fr_lmul {x y : Int64} (F : fr_F Y K) (hd : decode Y.2.1 pc = .ok (.lmul, 1)) (hq : pc + 1 = q) (k : fr_V Y K q L (.long (x * y) :: st) M) : fr_V Y K pc L (.long y :: .long x :: st) M := by
  subst hq
  obtain ⟨p, l, e, R, s, m, args, below, meth, c, cells, slots, Q, G, A⟩ := K
  intro H locs ls hP hS hl
  exact lv_lmul F.1 F.2.1 hd (k H locs ls hP hS hl)
theorem fr_i2l {x : Int32} (F : fr_F Y K) (hd : decode Y.2.1 pc = .ok (.i2l, 1)) (hq : pc + 1 = q) (k : fr_V Y K q L (.long x.toInt64 :: st) M) : fr_V Y K pc L (.int x :: st) M := by
  subst hq
  obtain ⟨p, l, e, R, s, m, args, below, meth, c, cells, slots, Q, G, A⟩ := K
  intro H locs ls hP hS hl
  exact lv_i2l F.1 F.2.1 hd rfl (k H locs ls hP hS hl)
theorem fr_lcmp {x y : Int64} (F : fr_F Y K) (hd : decode Y.2.1 pc = .ok (.lcmp, 1)) (hq : pc + 1 = q) (k : fr_V Y K q L (.int (lg_cmp x y) :: st) M) : fr_V Y K pc L (.long y :: .long x :: st) M := by
  subst hq
  obtain ⟨p, l, e, R, s, m, args, below, meth, c, cells, slots, Q, G, A⟩ := K
  intro H locs ls hP hS hl
  exact W.lcmp F.1 F.2.1 hd (k H locs ls hP hS hl)
theorem fr_dup {v : Value} (F : fr_F Y K) (hd : decode Y.2.1 pc = .ok (.dup, 1)) (hq : pc + 1 = q) (hc : v.category = 1) (k : fr_V Y K q L (v :: v :: st) M) : fr_V Y K pc L (v :: st) M := by
  subst hq
  obtain ⟨p, l, e, R, s, m, args, below, meth, c, cells, slots, Q, G, A⟩ := K
  intro H locs ls hP hS hl
  exact lv_dup F.1 F.2.1 hd (by rw [fr_v_cat]; exact hc) (k H locs ls hP hS hl)
theorem fr_dup2 {v w : Value} (F : fr_F Y K) (hd : decode Y.2.1 pc = .ok (.dup2, 1)) (hq : pc + 1 = q) (hc : v.category = 1) (hc2 : w.category = 1) (k : fr_V Y K q L (v :: w :: v :: w :: st) M) : fr_V Y K pc L (v :: w :: st) M := by
  subst hq
  obtain ⟨p, l, e, R, s, m, args, below, meth, c, cells, slots, Q, G, A⟩ := K
  intro H locs ls hP hS hl
  exact lv_dup2_11 F.1 F.2.1 hd (by rw [fr_v_cat]; exact hc) (by rw [fr_v_cat]; exact hc2) (k H locs ls hP hS hl)
theorem fr_if_eq {x : Int32} {off : Int} {tgt : Nat} (F : fr_F Y K) (hd : decode Y.2.1 pc = .ok (.ifCond .eq off, 3)) (ht : (pc : Int) + off = (tgt : Int)) (hq : pc + 3 = q) (kt : x = 0 → fr_V Y K tgt L st M) (kf : ¬ (x = 0) → fr_V Y K q L st M) : fr_V Y K pc L (.int x :: st) M := by
  subst hq
  obtain ⟨p, l, e, R, s, m, args, below, meth, c, cells, slots, Q, G, A⟩ := K
  intro H locs ls hP hS hl
  exact lv_if_eq F.1 F.2.1 hd ht (fun z => kt z H locs ls hP hS hl) (fun z => kf z H locs ls hP hS hl)
theorem fr_icmp_eq {x y : Int32} {off : Int} {tgt : Nat} (F : fr_F Y K) (hd : decode Y.2.1 pc = .ok (.if_icmp .eq off, 3)) (ht : (pc : Int) + off = (tgt : Int)) (hq : pc + 3 = q) (kt : x = y → fr_V Y K tgt L st M) (kf : ¬ (x = y) → fr_V Y K q L st M) : fr_V Y K pc L (.int y :: .int x :: st) M := by
  subst hq
  obtain ⟨p, l, e, R, s, m, args, below, meth, c, cells, slots, Q, G, A⟩ := K
  intro H locs ls hP hS hl
  exact lv_icmp_eq F.1 F.2.1 hd ht (fun z => kt z H locs ls hP hS hl) (fun z => kf z H locs ls hP hS hl)
theorem fr_if_ne {x : Int32} {off : Int} {tgt : Nat} (F : fr_F Y K) (hd : decode Y.2.1 pc = .ok (.ifCond .ne off, 3)) (ht : (pc : Int) + off = (tgt : Int)) (hq : pc + 3 = q) (kt : ¬ x = 0 → fr_V Y K tgt L st M) (kf : x = 0 → fr_V Y K q L st M) : fr_V Y K pc L (.int x :: st) M := by
  subst hq
  obtain ⟨p, l, e, R, s, m, args, below, meth, c, cells, slots, Q, G, A⟩ := K
  intro H locs ls hP hS hl
  exact lv_if_ne F.1 F.2.1 hd ht (fun z => kt z H locs ls hP hS hl) (fun z => kf z H locs ls hP hS hl)
theorem fr_icmp_ne {x y : Int32} {off : Int} {tgt : Nat} (F : fr_F Y K) (hd : decode Y.2.1 pc = .ok (.if_icmp .ne off, 3)) (ht : (pc : Int) + off = (tgt : Int)) (hq : pc + 3 = q) (kt : ¬ x = y → fr_V Y K tgt L st M) (kf : x = y → fr_V Y K q L st M) : fr_V Y K pc L (.int y :: .int x :: st) M := by
  subst hq
  obtain ⟨p, l, e, R, s, m, args, below, meth, c, cells, slots, Q, G, A⟩ := K
  intro H locs ls hP hS hl
  exact lv_icmp_ne F.1 F.2.1 hd ht (fun z => kt z H locs ls hP hS hl) (fun z => kf z H locs ls hP hS hl)
theorem fr_if_lt {x : Int32} {off : Int} {tgt : Nat} (F : fr_F Y K) (hd : decode Y.2.1 pc = .ok (.ifCond .lt off, 3)) (ht : (pc : Int) + off = (tgt : Int)) (hq : pc + 3 = q) (kt : x < 0 → fr_V Y K tgt L st M) (kf : ¬ (x < 0) → fr_V Y K q L st M) : fr_V Y K pc L (.int x :: st) M := by
  subst hq
  obtain ⟨p, l, e, R, s, m, args, below, meth, c, cells, slots, Q, G, A⟩ := K
  intro H locs ls hP hS hl
  exact lv_if_lt F.1 F.2.1 hd ht (fun z => kt z H locs ls hP hS hl) (fun z => kf z H locs ls hP hS hl)
theorem fr_icmp_lt {x y : Int32} {off : Int} {tgt : Nat} (F : fr_F Y K) (hd : decode Y.2.1 pc = .ok (.if_icmp .lt off, 3)) (ht : (pc : Int) + off = (tgt : Int)) (hq : pc + 3 = q) (kt : x < y → fr_V Y K tgt L st M) (kf : ¬ (x < y) → fr_V Y K q L st M) : fr_V Y K pc L (.int y :: .int x :: st) M := by
  subst hq
  obtain ⟨p, l, e, R, s, m, args, below, meth, c, cells, slots, Q, G, A⟩ := K
  intro H locs ls hP hS hl
  exact lv_icmp_lt F.1 F.2.1 hd ht (fun z => kt z H locs ls hP hS hl) (fun z => kf z H locs ls hP hS hl)
theorem fr_if_ge {x : Int32} {off : Int} {tgt : Nat} (F : fr_F Y K) (hd : decode Y.2.1 pc = .ok (.ifCond .ge off, 3)) (ht : (pc : Int) + off = (tgt : Int)) (hq : pc + 3 = q) (kt : 0 ≤ x → fr_V Y K tgt L st M) (kf : ¬ (0 ≤ x) → fr_V Y K q L st M) : fr_V Y K pc L (.int x :: st) M := by
  subst hq
  obtain ⟨p, l, e, R, s, m, args, below, meth, c, cells, slots, Q, G, A⟩ := K
  intro H locs ls hP hS hl
  exact lv_if_ge F.1 F.2.1 hd ht (fun z => kt z H locs ls hP hS hl) (fun z => kf z H locs ls hP hS hl)
theorem fr_icmp_ge {x y : Int32} {off : Int} {tgt : Nat} (F : fr_F Y K) (hd : decode Y.2.1 pc = .ok (.if_icmp .ge off, 3)) (ht : (pc : Int) + off = (tgt : Int)) (hq : pc + 3 = q) (kt : y ≤ x → fr_V Y K tgt L st M) (kf : ¬ (y ≤ x) → fr_V Y K q L st M) : fr_V Y K pc L (.int y :: .int x :: st) M := by
  subst hq
  obtain ⟨p, l, e, R, s, m, args, below, meth, c, cells, slots, Q, G, A⟩ := K
  intro H locs ls hP hS hl
  exact lv_icmp_ge F.1 F.2.1 hd ht (fun z => kt z H locs ls hP hS hl) (fun z => kf z H locs ls hP hS hl)
theorem fr_if_gt {x : Int32} {off : Int} {tgt : Nat} (F : fr_F Y K) (hd : decode Y.2.1 pc = .ok (.ifCond .gt off, 3)) (ht : (pc : Int) + off = (tgt : Int)) (hq : pc + 3 = q) (kt : 0 < x → fr_V Y K tgt L st M) (kf : ¬ (0 < x) → fr_V Y K q L st M) : fr_V Y K pc L (.int x :: st) M := by
  subst hq
  obtain ⟨p, l, e, R, s, m, args, below, meth, c, cells, slots, Q, G, A⟩ := K
  intro H locs ls hP hS hl
  exact lv_if_gt F.1 F.2.1 hd ht (fun z => kt z H locs ls hP hS hl) (fun z => kf z H locs ls hP hS hl)
theorem fr_icmp_gt {x y : Int32} {off : Int} {tgt : Nat} (F : fr_F Y K) (hd : decode Y.2.1 pc = .ok (.if_icmp .gt off, 3)) (ht : (pc : Int) + off = (tgt : Int)) (hq : pc + 3 = q) (kt : y < x → fr_V Y K tgt L st M) (kf : ¬ (y < x) → fr_V Y K q L st M) : fr_V Y K pc L (.int y :: .int x :: st) M := by
  subst hq
  obtain ⟨p, l, e, R, s, m, args, below, meth, c, cells, slots, Q, G, A⟩ := K
  intro H locs ls hP hS hl
  exact lv_icmp_gt F.1 F.2.1 hd ht (fun z => kt z H locs ls hP hS hl) (fun z => kf z H locs ls hP hS hl)
theorem fr_if_le {x : Int32} {off : Int} {tgt : Nat} (F : fr_F Y K) (hd : decode Y.2.1 pc = .ok (.ifCond .le off, 3)) (ht : (pc : Int) + off = (tgt : Int)) (hq : pc + 3 = q) (kt : x ≤ 0 → fr_V Y K tgt L st M) (kf : ¬ (x ≤ 0) → fr_V Y K q L st M) : fr_V Y K pc L (.int x :: st) M := by
  subst hq
  obtain ⟨p, l, e, R, s, m, args, below, meth, c, cells, slots, Q, G, A⟩ := K
  intro H locs ls hP hS hl
  exact lv_if_le F.1 F.2.1 hd ht (fun z => kt z H locs ls hP hS hl) (fun z => kf z H locs ls hP hS hl)
theorem fr_icmp_le {x y : Int32} {off : Int} {tgt : Nat} (F : fr_F Y K) (hd : decode Y.2.1 pc = .ok (.if_icmp .le off, 3)) (ht : (pc : Int) + off = (tgt : Int)) (hq : pc + 3 = q) (kt : x ≤ y → fr_V Y K tgt L st M) (kf : ¬ (x ≤ y) → fr_V Y K q L st M) : fr_V Y K pc L (.int y :: .int x :: st) M := by
  subst hq
  obtain ⟨p, l, e, R, s, m, args, below, meth, c, cells, slots, Q, G, A⟩ := K
  intro H locs ls hP hS hl
  exact lv_icmp_le F.1 F.2.1 hd ht (fun z => kt z H locs ls hP hS hl) (fun z => kf z H locs ls hP hS hl)
/-- a truth value asked -/
theorem fr_if_eqb {b : Bool} {off : Int} {tgt : Nat} (F : fr_F Y K) (hd : decode Y.2.1 pc = .ok (.ifCond .eq off, 3)) (ht : (pc : Int) + off = (tgt : Int)) (hq : pc + 3 = q) (kt : ¬ b = true → fr_V Y K tgt L st M) (kf : b = true → fr_V Y K q L st M) : fr_V Y K pc L (.int (fr_b b) :: st) M :=
  fr_if_eq F hd ht hq (fun h => kt (fun e => by rw [e] at h; exact absurd h (by decide))) (fun h => kf (by cases b with
    | true => rfl
    | false => exact absurd rfl h))
theorem fr_if_neb {b : Bool} {off : Int} {tgt : Nat} (F : fr_F Y K) (hd : decode Y.2.1 pc = .ok (.ifCond .ne off, 3)) (ht : (pc : Int) + off = (tgt : Int)) (hq : pc + 3 = q) (kt : b = true → fr_V Y K tgt L st M) (kf : ¬ b = true → fr_V Y K q L st M) : fr_V Y K pc L (.int (fr_b b) :: st) M :=
  fr_if_ne F hd ht hq (fun h => kt (by cases b with
    | true => rfl
    | false => exact absurd rfl h)) (fun h => kf (fun e => by rw [e] at h; exact absurd h (by decide)))
theorem fr_goto {off : Int} {tgt : Nat} (F : fr_F Y K) (hd : decode Y.2.1 pc = .ok (.goto off, 3)) (ht : (pc : Int) + off = (tgt : Int)) (k : fr_V Y K tgt L st M) : fr_V Y K pc L st M := by
  obtain ⟨p, l, e, R, s, m, args, below, meth, c, cells, slots, Q, G, A⟩ := K
  intro H locs ls hP hS hl
  exact lv_goto F.1 F.2.1 hd ht (k H locs ls hP hS hl)
theorem fr_tswI {x k : Int32} {dflt lo hi off : Int} {offs : Array Int} {len tgt : Nat} (F : fr_F Y K) (hx : x = k) (hd : decode Y.2.1 pc = .ok (.tableswitch dflt lo hi offs, len)) (hi1 : ¬ k.toInt < lo) (hi2 : ¬ hi < k.toInt) (ho : offs[(k.toInt - lo).toNat]? = some off) (ht : (pc : Int) + off = (tgt : Int)) (kk : fr_V Y K tgt L st M) : fr_V Y K pc L (.int x :: st) M := by
  subst hx
  obtain ⟨p, l, e, R, s, m, args, below, meth, c, cells, slots, Q, G, A⟩ := K
  intro H locs ls hP hS hl
  exact lv_tableIn F.1 F.2.1 hd hi1 hi2 ho ht (kk H locs ls hP hS hl)
theorem fr_tswO {x : Int32} {dflt lo hi : Int} {offs : Array Int} {len tgt : Nat} (F : fr_F Y K) (hd : decode Y.2.1 pc = .ok (.tableswitch dflt lo hi offs, len)) (h : x.toInt < lo ∨ hi < x.toInt) (ht : (pc : Int) + dflt = (tgt : Int)) (kk : fr_V Y K tgt L st M) : fr_V Y K pc L (.int x :: st) M := by
  obtain ⟨p, l, e, R, s, m, args, below, meth, c, cells, slots, Q, G, A⟩ := K
  intro H locs ls hP hS hl
  exact lv_tableOut F.1 F.2.1 hd h ht (kk H locs ls hP hS hl)
theorem fr_lsw {x : Int32} {dflt off : Int} {ps : Array (Int × Int)} {len tgt : Nat} (F : fr_F Y K) (hd : decode Y.2.1 pc = .ok (.lookupswitch dflt ps, len)) (hp : (ps.toList.zip (ps.toList.drop 1)).all (fun (a, next) => a.1 < next.1) = true) (ho : Op.lookupswitch.offset ps.toList dflt x.toInt = off) (ht : (pc : Int) + off = (tgt : Int)) (kk : fr_V Y K tgt L st M) : fr_V Y K pc L (.int x :: st) M := by
  obtain ⟨p, l, e, R, s, m, args, below, meth, c, cells, slots, Q, G, A⟩ := K
  intro H locs ls hP hS hl
  exact lv_lookup F.1 F.2.1 hd hp ho ht (kk H locs ls hP hS hl)
/-- a switch's number outside its table -/
theorem fr_out {x : Int32} {n : Nat} (hn : n < 1000) (h : ∀ k : Nat, k < n + 1 → ¬ x = Int32.ofNat k) : x.toInt < 0 ∨ (n : Int) < x.toInt := by
  by_cases h0 : x.toInt < 0
  · exact Or.inl h0
  · refine Or.inr (Int.not_le.mp fun h1 => ?_)
    obtain ⟨j, hj⟩ : ∃ j : Nat, x.toInt = (j : Int) := ⟨x.toInt.toNat, by omega⟩
    refine h j (by omega) (Int32.toInt_inj.mp ?_)
    rw [hj]
    exact (nI_toInt (n := j) (by omega)).symm
end FRR
end
section
/-! ROWS of fields, rows of numbers, tables; calls; a method's contract out of the judgement -/
/-- a field's link: class number, slot -/
def fr_fa (own : String) (idx ci k : Nat) : Prop := ∃ (C : String) (T : u_T) (N : Nat), fr_cl[ci]? = some (C, T, N) ∧ k < N ∧ Cond.fieldLink own idx C (T k).2.1 (T k).2.2.1 ∈ fr_tb ∧ (∀ w ∈ u_ws C T N, w ∈ fr_tb) ∧ (T k).1 = C
/-- a field that is written: of a type (int, boolean), not final; the class's fields have names of their own -/
def fr_fp (own : String) (idx ci k : Nat) (ty : FieldType) : Prop := ∃ (C : String) (T : u_T) (N : Nat) (ty0 : Nat → FieldType), fr_cl[ci]? = some (C, T, N) ∧ k < N ∧ Cond.fieldLink own idx C (T k).2.1 (T k).2.2.1 ∈ fr_tb ∧ (∀ w ∈ u_ws C T N, w ∈ fr_tb) ∧ (T k).1 = C ∧ (T k).2.2.2 = false ∧ (∀ k, k < N → parseFieldDescriptor (T k).2.2.1 = some (ty0 k)) ∧ (∀ a, a < N → ∀ b, b < N → a ≠ b → (T a).2.1 ≠ (T b).2.1) ∧ ty0 k = ty
def fr_ck {α : Type} (i : Int32) (n : Nat) (k : Option α) : Option α := if i < 0 ∨ n ≤ i.toNatClampNeg then none else k
theorem fr_ck_some {α : Type} {i : Int32} {n : Nat} {k : Option α} {o : α} (h : fr_ck i n k = some o) : vp_in i n ∧ k = some o := by
  unfold fr_ck at h
  split at h
  · cases h
  · next hn => exact ⟨hn, h⟩
theorem fr_ck_pos {α : Type} {i : Int32} {n : Nat} {k : Option α} (h : vp_in i n) : fr_ck i n k = k := if_neg h
def fr_nz {α : Type} (y : Int32) (k : Option α) : Option α := if y = 0 then none else k
theorem fr_nz_some {α : Type} {y : Int32} {k : Option α} {o : α} (h : fr_nz y k = some o) : ¬ y = 0 ∧ k = some o := by
  unfold fr_nz at h
  split at h
  · cases h
  · next hn => exact ⟨hn, h⟩
def fr_bd {α β : Type} (a : Option α) (k : α → Option β) : Option β := match a with
  | some x => k x
  | none => none
theorem fr_bd_some {α β : Type} {a : Option α} {k : α → Option β} {o : β} (h : fr_bd a k = some o) : ∃ x, a = some x ∧ k x = some o := by
  cases a with
  | none => cases h
  | some x => exact ⟨x, rfl, h⟩
theorem fr_bd_eq {α β : Type} {x : α} {k : α → Option β} : fr_bd (some x) k = k x := rfl
theorem fr_bool (b : Bool) : narrow .boolean (.int (fr_b b)) = .int (fr_b b) := by cases b <;> decide
theorem fr_boolf (b : Bool) : fits .boolean (.int (fr_b b)) = true := by cases b <;> decide
theorem fr_booln (b : Bool) : vp_nar .boolean (fr_b b) = fr_b b := by cases b <;> decide
theorem fr_sum (G : fr_G) (st : List Value) : ((st.map (fr_v G)).map fun v => v.category).sum = (st.map fun v => v.category).sum := by
  rw [List.map_map]
  congr 1
  exact List.map_congr_left (fun v _ => fr_v_cat G v)
section FRH
variable {Y : fr_Y} {K : fr_K} {pc q : Nat} {L : List (Option Value)} {st : List Value} {M M' : fr_M}
theorem fr_gfR {b idx ci k j : Nat} {fs : List (Option Nat)} (F : fr_F Y K) (hd : decode Y.2.1 pc = .ok (.getfield idx, 3)) (hq : pc + 3 = q) (hf : fr_fa Y.1.cls idx ci k) (hb : b < 67) (hs : fr_sh b = .inl (ci, fs)) (ho : fs[k]? = some (some j)) (kk : fr_V Y K q L (.ref j :: st) M) : fr_V Y K pc L (.ref b :: st) M := by
  subst hq
  obtain ⟨p, l, e, R, s, m, args, below, meth, c, cells, slots, Q, G, A⟩ := K
  obtain ⟨C, T, N, hc, hk, hlk, hin, hT⟩ := hf
  intro H locs ls hP hS hl
  refine va_get (v := .ref (fr_ad G j)) F.1 F.2.1 F.2.2.2.2.1 hin F.2.2.2.1 F.2.2.2.2.2.2.2.1 hP b (by rw [fr_ws_at hb, hs]; rfl) hc k hk (F.2.2.2.2.1 _ hlk) (fun x h => by rw [← hT]; exact h) (fr_fs_at ho) hd (kk H locs ls hP hS hl)
theorem fr_gfI {b idx ci k : Nat} {x : Int32} {fs : List (Option Nat)} (F : fr_F Y K) (hd : decode Y.2.1 pc = .ok (.getfield idx, 3)) (hq : pc + 3 = q) (hf : fr_fa Y.1.cls idx ci k) (hb : b < 67) (hs : fr_sh b = .inl (ci, fs)) (ho : fs[k]? = some none) (hx : fr_ct M b k = x) (kk : fr_V Y K q L (.int x :: st) M) : fr_V Y K pc L (.ref b :: st) M := by
  subst hq; subst hx
  obtain ⟨p, l, e, R, s, m, args, below, meth, c, cells, slots, Q, G, A⟩ := K
  obtain ⟨C, T, N, hc, hk, hlk, hin, hT⟩ := hf
  intro H locs ls hP hS hl
  refine va_get (v := .int (fr_ct M b k)) F.1 F.2.1 F.2.2.2.2.1 hin F.2.2.2.1 F.2.2.2.2.2.2.2.1 hP b (by rw [fr_ws_at hb, hs]; rfl) hc k hk (F.2.2.2.2.1 _ hlk) (fun x h => by rw [← hT]; exact h) (fr_fs_at ho) hd (kk H locs ls hP hS hl)
theorem fr_pf {b idx ci k : Nat} {x : Int32} {ty : FieldType} {fs : List (Option Nat)} (F : fr_F Y K) (hd : decode Y.2.1 pc = .ok (.putfield idx, 3)) (hq : pc + 3 = q) (hf : fr_fp Y.1.cls idx ci k ty) (hn : narrow ty (.int x) = .int x) (hft : fits ty (.int x) = true) (hb : b < 67) (hs : fr_sh b = .inl (ci, fs)) (ho : fs[k]? = some none) (hM : fr_wr M b (upd (fr_ct M b) k x) = M') (kk : fr_V Y K q L st M') : fr_V Y K pc L (.int x :: .ref b :: st) M := by
  subst hq; subst hM
  obtain ⟨p, l, e, R, s, m, args, below, meth, c, cells, slots, Q, G, A⟩ := K
  obtain ⟨C, T, N, ty0, hc, hk, hlk, hin, hT, hfin, hty, hnm, ht⟩ := hf
  intro H locs ls hP hS hl
  have hws : (fr_ws G M).set b (fr_ad G b, .inr (ci, (fr_fs G fs (fr_ct M b)).set k (.int x))) = fr_ws G (fr_wr M b (upd (fr_ct M b) k x)) := by
    refine fr_ws_set hb ?_ (fun j hj => fr_ct_wr_ne hj)
    rw [fr_ct_wr, hs, fr_fs_set ho]
    rfl
  refine va_put F.1 F.2.1 F.2.2.2.2.1 hin ty0 hty hnm F.2.2.2.1 F.2.2.2.2.2.2.2.1 hP (F.2.2.2.2.2.2.2.2.1 M) hS b (by rw [fr_ws_at hb, hs]; rfl) hc k hk (F.2.2.2.2.1 _ hlk) (fun x h => by rw [← hT]; exact h) hfin (by rw [hty k hk, ht]) hn hft (by rw [fr_fs_len]; exact (List.getElem?_eq_some_iff.mp ho).1) hd (fun H1 locs1 hP1 _ hS1 => ?_)
  have hP1 : va_P (fr_gD G) fr_cl ((fr_ws G M).set b (fr_ad G b, .inr (ci, (fr_fs G fs (fr_ct M b)).set k (.int x)))) H1 := hP1
  rw [hws] at hP1
  exact kk H1 locs1 ls hP1 hS1 hl
theorem fr_pfI {b idx ci k : Nat} {x : Int32} {fs : List (Option Nat)} (F : fr_F Y K) (hd : decode Y.2.1 pc = .ok (.putfield idx, 3)) (hq : pc + 3 = q) (hf : fr_fp Y.1.cls idx ci k .int) (hb : b < 67) (hs : fr_sh b = .inl (ci, fs)) (ho : fs[k]? = some none) (hM : fr_wr M b (upd (fr_ct M b) k x) = M') (kk : fr_V Y K q L st M') : fr_V Y K pc L (.int x :: .ref b :: st) M :=
  fr_pf F hd hq hf rfl rfl hb hs ho hM kk
theorem fr_pfZ {b idx ci k : Nat} {x : Bool} {fs : List (Option Nat)} (F : fr_F Y K) (hd : decode Y.2.1 pc = .ok (.putfield idx, 3)) (hq : pc + 3 = q) (hf : fr_fp Y.1.cls idx ci k .boolean) (hb : b < 67) (hs : fr_sh b = .inl (ci, fs)) (ho : fs[k]? = some none) (hM : fr_wr M b (upd (fr_ct M b) k (fr_b x)) = M') (kk : fr_V Y K q L st M') : fr_V Y K pc L (.int (fr_b x) :: .ref b :: st) M :=
  fr_pf F hd hq hf (fr_bool x) (fr_boolf x) hb hs ho hM kk
theorem fr_ial {b n : Nat} {i x : Int32} (F : fr_F Y K) (hd : decode Y.2.1 pc = .ok (.iaload, 1)) (hq : pc + 1 = q) (hin : vp_in i n) (hb : b < 67) (hs : fr_sh b = .inr (0, n)) (hx : fr_ct M b i.toNatClampNeg = x) (kk : fr_V Y K q L (.int x :: st) M) : fr_V Y K pc L (.int i :: .ref b :: st) M := by
  subst hq; subst hx
  obtain ⟨p, l, e, R, s, m, args, below, meth, c, cells, slots, Q, G, A⟩ := K
  intro H locs ls hP hS hl
  exact va_iald (cA := fr_gI G) (n := n) (f := fr_ct M b) F.1 F.2.1 F.2.2.2.2.2.2.2.1 hP b 0 (by rw [fr_ws_at hb, hs]; rfl) rfl hin hd (kk H locs ls hP hS hl)
theorem fr_zal {b n : Nat} {i x : Int32} (F : fr_F Y K) (hd : decode Y.2.1 pc = .ok (.baload, 1)) (hq : pc + 1 = q) (hin : vp_in i n) (hb : b < 67) (hs : fr_sh b = .inr (1, n)) (hx : fr_ct M b i.toNatClampNeg = x) (kk : fr_V Y K q L (.int x :: st) M) : fr_V Y K pc L (.int i :: .ref b :: st) M := by
  subst hq; subst hx
  obtain ⟨p, l, e, R, s, m, args, below, meth, c, cells, slots, Q, G, A⟩ := K
  intro H locs ls hP hS hl
  exact va_zald (cA := fr_gZ G) (n := n) (f := fr_ct M b) F.1 F.2.1 F.2.2.2.2.2.2.2.1 hP b 1 (by rw [fr_ws_at hb, hs]; rfl) rfl hin hd (kk H locs ls hP hS hl)
theorem fr_ias {b n : Nat} {i x : Int32} (F : fr_F Y K) (hd : decode Y.2.1 pc = .ok (.iastore, 1)) (hq : pc + 1 = q) (hin : vp_in i n) (hb : b < 67) (hs : fr_sh b = .inr (0, n)) (hM : fr_wr M b (upd (fr_ct M b) i.toNatClampNeg x) = M') (kk : fr_V Y K q L st M') : fr_V Y K pc L (.int x :: .int i :: .ref b :: st) M := by
  subst hq; subst hM
  obtain ⟨p, l, e, R, s, m, args, below, meth, c, cells, slots, Q, G, A⟩ := K
  intro H locs ls hP hS hl
  refine va_iast (cA := fr_gI G) (n := n) (f := fr_ct M b) F.1 F.2.1 F.2.2.2.2.2.2.2.1 hP (F.2.2.2.2.2.2.2.2.1 M) hS b 0 (by rw [fr_ws_at hb, hs]; rfl) rfl hin hd (fun H1 locs1 hP1 _ hS1 => ?_)
  rw [fr_ws_set (M' := fr_wr M b (upd (fr_ct M b) i.toNatClampNeg x)) hb (by rw [fr_ct_wr, hs]; rfl) (fun j hj => fr_ct_wr_ne hj)] at hP1
  exact kk H1 locs1 ls hP1 hS1 hl
theorem fr_zas {b n : Nat} {i : Int32} {x : Bool} (F : fr_F Y K) (hd : decode Y.2.1 pc = .ok (.bastore, 1)) (hq : pc + 1 = q) (hin : vp_in i n) (hb : b < 67) (hs : fr_sh b = .inr (1, n)) (hM : fr_wr M b (upd (fr_ct M b) i.toNatClampNeg (fr_b x)) = M') (kk : fr_V Y K q L st M') : fr_V Y K pc L (.int (fr_b x) :: .int i :: .ref b :: st) M := by
  subst hq; subst hM
  obtain ⟨p, l, e, R, s, m, args, below, meth, c, cells, slots, Q, G, A⟩ := K
  intro H locs ls hP hS hl
  refine va_zast (cA := fr_gZ G) (n := n) (f := fr_ct M b) F.1 F.2.1 F.2.2.2.2.2.2.2.1 hP (F.2.2.2.2.2.2.2.2.1 M) hS b 1 (by rw [fr_ws_at hb, hs]; rfl) rfl hin hd (fun H1 locs1 hP1 _ hS1 => ?_)
  rw [fr_booln] at hP1
  rw [fr_ws_set (M' := fr_wr M b (upd (fr_ct M b) i.toNatClampNeg (fr_b x))) hb (by rw [fr_ct_wr, hs]; rfl) (fun j hj => fr_ct_wr_ne hj)] at hP1
  exact kk H1 locs1 ls hP1 hS1 hl
theorem fr_len {b kd n : Nat} {x : Int32} (F : fr_F Y K) (hd : decode Y.2.1 pc = .ok (.arraylength, 1)) (hq : pc + 1 = q) (hb : b < 67) (hs : fr_sh b = .inr (0, n)) (hx : Int32.ofNat n = x) (kk : fr_V Y K q L (.int x :: st) M) : fr_V Y K pc L (.ref b :: st) M := by
  subst hq
  obtain ⟨p, l, e, R, s, m, args, below, meth, c, cells, slots, Q, G, A⟩ := K
  intro H locs ls hP hS hl
  exact va_alen (cA := fr_gI G) (x := (n, .inl (fr_ct M b))) (ty := .int) F.1 F.2.1 F.2.2.2.2.2.2.2.1 hP b 0 (by rw [fr_ws_at hb, hs]; rfl) rfl hx hd (kk H locs ls hP hS hl)
/-- the row of the two images -/
theorem fr_aal {b n : Nat} {i : Int32} {j : Nat} (F : fr_F Y K) (hd : decode Y.2.1 pc = .ok (.aaload, 1)) (hq : pc + 1 = q) (hin : vp_in i n) (hb : b < 67) (hs : fr_sh b = .inr (2, n)) (hj : 18 + 8 * i.toNatClampNeg = j) (kk : fr_V Y K q L (.ref j :: st) M) : fr_V Y K pc L (.int i :: .ref b :: st) M := by
  subst hq; subst hj
  obtain ⟨p, l, e, R, s, m, args, below, meth, c, cells, slots, Q, G, A⟩ := K
  intro H locs ls hP hS hl
  exact va_aldq (cA := fr_gB G) (C := RX1) (n := n) (f := fun j => some (fr_ad G (18 + 8 * j))) F.1 F.2.1 F.2.2.2.2.2.2.2.1 hP b 2 (by rw [fr_ws_at hb, hs]; rfl) rfl hin hd (kk H locs ls hP hS hl)
/-- the class's tables: k 0, 1, 2 -/
def fr_tn (k : Nat) : String := match k with
  | 0 => "LEAST_LAW"
  | 1 => "GREATEST_LAW"
  | _ => "SERVICES_BY_RANK"
def fr_tv (k : Nat) : Nat → Int32 := match k with
  | 0 => fr_tb1
  | 1 => fr_tb2
  | _ => fr_tb3
theorem fr_St.z {G : fr_G} {A : Nat → Prop} {U : State} {H : Heap} (h : fr_St G A U H) {k : Nat} (hk : k < 3) : va_Z RX7 (fr_tn k) "[I" (.ref (fr_ad G (67 + k))) A U H := by
  match k, hk with
  | 0, _ => exact h.1
  | 1, _ => exact h.2.1
  | 2, _ => exact h.2.2.1
theorem fr_St.t {G : fr_G} {A : Nat → Prop} {U : State} {H : Heap} (h : fr_St G A U H) {k : Nat} (hk : k < 3) : va_T .int (fr_ad G (67 + k)) 6 (fun j => .int (fr_tv k j)) A U H := by
  match k, hk with
  | 0, _ => exact h.2.2.2.1
  | 1, _ => exact h.2.2.2.2.1
  | 2, _ => exact h.2.2.2.2.2
theorem fr_gs {idx k j : Nat} (F : fr_F Y K) (hd : decode Y.2.1 pc = .ok (.getstatic idx, 3)) (hq : pc + 3 = q) (hk : k < 3) (hw : Cond.fieldLink Y.1.cls idx RX7 (fr_tn k) "[I" ∈ fr_tb) (hj : 67 + k = j) (kk : fr_V Y K q L (.ref j :: st) M) : fr_V Y K pc L st M := by
  subst hq; subst hj
  obtain ⟨p, l, e, R, s, m, args, below, meth, c, cells, slots, Q, G, A⟩ := K
  intro H locs ls hP hS hl
  exact va_gets F.1 F.2.1 (F.2.2.2.2.2.2.2.2.2.1.z hk) hS F.2.2.2.1 (F.2.2.2.2.1 _ hw) (fun x h => h) hd (kk H locs ls hP hS hl)
theorem fr_gsN {idx k j : Nat} (F : fr_F Y K) (hd : decode Y.2.1 pc = .ok (.getstatic idx, 3)) (hq : pc + 3 = q) (hk : k < 3) (hw : (Y.1.cls, idx, fr_tn k) ∈ fr_nf) (hj : 67 + k = j) (kk : fr_V Y K q L (.ref j :: st) M) : fr_V Y K pc L st M := by
  subst hq; subst hj
  obtain ⟨p, l, e, R, s, m, args, below, meth, c, cells, slots, Q, G, A⟩ := K
  intro H locs ls hP hS hl
  exact va_getsN (host := RX7) F.1 F.2.1 (F.2.2.2.2.2.2.2.2.2.1.z hk) hS F.2.2.2.1 (va_Nw.use rfl (F.2.2.2.2.2.2.2.2.2.2.2 _ hw)) (fun x h => h) hd (kk H locs ls hP hS hl)
theorem fr_tal {k j : Nat} {i x : Int32} (F : fr_F Y K) (hd : decode Y.2.1 pc = .ok (.iaload, 1)) (hq : pc + 1 = q) (hin : vp_in i 6) (hk : k < 3) (hj : 67 + k = j) (hx : fr_tv k i.toNatClampNeg = x) (kk : fr_V Y K q L (.int x :: st) M) : fr_V Y K pc L (.int i :: .ref j :: st) M := by
  subst hq; subst hj; subst hx
  obtain ⟨p, l, e, R, s, m, args, below, meth, c, cells, slots, Q, G, A⟩ := K
  intro H locs ls hP hS hl
  exact va_ti F.1 F.2.1 (F.2.2.2.2.2.2.2.2.2.1.t hk) hS hin rfl hd (kk H locs ls hP hS hl)
theorem fr_tln {k j : Nat} (F : fr_F Y K) (hd : decode Y.2.1 pc = .ok (.arraylength, 1)) (hq : pc + 1 = q) (hk : k < 3) (hj : 67 + k = j) (kk : fr_V Y K q L (.int 6 :: st) M) : fr_V Y K pc L (.ref j :: st) M := by
  subst hq; subst hj
  obtain ⟨p, l, e, R, s, m, args, below, meth, c, cells, slots, Q, G, A⟩ := K
  intro H locs ls hP hS hl
  exact va_tlen F.1 F.2.1 (F.2.2.2.2.2.2.2.2.2.1.t hk) hS rfl hd (kk H locs ls hP hS hl)
/-- Math.max, Math.min -/
def fr_mw (y : MethodName) (b : ByteArray) : Prop := Cond.static y ∈ fr_tb ∧ Cond.initialized "java/lang/Math" ∈ fr_tb ∧ Cond.code y b 2 (some .int) ∈ fr_tb
theorem fr_max {idx : Nat} {x y : Int32} (F : fr_F Y K) (hd : decode Y.2.1 pc = .ok (.invokestatic idx, 3)) (hq : pc + 3 = q) (hw : Cond.methodLink Y.1.cls idx Lib.Math.max.name ∈ fr_tb) (hm : fr_mw Lib.Math.max.name Lib.Math.max.code) (hr : 1 ≤ Y.2.2.2.2.frames ∧ (st.map fun v => v.category).sum + 13 ≤ Y.2.2.2.2.locals) (kk : fr_V Y K q L (.int (if x < y then y else x) :: st) M) : fr_V Y K pc L (.int y :: .int x :: st) M := by
  subst hq
  obtain ⟨p, l, e, R, s, m, args, below, meth, c, cells, slots, Q, G, A⟩ := K
  intro H locs ls hP hS hl
  have hR := F.2.2.2.2.2.1
  refine va_mmax F.1 F.2.1 (F.2.2.1.trans hl.1.symm) F.2.2.2.1 (F.2.2.2.2.1 _ hw) (F.2.2.2.2.1 _ hm.1) (F.2.2.2.2.1 _ hm.2.1) (F.2.2.2.2.1 _ hm.2.2) (by rw [hR]; exact hr.1) (Nat.le_trans (Nat.le_of_eq (congrArg (fun z => z + 13) (fr_sum G st))) (by rw [hR]; exact hr.2)) F.2.2.2.2.2.2.1.1 F.2.2.2.2.2.2.1.2 hd (kk H locs ls hP hS hl)
theorem fr_min {idx : Nat} {x y : Int32} (F : fr_F Y K) (hd : decode Y.2.1 pc = .ok (.invokestatic idx, 3)) (hq : pc + 3 = q) (hw : Cond.methodLink Y.1.cls idx Lib.Math.min.name ∈ fr_tb) (hm : fr_mw Lib.Math.min.name Lib.Math.min.code) (hr : 1 ≤ Y.2.2.2.2.frames ∧ (st.map fun v => v.category).sum + 13 ≤ Y.2.2.2.2.locals) (kk : fr_V Y K q L (.int (if y < x then y else x) :: st) M) : fr_V Y K pc L (.int y :: .int x :: st) M := by
  subst hq
  obtain ⟨p, l, e, R, s, m, args, below, meth, c, cells, slots, Q, G, A⟩ := K
  intro H locs ls hP hS hl
  have hR := F.2.2.2.2.2.1
  refine va_mmin F.1 F.2.1 (F.2.2.1.trans hl.1.symm) F.2.2.2.1 (F.2.2.2.2.1 _ hw) (F.2.2.2.2.1 _ hm.1) (F.2.2.2.2.1 _ hm.2.1) (F.2.2.2.2.1 _ hm.2.2) (by rw [hR]; exact hr.1) (Nat.le_trans (Nat.le_of_eq (congrArg (fun z => z + 13) (fr_sum G st))) (by rw [hR]; exact hr.2)) F.2.2.2.2.2.2.1.1 F.2.2.2.2.2.2.1.2 hd (kk H locs ls hP hS hl)
/-- System.arraycopy between two rows of numbers -/
def fr_aw : Prop := Cond.native arraycopyName ∈ fr_tb ∧ Cond.static arraycopyName ∈ fr_tb ∧ Cond.initialized "java/lang/System" ∈ fr_tb
theorem fr_acp {idx b0 b1 n0 n1 : Nat} {sp dp n : Int32} (F : fr_F Y K) (hd : decode Y.2.1 pc = .ok (.invokestatic idx, 3)) (hq : pc + 3 = q) (hw : Cond.methodLink Y.1.cls idx arraycopyName ∈ fr_tb) (hm : fr_aw) (hb0 : b0 < 67) (hs0 : fr_sh b0 = .inr (0, n0)) (hb1 : b1 < 67) (hs1 : fr_sh b1 = .inr (0, n1)) (h1 : ¬ sp < 0) (h2 : ¬ dp < 0) (h3 : ¬ n < 0) (h4 : sp.toNatClampNeg + n.toNatClampNeg ≤ n0) (h5 : dp.toNatClampNeg + n.toNatClampNeg ≤ n1)
    (hr : 1 ≤ Y.2.2.2.2.frames ∧ (st.map fun v => v.category).sum + (nativeFrameWords "java/lang/System" "arraycopy" 5 + 11) ≤ Y.2.2.2.2.locals) (hM : fr_wr M b1 (va_cpy (fr_ct M b0) (fr_ct M b1) sp.toNatClampNeg dp.toNatClampNeg n.toNatClampNeg) = M') (kk : fr_V Y K q L st M') : fr_V Y K pc L (.int n :: .int dp :: .ref b1 :: .int sp :: .ref b0 :: st) M := by
  subst hq; subst hM
  obtain ⟨p, l, e, R, s, m, args, below, meth, c, cells, slots, Q, G, A⟩ := K
  intro H locs ls hP hS hl
  have hR := F.2.2.2.2.2.1
  refine va_copyi (c0 := fr_gI G) (c1 := fr_gI G) (n0 := n0) (n1 := n1) (f := fr_ct M b0) (g := fr_ct M b1) (ty := .int) F.1 F.2.1 (F.2.2.1.trans hl.1.symm) F.2.2.2.1 (F.2.2.2.2.1 _ hw) (F.2.2.2.2.1 _ hm.1) (F.2.2.2.2.1 _ hm.2.1) (F.2.2.2.2.1 _ hm.2.2) F.2.2.2.2.2.2.2.1 hP (F.2.2.2.2.2.2.2.2.1 M) hS b0 b1 0 0 (by rw [fr_ws_at hb0, hs0]; rfl) (by rw [fr_ws_at hb1, hs1]; rfl) rfl rfl rfl h1 h2 h3 h4 h5 (fun _ _ => rfl) (by rw [hR]; exact hr.1) (Nat.le_trans (Nat.le_of_eq (congrArg (fun z => z + (nativeFrameWords "java/lang/System" "arraycopy" 5 + 11)) (fr_sum G st))) (by rw [hR]; exact hr.2)) hd (fun H1 locs1 hP1 _ hS1 => ?_)
  rw [fr_ws_set (M' := fr_wr M b1 (va_cpy (fr_ct M b0) (fr_ct M b1) sp.toNatClampNeg dp.toNatClampNeg n.toNatClampNeg)) hb1 (by rw [fr_ct_wr, hs1]; rfl) (fun j hj => fr_ct_wr_ne hj)] at hP1
  exact kk H1 locs1 ls hP1 hS1 hl
end FRH
end
section
/-! CALLS, and a method's contract -/
/-- the locals at a method's entry -/
def fr_ent : List Value → List (Option Value)
  | [] => []
  | v :: t => match v with
    | .long x => some (.long x) :: none :: fr_ent t
    | .double x => some (.double x) :: none :: fr_ent t
    | w => some w :: fr_ent t
theorem fr_ent_at (G : fr_G) : ∀ (vs : List Value) (i j : Nat) (w : Value) (pad : List (Option Value)), (∀ o ∈ pad, o = none) → fr_get (fr_ent vs ++ pad) j = some w → (i + j, fr_v G w) ∈ lv_args i (vs.map (fr_v G))
  | [], i, j, w, pad, hp, h => by
    have h1 := fr_get_eq _ _ _ h
    have h2 := hp _ (List.mem_of_getElem? h1)
    cases h2
  | v :: t, i, j, w, pad, hp, h => by
    have key1 : v.category = 1 → fr_ent (v :: t) = some v :: fr_ent t := by
      intro hc
      cases v <;> first | rfl | cases hc
    have key2 : v.category = 2 → fr_ent (v :: t) = some v :: none :: fr_ent t := by
      intro hc
      cases v <;> first | rfl | cases hc
    show (i + j, fr_v G w) ∈ (i, fr_v G v) :: lv_args (if (fr_v G v).category = 2 then i + 2 else i + 1) (t.map (fr_v G))
    rw [fr_v_cat]
    rcases lv_cat v with hc | hc
    · rw [key1 hc] at h
      rw [if_neg (by omega)]
      cases j with
      | zero =>
        have : v = w := Option.some.inj h
        subst this
        exact List.mem_cons_self
      | succ j =>
        have := fr_ent_at G t (i + 1) j w pad hp h
        rw [show i + (j + 1) = i + 1 + j by omega]
        exact List.mem_cons_of_mem _ this
    · rw [key2 hc] at h
      rw [if_pos hc]
      match j, h with
      | 0, h =>
        have : v = w := Option.some.inj h
        subst this
        exact List.mem_cons_self
      | 1, h => cases h
      | j + 2, h =>
        have := fr_ent_at G t (i + 2) j w pad hp h
        rw [show i + (j + 2) = i + 2 + j by omega]
        exact List.mem_cons_of_mem _ this
/-- what stands at a method's entry -/
def fr_U (G : fr_G) (M : fr_M) (U : State) : Prop := va_P (fr_gD G) fr_cl (fr_ws G M) U.heap ∧ va_K (fr_gD G) fr_cl (fr_ty G) U ∧ va_D (fun _ => True) (fr_ws G M) ∧ fr_St G (fr_A G) U U.heap ∧ fr_Nw U
def fr_Pc (G : fr_G) (av : List Value) (M : fr_M) : Array Value → State → Prop := fun v U => v = (av.map (fr_v G)).toArray ∧ fr_U G M U
def fr_Qc (G : fr_G) (v : Option Value) (M : fr_M) : Array Value → State → Outcome → State → Prop := fun _ s oc t => oc = .returned (v.map (fr_v G)) ∧ va_P (fr_gD G) fr_cl (fr_ws G M) t.heap ∧ va_F (fr_A G) s t
abbrev fr_yw (Y : fr_Y) : List Cond := Cond.code Y.1 Y.2.1 Y.2.2.1 Y.2.2.2.1 :: fr_tb
/-- THE CONTRACT: with these arguments over this memory, the method answers this, and this is the memory then -/
def fr_Met (l : Launch) (G : fr_G) (Y : fr_Y) (av : List Value) (M : fr_M) (v : Option Value) (M' : fr_M) : Prop := Met l Y.1 (fr_yw Y) Y.2.2.2.2 (fr_Pc G av M) (fr_Qc G v M') 0 0 (fr_A G)
/-- a method's end: with this answer over this memory -/
def fr_R (Y : fr_Y) (K : fr_K) (v : Option Value) (M : fr_M) : Prop := match K with
  | (_, _, _, _, s, _, args, below, meth, _, cells, slots, Q, G, A) => Q = MQ below (fr_Qc G v M) args s cells slots A ∧ meth.locks = false ∧ meth.sig.returnType = Y.2.2.2.1 ∧ A = fr_A G
theorem fr_D {G : fr_G} {A B : Nat → Prop} {M M' : fr_M} (h : va_D A (fr_ws G M)) (hB : ∀ k, k < 67 → B (fr_ad G k)) : va_D B (fr_ws G M') := by
  have at' : ∀ (k : Nat) (q : Nat × va_E), (fr_ws G M')[k]? = some q → k < 67 ∧ q.1 = fr_ad G k := by
    intro k q hq
    have hk : k < 67 := by
      have := (List.getElem?_eq_some_iff.mp hq).1
      rwa [fr_ws_len] at this
    rw [fr_ws_at hk] at hq
    exact ⟨hk, by rw [← Option.some.inj hq]⟩
  refine ⟨fun i j x y hi hj hxy => ?_, fun k q hk => ?_⟩
  · obtain ⟨h1, h2⟩ := at' i x hi
    obtain ⟨h3, h4⟩ := at' j y hj
    exact h.1 i j _ _ (fr_ws_at h1) (fr_ws_at h3) (by rw [← h2, ← h4]; exact hxy)
  · obtain ⟨h1, h2⟩ := at' k q hk
    rw [h2]
    exact hB k h1
theorem fr_met {l : Launch} {G : fr_G} {Y : fr_Y} {av : List Value} {pad : List (Option Value)} {M : fr_M} {v : Option Value} {M' : fr_M} (hy : plainName Y.1.cls = true) (hn : (lg_sl (av.map (fr_v G))).length ≤ Y.2.2.1) (hp : ∀ o ∈ pad, o = none) (hr : Y.2.2.2.2.cells = 0 ∧ Y.2.2.2.2.slots = 0)
    (body : ∀ K : fr_K, fr_F Y K → fr_kG K = G → fr_kl K = l → fr_R Y K v M' → fr_V Y K 0 (fr_ent av ++ pad) [] M) : fr_Met l G Y av M v M' := by
  refine Met.ofW (cc := Y.2.1) (maxL := Y.2.2.1) (ret := Y.2.2.2.1) hy rfl ?_
  intro p e s m args below meth c s₁ B hml hv
  obtain ⟨rfl, hP, hK, hD, hSt, hNw⟩ := hv
  have hts := atoms_spec (ws := fr_yw Y) B.pre
  have hA : ∀ k, k < 67 → fr_A G (fr_ad G k) := fun k hk => ⟨k, hk, rfl⟩
  have F : fr_F Y (p, l, e, (headSpec (fr_yw Y) Y.2.2.2.2).room, s, m, (av.map (fr_v G)).toArray, below, meth, c, 0, 0, MQ below (fr_Qc G v M') (av.map (fr_v G)).toArray s 0 0 (fr_A G), G, fr_A G) :=
    ⟨B.exec, B.bytes, hml, findClass_of_methodNamed B.named, fun w hw => hts w (List.mem_cons_of_mem _ hw), rfl, ⟨Nat.zero_le _, Nat.zero_le _⟩, hK, fun _ => fr_D hD hA, hSt, hNw⟩
  have key := body _ F rfl rfl ⟨rfl, B.notSynchronized, B.returns, rfl⟩
  have hl := lv_entry (av.map (fr_v G)) (n := Y.2.2.1) hn
  rw [lg_entry_eq]
  refine key s.heap [] _ hP va_S.rf ⟨hl.1, hl.2.1, fun i w hi => ?_⟩
  have h1 := fr_ent_at G av 0 i w pad hp (fr_eq_get _ _ _ hi)
  rw [Nat.zero_add] at h1
  exact hl.2.2 _ h1
section FRC
variable {Y : fr_Y} {K : fr_K} {pc q : Nat} {L : List (Option Value)} {M M' : fr_M}
theorem fr_iret {x : Int32} (F : fr_F Y K) (E : fr_R Y K (some (.int x)) M) (hr : Y.2.2.2.1 = some .int) (hd : decode Y.2.1 pc = .ok (.ireturn, 1)) : fr_V Y K pc L [.int x] M := by
  obtain ⟨p, l, e, R, s, m, args, below, meth, c, cells, slots, Q, G, A⟩ := K
  obtain ⟨rfl, hlk, hrt, rfl⟩ := E
  intro H locs ls hP hS hl
  exact W.iret F.1 F.2.1 (hrt.trans hr) (fun t ht _ => ⟨rfl, by rw [ht]; exact hP, hS.F ht⟩) hS.2.2 hd hlk
theorem fr_zret {x : Bool} (F : fr_F Y K) (E : fr_R Y K (some (.int (fr_b x))) M) (hr : Y.2.2.2.1 = some .boolean) (hd : decode Y.2.1 pc = .ok (.ireturn, 1)) : fr_V Y K pc L [.int (fr_b x)] M := by
  obtain ⟨p, l, e, R, s, m, args, below, meth, c, cells, slots, Q, G, A⟩ := K
  obtain ⟨rfl, hlk, hrt, rfl⟩ := E
  intro H locs ls hP hS hl
  exact W.zret F.1 F.2.1 (hrt.trans hr) (fr_bool x) (fun t ht _ => ⟨rfl, by rw [ht]; exact hP, hS.F ht⟩) hS.2.2 hd hlk
theorem fr_vret (F : fr_F Y K) (E : fr_R Y K none M) (hr : Y.2.2.2.1 = none) (hd : decode Y.2.1 pc = .ok (.return_, 1)) : fr_V Y K pc L [] M := by
  obtain ⟨p, l, e, R, s, m, args, below, meth, c, cells, slots, Q, G, A⟩ := K
  obtain ⟨rfl, hlk, hrt, rfl⟩ := E
  intro H locs ls hP hS hl
  exact W.vret F.1 F.2.1 (hrt.trans hr) (fun t ht _ => ⟨rfl, by rw [ht]; exact hP, hS.F ht⟩) hS.2.2 hd hlk
/-- a method of an object; a static one: what the tables say, how many arguments -/
def fr_mV (Z : fr_Y) (n ci : Nat) : Prop := (∃ (T : u_T) (N : Nat), fr_cl[ci]? = some (Z.1.cls, T, N)) ∧ Cond.instanceMethod Z.1 ∈ fr_tb ∧ Cond.selects Z.1.cls Z.1 Z.1 ∈ fr_tb ∧ Cond.initialized Z.1.cls ∈ fr_tb ∧ Cond.code Z.1 Z.2.1 Z.2.2.1 Z.2.2.2.1 ∈ fr_tb ∧
  (Z.1.cls ≠ "java/lang/invoke/MethodHandle" ∧ Z.1.cls ≠ "java/lang/invoke/VarHandle" ∧ (parseMethodDescriptor Z.1.desc).map (fun d => d.parameters.length) = some n) ∧ Z.2.2.2.2.cells = 0 ∧ Z.2.2.2.2.slots = 0
def fr_mS (Z : fr_Y) (n : Nat) : Prop := Cond.static Z.1 ∈ fr_tb ∧ Cond.initialized Z.1.cls ∈ fr_tb ∧ Cond.code Z.1 Z.2.1 Z.2.2.1 Z.2.2.2.1 ∈ fr_tb ∧
  (Z.1.cls ≠ "java/lang/invoke/MethodHandle" ∧ Z.1.cls ≠ "java/lang/invoke/VarHandle" ∧ (parseMethodDescriptor Z.1.desc).map (fun d => d.parameters.length) = some n) ∧ Z.2.2.2.2.cells = 0 ∧ Z.2.2.2.2.slots = 0
/-- a callee's room in its caller's -/
def fr_rm (Y Z : fr_Y) : Prop := Z.2.2.2.2.frames + 1 ≤ Y.2.2.2.2.frames ∧ 8 + (Z.2.2.1 + 11) + Z.2.2.2.2.locals ≤ Y.2.2.2.2.locals
theorem fr_goodY {Z : fr_Y} (h : Cond.code Z.1 Z.2.1 Z.2.2.1 Z.2.2.2.1 ∈ fr_tb) : GoodIn fr_tb (fr_yw Z) := fun w hw => by
  rcases List.mem_cons.mp hw with rfl | hw
  · exact fr_good _ h
  · exact fr_good _ hw
/-- behind a call -/
theorem fr_back {p : Program} {l : Launch} {e : Env} {R : Room} {s : State} {m : MethodId} {args : Array Value} {below : List Frame} {meth : Method} {c : Code} {H : Heap} {locs : List Loc} {cells slots : Nat} {Q : State → Prop} {pc : Nat} {ls : Array Slot} {rest st0 : List Value} {a : Array Value} {A : Nat → Prop} {H0 : Heap} {G : fr_G} {v : Option Value} {M' : fr_M}
    (hr : va_Run p l e R s m args below meth c H locs cells slots 0 0 (F0 m pc ls st0) rest (fr_Qc G v M' a) (fr_A G)) (hS : va_S A H0 H locs) (hA : ∀ q, fr_A G q → A q)
    (kk : ∀ (H1 : Heap) (locs1 : List Loc), va_P (fr_gD G) fr_cl (fr_ws G M') H1 → va_S A H0 H1 locs1 → W p l e R s m args below meth c H1 locs1 cells slots Q (F0 m (pc + 3) ls ((v.map (fr_v G)).toList ++ rest))) : W p l e R s m args below meth c H locs cells slots Q (F0 m pc ls st0) := by
  intro T hT X
  obtain ⟨v', st₀, t, T', L, h0, X', hL, e1, e2, ⟨hv, hp, hz, hk⟩, st⟩ := hr T hT X
  cases hv
  rw [h0] at hz hk
  obtain ⟨t2, a1, b1⟩ := kk T'.heap (locs ++ L) (by rw [e1]; exact hp)
    ⟨Nat.le_trans hS.1 (by rw [e1]; exact hz), fun q h1 h2 => by rw [e1, hk q (Nat.lt_of_lt_of_le h1 hS.1) (fun z => h2 (hA q z))]; exact hS.2.1 q h1 h2, fun q hq => by
      rcases List.mem_append.mp hq with h | h
      · exact hS.2.2 q h
      · exact hA _ (hL q h)⟩ T' rfl X'
  exact ⟨t2, st t2 a1, b1⟩
theorem fr_blind {G : fr_G} {av : List Value} {M : fr_M} : FrameBlind (fr_Pc G av M) := fun a U g mk h =>
  ⟨h.1, h.2.1, va_K.moved (u := U) (U := U.calling g mk a) (Vm.Alike.refl U.vm) h.2.2.1, h.2.2.2.1, fr_St.moved (u := U) (U := U.calling g mk a) (Vm.Alike.refl U.vm) h.2.2.2.2.1, fr_Nw.same (u := U) (U := U.calling g mk a) rfl h.2.2.2.2.2⟩
/-- the world at a callee's entry -/
theorem fr_there {G : fr_G} {A : Nat → Prop} {s U : State} {H : Heap} {locs : List Loc} (hP : va_P (fr_gD G) fr_cl (fr_ws G M) H) (hS : va_S A s.heap H locs) (hK : va_K (fr_gD G) fr_cl (fr_ty G) s) (hD : va_D A (fr_ws G M)) (hSt : fr_St G A s s.heap) (hNw : fr_Nw s) (hA : ∀ q, fr_A G q → A q) (hU : U.heap = H) (hW : s.WarmedH U.vm) : fr_U G M U :=
  ⟨by rw [hU]; exact hP, va_K.moved hW.alike hK, hD.weaken (fun _ _ _ _ => trivial), by
    rw [hU]
    exact ((hSt.kept (fun a h1 h2 => hS.2.1 a h1 h2)).moved hW.alike).narrow hA, hNw.warm hW⟩
theorem fr_sub {G : fr_G} {A : Nat → Prop} (hD : va_D A (fr_ws G M)) : ∀ q, fr_A G q → A q := fun q ⟨k, hk, e⟩ => by
  rw [e]
  exact hD.2 k _ (fr_ws_at hk)
theorem fr_callV {Z : fr_Y} {idx n b ci : Nat} {fs : List (Option Nat)} {As rest st st' : List Value} {v : Option Value} (F : fr_F Y K) (hd : decode Y.2.1 pc = .ok (.invokevirtual idx, 3)) (hq : pc + 3 = q) (hM : fr_Met (fr_kl K) (fr_kG K) Z (.ref b :: As) M v M') (hw : Cond.methodLink Y.1.cls idx Z.1 ∈ fr_tb) (hm : fr_mV Z n ci) (hR : fr_rm Y Z) (hb : b < 67) (hs : fr_sh b = .inl (ci, fs)) (hn : As.length = n) (hst : st = As.reverse ++ .ref b :: rest) (hr : (rest.map fun v => v.category).sum ≤ 8) (he : v.toList ++ rest = st') (kk : fr_V Y K q L st' M') : fr_V Y K pc L st M := by
  subst hq; subst hst; subst he
  obtain ⟨p, l, e, R, s, m, args, below, meth, c, cells, slots, Q, G, A⟩ := K
  intro H locs ls hP hS hl
  obtain ⟨hx, hb', hml, hown, hts, hRe, hcs, hK, hD, hSt, hNw⟩ := F
  obtain ⟨⟨T, N, hcl⟩, hi, hse, hini, hco, hde, hrc, hrs⟩ := hm
  have hA := fr_sub (hD M)
  have hcb : CallB R s args Y.1.cls idx Z.1 Z.2.1 Z.2.2.1 Z.2.2.2.1 (fr_yw Z) Z.2.2.2.2 0 0 n := callB_of n hts (fr_goodY hco) rfl hrc hrs (hts _ hini) (hts _ hw) hde (by rw [hRe]; exact hR)
  have hws : (fr_ws G M)[b]? = some (fr_ad G b, .inr (ci, fr_fs G fs (fr_ct M b))) := by rw [fr_ws_at hb, hs]; rfl
  refine fr_back (va_runV (As := As.map (fr_v G)) (rest := rest.map (fr_v G)) (b := fr_ad G b) (C := Z.1.cls) ⟨hx, hb', hml, hown, hts⟩ hM ⟨hcb, hts _ hi, hts _ hse⟩ ⟨fr_blind, va_recv hK hP hcl hws, fun U hU hW => ⟨rfl, fr_there hP hS hK (hD M) hSt hNw hA hU hW⟩⟩ rfl (by rw [List.length_map]; exact hn) hl.1 (by simp [fr_kG, fr_v]) (lv_room (by rw [fr_sum]; exact hr)) hd ⟨hcs.1, hcs.2⟩) hS hA (fun H1 locs1 hP1 hS1 => ?_)
  have := kk H1 locs1 ls hP1 hS1 hl
  cases v with
  | none => exact this
  | some w => exact this
theorem fr_callS {Z : fr_Y} {idx n : Nat} {As rest st st' : List Value} {v : Option Value} (F : fr_F Y K) (hd : decode Y.2.1 pc = .ok (.invokestatic idx, 3)) (hq : pc + 3 = q) (hM : fr_Met (fr_kl K) (fr_kG K) Z As M v M') (hw : Cond.methodLink Y.1.cls idx Z.1 ∈ fr_tb) (hm : fr_mS Z n) (hR : fr_rm Y Z) (hn : As.length = n) (hst : st = As.reverse ++ rest) (hr : (rest.map fun v => v.category).sum ≤ 8) (he : v.toList ++ rest = st') (kk : fr_V Y K q L st' M') : fr_V Y K pc L st M := by
  subst hq; subst hst; subst he
  obtain ⟨p, l, e, R, s, m, args, below, meth, c, cells, slots, Q, G, A⟩ := K
  intro H locs ls hP hS hl
  obtain ⟨hx, hb', hml, hown, hts, hRe, hcs, hK, hD, hSt, hNw⟩ := F
  obtain ⟨hi, hini, hco, hde, hrc, hrs⟩ := hm
  have hA := fr_sub (hD M)
  have hcb : CallB R s args Y.1.cls idx Z.1 Z.2.1 Z.2.2.1 Z.2.2.2.1 (fr_yw Z) Z.2.2.2.2 0 0 n := callB_of n hts (fr_goodY hco) rfl hrc hrs (hts _ hini) (hts _ hw) hde (by rw [hRe]; exact hR)
  refine fr_back (va_runS (As := As.map (fr_v G)) (rest := rest.map (fr_v G)) ⟨hx, hb', hml, hown, hts⟩ hM ⟨hcb, hts _ hi⟩ ⟨fr_blind, fun U hU hW => ⟨rfl, fr_there hP hS hK (hD M) hSt hNw hA hU hW⟩⟩ rfl (by rw [List.length_map]; exact hn) hl.1 (by simp [fr_kG]) (lv_room (by rw [fr_sum]; exact hr)) hd ⟨hcs.1, hcs.2⟩) hS hA (fun H1 locs1 hP1 hS1 => ?_)
  have := kk H1 locs1 ls hP1 hS1 hl
  cases v with
  | none => exact this
  | some w => exact this
/-- the class's 'within' from a nest mate -/
theorem fr_callN {Z : fr_Y} {idx n : Nat} {As rest st st' : List Value} {v : Option Value} (F : fr_F Y K) (hd : decode Y.2.1 pc = .ok (.invokestatic idx, 3)) (hq : pc + 3 = q) (hM : fr_Met (fr_kl K) (fr_kG K) Z As M v M') (hZ : Z.1 = yX7_within) (hw : (Y.1.cls, idx) ∈ fr_nm) (hm : fr_mS Z n) (hR : fr_rm Y Z) (hn : As.length = n) (hst : st = As.reverse ++ rest) (hr : (rest.map fun v => v.category).sum ≤ 8) (he : v.toList ++ rest = st') (kk : fr_V Y K q L st' M') : fr_V Y K pc L st M := by
  subst hq; subst hst; subst he
  obtain ⟨p, l, e, R, s, m, args, below, meth, c, cells, slots, Q, G, A⟩ := K
  intro H locs ls hP hS hl
  obtain ⟨hx, hb', hml, hown, hts, hRe, hcs, hK, hD, hSt, hNw⟩ := F
  obtain ⟨hi, hini, hco, hde, hrc, hrs⟩ := hm
  have hA := fr_sub (hD M)
  have hnw : va_Nw (.methodLinkNest Y.1.cls idx Z.1 RX7) s := by rw [hZ]; exact hNw.1 _ hw
  have hcn : va_CN R s args Y.1.cls idx Z.1 RX7 Z.2.1 Z.2.2.1 Z.2.2.2.1 (fr_yw Z) Z.2.2.2.2 0 0 n := va_cnB n hts (fr_goodY hco) rfl hrc hrs hnw (hts _ hini) hde (by rw [hRe]; exact hR)
  refine fr_back (va_runSN (As := As.map (fr_v G)) (rest := rest.map (fr_v G)) ⟨hx, hb', hml, hown, hts⟩ hM ⟨hcn, hts _ hi, trivial⟩ ⟨fr_blind, fun U hU hW => ⟨rfl, fr_there hP hS hK (hD M) hSt hNw hA hU hW⟩⟩ rfl (by rw [List.length_map]; exact hn) hl.1 (by simp [fr_kG]) (lv_room (by rw [fr_sum]; exact hr)) hd ⟨hcs.1, hcs.2⟩) hS hA (fun H1 locs1 hP1 hS1 => ?_)
  have := kk H1 locs1 ls hP1 hS1 hl
  cases v with
  | none => exact this
  | some w => exact this
/-- fewer locals told -/
def fr_Le : List (Option Value) → List (Option Value) → Prop
  | [], _ => True
  | none :: t, L => fr_Le t L.tail
  | some v :: t, L => L.head? = some (some v) ∧ fr_Le t L.tail
theorem fr_Le_get : ∀ (L' L : List (Option Value)) (i : Nat) (v : Value), fr_Le L' L → L'[i]? = some (some v) → L[i]? = some (some v)
  | [], _, i, v, _, h => by simp at h
  | none :: _, _, 0, v, _, h => by simp at h
  | some w :: _, L, 0, v, hl, h => by
    have : w = v := by simpa using h
    subst this
    cases L with
    | nil => cases hl.1
    | cons a t => simpa using hl.1
  | none :: t, L, i + 1, v, hl, h => by
    have h1 := fr_Le_get t L.tail i v hl (by simpa using h)
    cases L with
    | nil => simp at h1
    | cons a u => simpa using h1
  | some w :: t, L, i + 1, v, hl, h => by
    have h1 := fr_Le_get t L.tail i v hl.2 (by simpa using h)
    cases L with
    | nil => simp at h1
    | cons a u => simpa using h1
theorem fr_wk {L' : List (Option Value)} {st : List Value} (h : fr_Le L' L) (k : fr_V Y K pc L' st M) : fr_V Y K pc L st M := fun H locs ls hP hS hl =>
  k H locs ls hP hS ⟨hl.1, hl.2.1, fun i v hi => hl.2.2 i v (fr_Le_get L' L i v h hi)⟩
theorem fr_vin {i : Int32} {n : Nat} (h : decide (i < 0 ∨ n ≤ i.toNatClampNeg) = false) : vp_in i n := of_decide_eq_false h
theorem fr_im1 {i : Int32} (h : vp_in i 2) (h0 : ¬ i = 0) : 18 + 8 * i.toNatClampNeg = 26 := by
  have h1 : ¬ i < 0 := fun z => h (Or.inl z)
  have h2 : i.toNatClampNeg < 2 := Nat.not_le.mp fun z => h (Or.inr z)
  obtain ⟨j, hj, rfl⟩ := nI_of h1
  rw [nI_clamp hj] at h2 ⊢
  have : j ≠ 0 := fun z => h0 (by rw [z]; exact nI_0)
  omega
def fr_lt {α β : Type} (x : α) (k : α → β) : β := k x
theorem fr_lt_eq {α β : Type} (x : α) (k : α → β) : fr_lt x k = k x := rfl
theorem fr_lt_some {α β : Type} {x : α} {k : α → β} {o : β} (h : fr_lt x k = o) : ∃ y, x = y ∧ k y = o := ⟨x, rfl, h⟩
def fr_bd2 {α β : Type} (a : Option (α × fr_N)) (k : α → fr_N → Option β) : Option β := match a with
  | some (x, n) => k x n
  | none => none
theorem fr_bd2_some {α β : Type} {a : Option (α × fr_N)} {k : α → fr_N → Option β} {o : β} (h : fr_bd2 a k = some o) : ∃ x n, a = some (x, n) ∧ k x n = some o := by
  cases a with
  | none => cases h
  | some q => exact ⟨q.1, q.2, rfl, h⟩
theorem fr_bd2_eq {α β : Type} {x : α} {n : fr_N} {k : α → fr_N → Option β} : fr_bd2 (some (x, n)) k = k x n := rfl
theorem fr_inl {ws : List Cond} (ps : List Nat) (h : ps.map (fun i => lw_tbl[i]?) = ws.map some) (hg : ws.all goodWord = true) : ∀ w ∈ ws, w ∈ fr_tb := by
  intro w hw
  obtain ⟨k, hk⟩ := List.getElem?_of_mem hw
  have h1 : (ws.map some)[k]? = some (some w) := by rw [List.getElem?_map, hk]; rfl
  rw [← h, List.getElem?_map] at h1
  cases hi : ps[k]? with
  | none => rw [hi] at h1; cases h1
  | some i =>
    rw [hi] at h1
    exact fr_in (Option.some.inj h1) (List.all_eq_true.mp hg w hw)
end FRC
end
section
theorem in_X0 : ∀ w ∈ wsX00, w ∈ fr_tb := fr_inl [270, 272, 274, 276, 278] (by decide +kernel) (by decide +kernel)
theorem in_X1 : ∀ w ∈ wsX10, w ∈ fr_tb := fr_inl [153, 155, 157, 159, 161, 163, 165, 167, 169, 171, 173] (by decide +kernel) (by decide +kernel)
theorem in_X2 : ∀ w ∈ wsX20, w ∈ fr_tb := fr_inl [193, 195, 197, 199] (by decide +kernel) (by decide +kernel)
theorem in_X3 : ∀ w ∈ wsX30, w ∈ fr_tb := fr_inl [216, 218, 220, 222, 224, 226] (by decide +kernel) (by decide +kernel)
theorem in_X4 : ∀ w ∈ wsX40, w ∈ fr_tb := fr_inl [245, 247, 249, 251, 253, 255] (by decide +kernel) (by decide +kernel)
theorem in_X5 : ∀ w ∈ wsX50, w ∈ fr_tb := fr_inl [298, 300, 302, 304, 306, 308, 310, 312] (by decide +kernel) (by decide +kernel)
theorem in_X6 : ∀ w ∈ wsX60, w ∈ fr_tb := fr_inl [105, 107] (by decide +kernel) (by decide +kernel)
theorem in_X7 : ∀ w ∈ wsX70, w ∈ fr_tb := fr_inl [323, 325, 327, 329, 331, 333, 335, 337] (by decide +kernel) (by decide +kernel)
theorem in_X8 : ∀ w ∈ wsX80, w ∈ fr_tb := fr_inl [813, 815, 817, 819, 821, 823, 825, 827, 829, 831, 833, 835, 837, 839, 841, 843, 845, 847, 849, 851, 853, 855, 857, 859, 861, 863, 865] (by decide +kernel) (by decide +kernel)
theorem faRX0_11 : fr_fa RX0 11 0 0 := ⟨RX0, TX0, 5, rfl, by decide, fr_in (i := 264) (by decide +kernel) rfl, in_X0, rfl⟩
theorem faRX0_15 : fr_fa RX0 15 0 1 := ⟨RX0, TX0, 5, rfl, by decide, fr_in (i := 265) (by decide +kernel) rfl, in_X0, rfl⟩
theorem faRX0_18 : fr_fa RX0 18 0 2 := ⟨RX0, TX0, 5, rfl, by decide, fr_in (i := 266) (by decide +kernel) rfl, in_X0, rfl⟩
theorem faRX0_21 : fr_fa RX0 21 0 3 := ⟨RX0, TX0, 5, rfl, by decide, fr_in (i := 267) (by decide +kernel) rfl, in_X0, rfl⟩
theorem faRX0_24 : fr_fa RX0 24 0 4 := ⟨RX0, TX0, 5, rfl, by decide, fr_in (i := 268) (by decide +kernel) rfl, in_X0, rfl⟩
theorem faRX0_37 : fr_fa RX0 37 1 1 := ⟨RX1, TX1, 11, rfl, by decide, fr_in (i := 122) (by decide +kernel) rfl, in_X1, rfl⟩
theorem faRX0_52 : fr_fa RX0 52 1 5 := ⟨RX1, TX1, 11, rfl, by decide, fr_in (i := 139) (by decide +kernel) rfl, in_X1, rfl⟩
theorem faRX0_55 : fr_fa RX0 55 1 4 := ⟨RX1, TX1, 11, rfl, by decide, fr_in (i := 134) (by decide +kernel) rfl, in_X1, rfl⟩
theorem faRX0_58 : fr_fa RX0 58 1 9 := ⟨RX1, TX1, 11, rfl, by decide, fr_in (i := 148) (by decide +kernel) rfl, in_X1, rfl⟩
theorem faRX0_61 : fr_fa RX0 61 1 10 := ⟨RX1, TX1, 11, rfl, by decide, fr_in (i := 151) (by decide +kernel) rfl, in_X1, rfl⟩
theorem faRX1_9 : fr_fa RX1 9 1 4 := ⟨RX1, TX1, 11, rfl, by decide, fr_in (i := 132) (by decide +kernel) rfl, in_X1, rfl⟩
theorem faRX1_15 : fr_fa RX1 15 1 5 := ⟨RX1, TX1, 11, rfl, by decide, fr_in (i := 138) (by decide +kernel) rfl, in_X1, rfl⟩
theorem faRX1_18 : fr_fa RX1 18 1 6 := ⟨RX1, TX1, 11, rfl, by decide, fr_in (i := 141) (by decide +kernel) rfl, in_X1, rfl⟩
theorem faRX1_21 : fr_fa RX1 21 1 7 := ⟨RX1, TX1, 11, rfl, by decide, fr_in (i := 143) (by decide +kernel) rfl, in_X1, rfl⟩
theorem faRX1_24 : fr_fa RX1 24 1 8 := ⟨RX1, TX1, 11, rfl, by decide, fr_in (i := 145) (by decide +kernel) rfl, in_X1, rfl⟩
theorem faRX1_27 : fr_fa RX1 27 1 9 := ⟨RX1, TX1, 11, rfl, by decide, fr_in (i := 147) (by decide +kernel) rfl, in_X1, rfl⟩
theorem faRX1_30 : fr_fa RX1 30 1 10 := ⟨RX1, TX1, 11, rfl, by decide, fr_in (i := 150) (by decide +kernel) rfl, in_X1, rfl⟩
theorem faRX1_48 : fr_fa RX1 48 1 1 := ⟨RX1, TX1, 11, rfl, by decide, fr_in (i := 123) (by decide +kernel) rfl, in_X1, rfl⟩
theorem faRX1_52 : fr_fa RX1 52 1 2 := ⟨RX1, TX1, 11, rfl, by decide, fr_in (i := 124) (by decide +kernel) rfl, in_X1, rfl⟩
theorem faRX1_55 : fr_fa RX1 55 1 3 := ⟨RX1, TX1, 11, rfl, by decide, fr_in (i := 129) (by decide +kernel) rfl, in_X1, rfl⟩
theorem faRX2_11 : fr_fa RX2 11 1 4 := ⟨RX1, TX1, 11, rfl, by decide, fr_in (i := 133) (by decide +kernel) rfl, in_X1, rfl⟩
theorem faRX2_21 : fr_fa RX2 21 2 0 := ⟨RX2, TX2, 4, rfl, by decide, fr_in (i := 184) (by decide +kernel) rfl, in_X2, rfl⟩
theorem faRX2_28 : fr_fa RX2 28 2 1 := ⟨RX2, TX2, 4, rfl, by decide, fr_in (i := 187) (by decide +kernel) rfl, in_X2, rfl⟩
theorem faRX2_35 : fr_fa RX2 35 2 2 := ⟨RX2, TX2, 4, rfl, by decide, fr_in (i := 189) (by decide +kernel) rfl, in_X2, rfl⟩
theorem faRX2_41 : fr_fa RX2 41 2 3 := ⟨RX2, TX2, 4, rfl, by decide, fr_in (i := 191) (by decide +kernel) rfl, in_X2, rfl⟩
theorem faRX3_9 : fr_fa RX3 9 3 0 := ⟨RX3, TX3, 6, rfl, by decide, fr_in (i := 206) (by decide +kernel) rfl, in_X3, rfl⟩
theorem faRX3_15 : fr_fa RX3 15 3 1 := ⟨RX3, TX3, 6, rfl, by decide, fr_in (i := 207) (by decide +kernel) rfl, in_X3, rfl⟩
theorem faRX3_19 : fr_fa RX3 19 3 2 := ⟨RX3, TX3, 6, rfl, by decide, fr_in (i := 209) (by decide +kernel) rfl, in_X3, rfl⟩
theorem faRX3_23 : fr_fa RX3 23 3 3 := ⟨RX3, TX3, 6, rfl, by decide, fr_in (i := 211) (by decide +kernel) rfl, in_X3, rfl⟩
theorem faRX3_26 : fr_fa RX3 26 3 4 := ⟨RX3, TX3, 6, rfl, by decide, fr_in (i := 213) (by decide +kernel) rfl, in_X3, rfl⟩
theorem faRX3_29 : fr_fa RX3 29 3 5 := ⟨RX3, TX3, 6, rfl, by decide, fr_in (i := 215) (by decide +kernel) rfl, in_X3, rfl⟩
theorem faRX3_44 : fr_fa RX3 44 1 1 := ⟨RX1, TX1, 11, rfl, by decide, fr_in (i := 119) (by decide +kernel) rfl, in_X1, rfl⟩
theorem faRX3_80 : fr_fa RX3 80 2 0 := ⟨RX2, TX2, 4, rfl, by decide, fr_in (i := 185) (by decide +kernel) rfl, in_X2, rfl⟩
theorem faRX3_98 : fr_fa RX3 98 1 2 := ⟨RX1, TX1, 11, rfl, by decide, fr_in (i := 126) (by decide +kernel) rfl, in_X1, rfl⟩
theorem faRX3_101 : fr_fa RX3 101 1 6 := ⟨RX1, TX1, 11, rfl, by decide, fr_in (i := 142) (by decide +kernel) rfl, in_X1, rfl⟩
theorem faRX3_104 : fr_fa RX3 104 1 7 := ⟨RX1, TX1, 11, rfl, by decide, fr_in (i := 144) (by decide +kernel) rfl, in_X1, rfl⟩
theorem faRX3_110 : fr_fa RX3 110 1 8 := ⟨RX1, TX1, 11, rfl, by decide, fr_in (i := 146) (by decide +kernel) rfl, in_X1, rfl⟩
theorem faRX3_131 : fr_fa RX3 131 1 4 := ⟨RX1, TX1, 11, rfl, by decide, fr_in (i := 137) (by decide +kernel) rfl, in_X1, rfl⟩
theorem faRX4_9 : fr_fa RX4 9 4 0 := ⟨RX4, TX4, 6, rfl, by decide, fr_in (i := 236) (by decide +kernel) rfl, in_X4, rfl⟩
theorem faRX4_15 : fr_fa RX4 15 4 1 := ⟨RX4, TX4, 6, rfl, by decide, fr_in (i := 237) (by decide +kernel) rfl, in_X4, rfl⟩
theorem faRX4_19 : fr_fa RX4 19 4 2 := ⟨RX4, TX4, 6, rfl, by decide, fr_in (i := 239) (by decide +kernel) rfl, in_X4, rfl⟩
theorem faRX4_70 : fr_fa RX4 70 1 1 := ⟨RX1, TX1, 11, rfl, by decide, fr_in (i := 121) (by decide +kernel) rfl, in_X1, rfl⟩
theorem faRX4_88 : fr_fa RX4 88 4 3 := ⟨RX4, TX4, 6, rfl, by decide, fr_in (i := 240) (by decide +kernel) rfl, in_X4, rfl⟩
theorem faRX4_95 : fr_fa RX4 95 1 2 := ⟨RX1, TX1, 11, rfl, by decide, fr_in (i := 125) (by decide +kernel) rfl, in_X1, rfl⟩
theorem faRX4_109 : fr_fa RX4 109 6 1 := ⟨RX6, TX6, 2, rfl, by decide, fr_in (i := 104) (by decide +kernel) rfl, in_X6, rfl⟩
theorem faRX4_122 : fr_fa RX4 122 1 4 := ⟨RX1, TX1, 11, rfl, by decide, fr_in (i := 136) (by decide +kernel) rfl, in_X1, rfl⟩
theorem faRX5_9 : fr_fa RX5 9 5 0 := ⟨RX5, TX5, 8, rfl, by decide, fr_in (i := 287) (by decide +kernel) rfl, in_X5, rfl⟩
theorem faRX5_15 : fr_fa RX5 15 5 1 := ⟨RX5, TX5, 8, rfl, by decide, fr_in (i := 288) (by decide +kernel) rfl, in_X5, rfl⟩
theorem faRX5_19 : fr_fa RX5 19 5 2 := ⟨RX5, TX5, 8, rfl, by decide, fr_in (i := 289) (by decide +kernel) rfl, in_X5, rfl⟩
theorem faRX5_23 : fr_fa RX5 23 5 3 := ⟨RX5, TX5, 8, rfl, by decide, fr_in (i := 291) (by decide +kernel) rfl, in_X5, rfl⟩
theorem faRX5_26 : fr_fa RX5 26 5 4 := ⟨RX5, TX5, 8, rfl, by decide, fr_in (i := 292) (by decide +kernel) rfl, in_X5, rfl⟩
theorem faRX5_35 : fr_fa RX5 35 5 5 := ⟨RX5, TX5, 8, rfl, by decide, fr_in (i := 294) (by decide +kernel) rfl, in_X5, rfl⟩
theorem faRX5_39 : fr_fa RX5 39 5 6 := ⟨RX5, TX5, 8, rfl, by decide, fr_in (i := 295) (by decide +kernel) rfl, in_X5, rfl⟩
theorem faRX5_46 : fr_fa RX5 46 5 7 := ⟨RX5, TX5, 8, rfl, by decide, fr_in (i := 297) (by decide +kernel) rfl, in_X5, rfl⟩
theorem faRX5_69 : fr_fa RX5 69 1 3 := ⟨RX1, TX1, 11, rfl, by decide, fr_in (i := 128) (by decide +kernel) rfl, in_X1, rfl⟩
theorem faRX6_11 : fr_fa RX6 11 6 0 := ⟨RX6, TX6, 2, rfl, by decide, fr_in (i := 101) (by decide +kernel) rfl, in_X6, rfl⟩
theorem faRX6_15 : fr_fa RX6 15 6 1 := ⟨RX6, TX6, 2, rfl, by decide, fr_in (i := 102) (by decide +kernel) rfl, in_X6, rfl⟩
theorem faRX7_23 : fr_fa RX7 23 7 0 := ⟨RX7, TX7, 8, rfl, by decide, fr_in (i := 315) (by decide +kernel) rfl, in_X7, rfl⟩
theorem faRX7_32 : fr_fa RX7 32 7 1 := ⟨RX7, TX7, 8, rfl, by decide, fr_in (i := 316) (by decide +kernel) rfl, in_X7, rfl⟩
theorem faRX7_36 : fr_fa RX7 36 7 2 := ⟨RX7, TX7, 8, rfl, by decide, fr_in (i := 317) (by decide +kernel) rfl, in_X7, rfl⟩
theorem faRX7_40 : fr_fa RX7 40 7 3 := ⟨RX7, TX7, 8, rfl, by decide, fr_in (i := 318) (by decide +kernel) rfl, in_X7, rfl⟩
theorem faRX7_47 : fr_fa RX7 47 7 4 := ⟨RX7, TX7, 8, rfl, by decide, fr_in (i := 319) (by decide +kernel) rfl, in_X7, rfl⟩
theorem faRX7_51 : fr_fa RX7 51 7 5 := ⟨RX7, TX7, 8, rfl, by decide, fr_in (i := 320) (by decide +kernel) rfl, in_X7, rfl⟩
theorem faRX7_60 : fr_fa RX7 60 7 6 := ⟨RX7, TX7, 8, rfl, by decide, fr_in (i := 321) (by decide +kernel) rfl, in_X7, rfl⟩
theorem faRX7_64 : fr_fa RX7 64 7 7 := ⟨RX7, TX7, 8, rfl, by decide, fr_in (i := 322) (by decide +kernel) rfl, in_X7, rfl⟩
theorem faRX7_77 : fr_fa RX7 77 6 1 := ⟨RX6, TX6, 2, rfl, by decide, fr_in (i := 103) (by decide +kernel) rfl, in_X6, rfl⟩
theorem faRX7_85 : fr_fa RX7 85 4 4 := ⟨RX4, TX4, 6, rfl, by decide, fr_in (i := 242) (by decide +kernel) rfl, in_X4, rfl⟩
theorem faRX7_89 : fr_fa RX7 89 4 5 := ⟨RX4, TX4, 6, rfl, by decide, fr_in (i := 244) (by decide +kernel) rfl, in_X4, rfl⟩
theorem faRX7_92 : fr_fa RX7 92 4 1 := ⟨RX4, TX4, 6, rfl, by decide, fr_in (i := 238) (by decide +kernel) rfl, in_X4, rfl⟩
theorem faRX7_99 : fr_fa RX7 99 0 4 := ⟨RX0, TX0, 5, rfl, by decide, fr_in (i := 269) (by decide +kernel) rfl, in_X0, rfl⟩
theorem faRX7_102 : fr_fa RX7 102 1 1 := ⟨RX1, TX1, 11, rfl, by decide, fr_in (i := 120) (by decide +kernel) rfl, in_X1, rfl⟩
theorem faRX7_124 : fr_fa RX7 124 1 5 := ⟨RX1, TX1, 11, rfl, by decide, fr_in (i := 140) (by decide +kernel) rfl, in_X1, rfl⟩
theorem faRX7_128 : fr_fa RX7 128 1 0 := ⟨RX1, TX1, 11, rfl, by decide, fr_in (i := 118) (by decide +kernel) rfl, in_X1, rfl⟩
theorem faRX7_141 : fr_fa RX7 141 1 4 := ⟨RX1, TX1, 11, rfl, by decide, fr_in (i := 135) (by decide +kernel) rfl, in_X1, rfl⟩
theorem faRX7_147 : fr_fa RX7 147 1 9 := ⟨RX1, TX1, 11, rfl, by decide, fr_in (i := 149) (by decide +kernel) rfl, in_X1, rfl⟩
theorem faRX7_150 : fr_fa RX7 150 1 10 := ⟨RX1, TX1, 11, rfl, by decide, fr_in (i := 152) (by decide +kernel) rfl, in_X1, rfl⟩
theorem faRX7_160 : fr_fa RX7 160 3 1 := ⟨RX3, TX3, 6, rfl, by decide, fr_in (i := 208) (by decide +kernel) rfl, in_X3, rfl⟩
theorem faRX7_164 : fr_fa RX7 164 2 0 := ⟨RX2, TX2, 4, rfl, by decide, fr_in (i := 186) (by decide +kernel) rfl, in_X2, rfl⟩
theorem faRX7_167 : fr_fa RX7 167 2 1 := ⟨RX2, TX2, 4, rfl, by decide, fr_in (i := 188) (by decide +kernel) rfl, in_X2, rfl⟩
theorem faRX7_170 : fr_fa RX7 170 2 2 := ⟨RX2, TX2, 4, rfl, by decide, fr_in (i := 190) (by decide +kernel) rfl, in_X2, rfl⟩
theorem faRX7_173 : fr_fa RX7 173 2 3 := ⟨RX2, TX2, 4, rfl, by decide, fr_in (i := 192) (by decide +kernel) rfl, in_X2, rfl⟩
theorem faRX7_190 : fr_fa RX7 190 5 6 := ⟨RX5, TX5, 8, rfl, by decide, fr_in (i := 296) (by decide +kernel) rfl, in_X5, rfl⟩
theorem faRX7_216 : fr_fa RX7 216 3 3 := ⟨RX3, TX3, 6, rfl, by decide, fr_in (i := 212) (by decide +kernel) rfl, in_X3, rfl⟩
theorem faRX7_219 : fr_fa RX7 219 3 2 := ⟨RX3, TX3, 6, rfl, by decide, fr_in (i := 210) (by decide +kernel) rfl, in_X3, rfl⟩
theorem faRX7_222 : fr_fa RX7 222 3 4 := ⟨RX3, TX3, 6, rfl, by decide, fr_in (i := 214) (by decide +kernel) rfl, in_X3, rfl⟩
theorem faRX7_240 : fr_fa RX7 240 5 4 := ⟨RX5, TX5, 8, rfl, by decide, fr_in (i := 293) (by decide +kernel) rfl, in_X5, rfl⟩
theorem faRX7_243 : fr_fa RX7 243 5 2 := ⟨RX5, TX5, 8, rfl, by decide, fr_in (i := 290) (by decide +kernel) rfl, in_X5, rfl⟩
theorem faRX7_271 : fr_fa RX7 271 1 2 := ⟨RX1, TX1, 11, rfl, by decide, fr_in (i := 127) (by decide +kernel) rfl, in_X1, rfl⟩
theorem faRX7_274 : fr_fa RX7 274 1 3 := ⟨RX1, TX1, 11, rfl, by decide, fr_in (i := 131) (by decide +kernel) rfl, in_X1, rfl⟩
theorem faRX8_7 : fr_fa RX8 7 8 0 := ⟨RX8, TX8, 27, rfl, by decide, fr_in (i := 786) (by decide +kernel) rfl, in_X8, rfl⟩
theorem faRX8_13 : fr_fa RX8 13 8 1 := ⟨RX8, TX8, 27, rfl, by decide, fr_in (i := 787) (by decide +kernel) rfl, in_X8, rfl⟩
theorem faRX8_16 : fr_fa RX8 16 8 2 := ⟨RX8, TX8, 27, rfl, by decide, fr_in (i := 788) (by decide +kernel) rfl, in_X8, rfl⟩
theorem faRX8_19 : fr_fa RX8 19 8 4 := ⟨RX8, TX8, 27, rfl, by decide, fr_in (i := 790) (by decide +kernel) rfl, in_X8, rfl⟩
theorem faRX8_22 : fr_fa RX8 22 8 5 := ⟨RX8, TX8, 27, rfl, by decide, fr_in (i := 791) (by decide +kernel) rfl, in_X8, rfl⟩
theorem faRX8_26 : fr_fa RX8 26 8 6 := ⟨RX8, TX8, 27, rfl, by decide, fr_in (i := 792) (by decide +kernel) rfl, in_X8, rfl⟩
theorem faRX8_29 : fr_fa RX8 29 8 15 := ⟨RX8, TX8, 27, rfl, by decide, fr_in (i := 801) (by decide +kernel) rfl, in_X8, rfl⟩
theorem faRX8_32 : fr_fa RX8 32 8 16 := ⟨RX8, TX8, 27, rfl, by decide, fr_in (i := 802) (by decide +kernel) rfl, in_X8, rfl⟩
theorem faRX8_35 : fr_fa RX8 35 8 17 := ⟨RX8, TX8, 27, rfl, by decide, fr_in (i := 803) (by decide +kernel) rfl, in_X8, rfl⟩
theorem faRX8_38 : fr_fa RX8 38 8 18 := ⟨RX8, TX8, 27, rfl, by decide, fr_in (i := 804) (by decide +kernel) rfl, in_X8, rfl⟩
theorem faRX8_41 : fr_fa RX8 41 8 19 := ⟨RX8, TX8, 27, rfl, by decide, fr_in (i := 805) (by decide +kernel) rfl, in_X8, rfl⟩
theorem faRX8_44 : fr_fa RX8 44 8 22 := ⟨RX8, TX8, 27, rfl, by decide, fr_in (i := 808) (by decide +kernel) rfl, in_X8, rfl⟩
theorem faRX8_47 : fr_fa RX8 47 8 23 := ⟨RX8, TX8, 27, rfl, by decide, fr_in (i := 809) (by decide +kernel) rfl, in_X8, rfl⟩
theorem faRX8_50 : fr_fa RX8 50 8 24 := ⟨RX8, TX8, 27, rfl, by decide, fr_in (i := 810) (by decide +kernel) rfl, in_X8, rfl⟩
theorem faRX8_63 : fr_fa RX8 63 8 21 := ⟨RX8, TX8, 27, rfl, by decide, fr_in (i := 807) (by decide +kernel) rfl, in_X8, rfl⟩
theorem faRX8_71 : fr_fa RX8 71 8 20 := ⟨RX8, TX8, 27, rfl, by decide, fr_in (i := 806) (by decide +kernel) rfl, in_X8, rfl⟩
theorem faRX8_135 : fr_fa RX8 135 8 25 := ⟨RX8, TX8, 27, rfl, by decide, fr_in (i := 811) (by decide +kernel) rfl, in_X8, rfl⟩
theorem faRX8_138 : fr_fa RX8 138 8 26 := ⟨RX8, TX8, 27, rfl, by decide, fr_in (i := 812) (by decide +kernel) rfl, in_X8, rfl⟩
theorem faRX8_152 : fr_fa RX8 152 8 7 := ⟨RX8, TX8, 27, rfl, by decide, fr_in (i := 793) (by decide +kernel) rfl, in_X8, rfl⟩
theorem faRX8_155 : fr_fa RX8 155 8 8 := ⟨RX8, TX8, 27, rfl, by decide, fr_in (i := 794) (by decide +kernel) rfl, in_X8, rfl⟩
theorem faRX8_158 : fr_fa RX8 158 8 9 := ⟨RX8, TX8, 27, rfl, by decide, fr_in (i := 795) (by decide +kernel) rfl, in_X8, rfl⟩
theorem faRX8_164 : fr_fa RX8 164 8 11 := ⟨RX8, TX8, 27, rfl, by decide, fr_in (i := 797) (by decide +kernel) rfl, in_X8, rfl⟩
theorem faRX8_175 : fr_fa RX8 175 8 10 := ⟨RX8, TX8, 27, rfl, by decide, fr_in (i := 796) (by decide +kernel) rfl, in_X8, rfl⟩
theorem faRX8_178 : fr_fa RX8 178 8 12 := ⟨RX8, TX8, 27, rfl, by decide, fr_in (i := 798) (by decide +kernel) rfl, in_X8, rfl⟩
theorem faRX8_181 : fr_fa RX8 181 8 13 := ⟨RX8, TX8, 27, rfl, by decide, fr_in (i := 799) (by decide +kernel) rfl, in_X8, rfl⟩
theorem faRX8_227 : fr_fa RX8 227 8 14 := ⟨RX8, TX8, 27, rfl, by decide, fr_in (i := 800) (by decide +kernel) rfl, in_X8, rfl⟩
theorem faRX8_235 : fr_fa RX8 235 8 3 := ⟨RX8, TX8, 27, rfl, by decide, fr_in (i := 789) (by decide +kernel) rfl, in_X8, rfl⟩
theorem fpRX0_24 : fr_fp RX0 24 0 4 .int := ⟨RX0, TX0, 5, tyX0, rfl, by decide, fr_in (i := 268) (by decide +kernel) rfl, in_X0, rfl, rfl, tyX0_ok, nmX0, rfl⟩
theorem fpRX0_37 : fr_fp RX0 37 1 1 .int := ⟨RX1, TX1, 11, tyX1, rfl, by decide, fr_in (i := 122) (by decide +kernel) rfl, in_X1, rfl, rfl, tyX1_ok, nmX1, rfl⟩
theorem fpRX1_44 : fr_fp RX1 44 1 0 .boolean := ⟨RX1, TX1, 11, tyX1, rfl, by decide, fr_in (i := 117) (by decide +kernel) rfl, in_X1, rfl, rfl, tyX1_ok, nmX1, rfl⟩
theorem fpRX1_48 : fr_fp RX1 48 1 1 .int := ⟨RX1, TX1, 11, tyX1, rfl, by decide, fr_in (i := 123) (by decide +kernel) rfl, in_X1, rfl, rfl, tyX1_ok, nmX1, rfl⟩
theorem fpRX1_52 : fr_fp RX1 52 1 2 .int := ⟨RX1, TX1, 11, tyX1, rfl, by decide, fr_in (i := 124) (by decide +kernel) rfl, in_X1, rfl, rfl, tyX1_ok, nmX1, rfl⟩
theorem fpRX1_55 : fr_fp RX1 55 1 3 .int := ⟨RX1, TX1, 11, tyX1, rfl, by decide, fr_in (i := 129) (by decide +kernel) rfl, in_X1, rfl, rfl, tyX1_ok, nmX1, rfl⟩
theorem fpRX2_21 : fr_fp RX2 21 2 0 .int := ⟨RX2, TX2, 4, tyX2, rfl, by decide, fr_in (i := 184) (by decide +kernel) rfl, in_X2, rfl, rfl, tyX2_ok, nmX2, rfl⟩
theorem fpRX2_28 : fr_fp RX2 28 2 1 .int := ⟨RX2, TX2, 4, tyX2, rfl, by decide, fr_in (i := 187) (by decide +kernel) rfl, in_X2, rfl, rfl, tyX2_ok, nmX2, rfl⟩
theorem fpRX2_35 : fr_fp RX2 35 2 2 .int := ⟨RX2, TX2, 4, tyX2, rfl, by decide, fr_in (i := 189) (by decide +kernel) rfl, in_X2, rfl, rfl, tyX2_ok, nmX2, rfl⟩
theorem fpRX2_41 : fr_fp RX2 41 2 3 .int := ⟨RX2, TX2, 4, tyX2, rfl, by decide, fr_in (i := 191) (by decide +kernel) rfl, in_X2, rfl, rfl, tyX2_ok, nmX2, rfl⟩
theorem fpRX4_19 : fr_fp RX4 19 4 2 .int := ⟨RX4, TX4, 6, tyX4, rfl, by decide, fr_in (i := 239) (by decide +kernel) rfl, in_X4, rfl, rfl, tyX4_ok, nmX4, rfl⟩
theorem fpRX4_23 : fr_fp RX4 23 4 4 .int := ⟨RX4, TX4, 6, tyX4, rfl, by decide, fr_in (i := 241) (by decide +kernel) rfl, in_X4, rfl, rfl, tyX4_ok, nmX4, rfl⟩
theorem fpRX4_26 : fr_fp RX4 26 4 5 .int := ⟨RX4, TX4, 6, tyX4, rfl, by decide, fr_in (i := 243) (by decide +kernel) rfl, in_X4, rfl, rfl, tyX4_ok, nmX4, rfl⟩
theorem fpRX4_88 : fr_fp RX4 88 4 3 .int := ⟨RX4, TX4, 6, tyX4, rfl, by decide, fr_in (i := 240) (by decide +kernel) rfl, in_X4, rfl, rfl, tyX4_ok, nmX4, rfl⟩
theorem fpRX4_107 : fr_fp RX4 107 1 3 .int := ⟨RX1, TX1, 11, tyX1, rfl, by decide, fr_in (i := 130) (by decide +kernel) rfl, in_X1, rfl, rfl, tyX1_ok, nmX1, rfl⟩
theorem fpRX5_35 : fr_fp RX5 35 5 5 .int := ⟨RX5, TX5, 8, tyX5, rfl, by decide, fr_in (i := 294) (by decide +kernel) rfl, in_X5, rfl, rfl, tyX5_ok, nmX5, rfl⟩
theorem fpRX5_39 : fr_fp RX5 39 5 6 .int := ⟨RX5, TX5, 8, tyX5, rfl, by decide, fr_in (i := 295) (by decide +kernel) rfl, in_X5, rfl, rfl, tyX5_ok, nmX5, rfl⟩
theorem fpRX5_46 : fr_fp RX5 46 5 7 .int := ⟨RX5, TX5, 8, tyX5, rfl, by decide, fr_in (i := 297) (by decide +kernel) rfl, in_X5, rfl, rfl, tyX5_ok, nmX5, rfl⟩
theorem fpRX6_15 : fr_fp RX6 15 6 1 .int := ⟨RX6, TX6, 2, tyX6, rfl, by decide, fr_in (i := 102) (by decide +kernel) rfl, in_X6, rfl, rfl, tyX6_ok, nmX6, rfl⟩
theorem fpRX7_64 : fr_fp RX7 64 7 7 .int := ⟨RX7, TX7, 8, tyX7, rfl, by decide, fr_in (i := 322) (by decide +kernel) rfl, in_X7, rfl, rfl, tyX7_ok, nmX7, rfl⟩
theorem fpRX7_77 : fr_fp RX7 77 6 1 .int := ⟨RX6, TX6, 2, tyX6, rfl, by decide, fr_in (i := 103) (by decide +kernel) rfl, in_X6, rfl, rfl, tyX6_ok, nmX6, rfl⟩
theorem fpRX7_99 : fr_fp RX7 99 0 4 .int := ⟨RX0, TX0, 5, tyX0, rfl, by decide, fr_in (i := 269) (by decide +kernel) rfl, in_X0, rfl, rfl, tyX0_ok, nmX0, rfl⟩
theorem fpRX8_63 : fr_fp RX8 63 8 21 .int := ⟨RX8, TX8, 27, tyX8, rfl, by decide, fr_in (i := 807) (by decide +kernel) rfl, in_X8, rfl, rfl, tyX8_ok, nmX8, rfl⟩
theorem fpRX8_71 : fr_fp RX8 71 8 20 .int := ⟨RX8, TX8, 27, tyX8, rfl, by decide, fr_in (i := 806) (by decide +kernel) rfl, in_X8, rfl, rfl, tyX8_ok, nmX8, rfl⟩
theorem fpRX8_135 : fr_fp RX8 135 8 25 .int := ⟨RX8, TX8, 27, tyX8, rfl, by decide, fr_in (i := 811) (by decide +kernel) rfl, in_X8, rfl, rfl, tyX8_ok, nmX8, rfl⟩
theorem fpRX8_138 : fr_fp RX8 138 8 26 .int := ⟨RX8, TX8, 27, tyX8, rfl, by decide, fr_in (i := 812) (by decide +kernel) rfl, in_X8, rfl, rfl, tyX8_ok, nmX8, rfl⟩
theorem fpRX8_152 : fr_fp RX8 152 8 7 .int := ⟨RX8, TX8, 27, tyX8, rfl, by decide, fr_in (i := 793) (by decide +kernel) rfl, in_X8, rfl, rfl, tyX8_ok, nmX8, rfl⟩
theorem fpRX8_155 : fr_fp RX8 155 8 8 .int := ⟨RX8, TX8, 27, tyX8, rfl, by decide, fr_in (i := 794) (by decide +kernel) rfl, in_X8, rfl, rfl, tyX8_ok, nmX8, rfl⟩
theorem fpRX8_158 : fr_fp RX8 158 8 9 .int := ⟨RX8, TX8, 27, tyX8, rfl, by decide, fr_in (i := 795) (by decide +kernel) rfl, in_X8, rfl, rfl, tyX8_ok, nmX8, rfl⟩
theorem fpRX8_164 : fr_fp RX8 164 8 11 .int := ⟨RX8, TX8, 27, tyX8, rfl, by decide, fr_in (i := 797) (by decide +kernel) rfl, in_X8, rfl, rfl, tyX8_ok, nmX8, rfl⟩
theorem fpRX8_175 : fr_fp RX8 175 8 10 .int := ⟨RX8, TX8, 27, tyX8, rfl, by decide, fr_in (i := 796) (by decide +kernel) rfl, in_X8, rfl, rfl, tyX8_ok, nmX8, rfl⟩
theorem fpRX8_178 : fr_fp RX8 178 8 12 .int := ⟨RX8, TX8, 27, tyX8, rfl, by decide, fr_in (i := 798) (by decide +kernel) rfl, in_X8, rfl, rfl, tyX8_ok, nmX8, rfl⟩
theorem fpRX8_181 : fr_fp RX8 181 8 13 .int := ⟨RX8, TX8, 27, tyX8, rfl, by decide, fr_in (i := 799) (by decide +kernel) rfl, in_X8, rfl, rfl, tyX8_ok, nmX8, rfl⟩
theorem fpRX8_227 : fr_fp RX8 227 8 14 .int := ⟨RX8, TX8, 27, tyX8, rfl, by decide, fr_in (i := 800) (by decide +kernel) rfl, in_X8, rfl, rfl, tyX8_ok, nmX8, rfl⟩
theorem fpRX8_235 : fr_fp RX8 235 8 3 .int := ⟨RX8, TX8, 27, tyX8, rfl, by decide, fr_in (i := 789) (by decide +kernel) rfl, in_X8, rfl, rfl, tyX8_ok, nmX8, rfl⟩
theorem kcRX2_58 : Cond.constant RX2 58 (-1000000 : Int32) ∈ fr_tb := fr_in (i := 577) (by decide +kernel) rfl
theorem kcRX3_50 : Cond.constant RX3 50 (-1000000 : Int32) ∈ fr_tb := fr_in (i := 562) (by decide +kernel) rfl
theorem kcRX4_69 : Cond.constant RX4 69 (-1000000 : Int32) ∈ fr_tb := fr_in (i := 409) (by decide +kernel) rfl
theorem kcRX5_84 : Cond.constant RX5 84 (2147483647 : Int32) ∈ fr_tb := fr_in (i := 730) (by decide +kernel) rfl
theorem kcRX6_19 : Cond.constant RX6 19 (-1000000 : Int32) ∈ fr_tb := fr_in (i := 380) (by decide +kernel) rfl
theorem kcRX7_72 : Cond.constant RX7 72 (-1000001 : Int32) ∈ fr_tb := fr_in (i := 347) (by decide +kernel) rfl
theorem kcRX7_80 : Cond.constant RX7 80 (-1000003 : Int32) ∈ fr_tb := fr_in (i := 352) (by decide +kernel) rfl
theorem kcRX7_88 : Cond.constant RX7 88 (-1000100 : Int32) ∈ fr_tb := fr_in (i := 448) (by decide +kernel) rfl
theorem kcRX7_105 : Cond.constant RX7 105 (-1000002 : Int32) ∈ fr_tb := fr_in (i := 464) (by decide +kernel) rfl
theorem kcRX7_203 : Cond.constant RX7 203 (-1000000 : Int32) ∈ fr_tb := fr_in (i := 668) (by decide +kernel) rfl
theorem kcRX7_270 : Cond.constant RX7 270 (2147483647 : Int32) ∈ fr_tb := fr_in (i := 763) (by decide +kernel) rfl
theorem kcRX8_90 : Cond.constant RX8 90 (-1000000 : Int32) ∈ fr_tb := fr_in (i := 925) (by decide +kernel) rfl
theorem kcRX8_209 : Cond.constant RX8 209 (-1000001 : Int32) ∈ fr_tb := fr_in (i := 877) (by decide +kernel) rfl
theorem kcRX8_210 : Cond.constant RX8 210 (-1000003 : Int32) ∈ fr_tb := fr_in (i := 878) (by decide +kernel) rfl
theorem kcRX8_230 : Cond.constant RX8 230 (-1000100 : Int32) ∈ fr_tb := fr_in (i := 937) (by decide +kernel) rfl
theorem kcRX8_238 : Cond.constant RX8 238 (-1000002 : Int32) ∈ fr_tb := fr_in (i := 949) (by decide +kernel) rfl
theorem klRX8_53 : Cond.constantLong RX8 53 (999 : Int64) ∈ fr_tb := fr_in (i := 1018) (by decide +kernel) rfl
theorem klRX8_167 : Cond.constantLong RX8 167 (97 : Int64) ∈ fr_tb := fr_in (i := 893) (by decide +kernel) rfl
theorem klRX8_169 : Cond.constantLong RX8 169 (122 : Int64) ∈ fr_tb := fr_in (i := 894) (by decide +kernel) rfl
theorem klRX8_171 : Cond.constantLong RX8 171 (48 : Int64) ∈ fr_tb := fr_in (i := 895) (by decide +kernel) rfl
theorem klRX8_173 : Cond.constantLong RX8 173 (57 : Int64) ∈ fr_tb := fr_in (i := 896) (by decide +kernel) rfl
theorem klRX8_207 : Cond.constantLong RX8 207 (255 : Int64) ∈ fr_tb := fr_in (i := 873) (by decide +kernel) rfl
theorem klRX8_220 : Cond.constantLong RX8 220 (69 : Int64) ∈ fr_tb := fr_in (i := 883) (by decide +kernel) rfl
theorem klRX8_222 : Cond.constantLong RX8 222 (78 : Int64) ∈ fr_tb := fr_in (i := 884) (by decide +kernel) rfl
theorem klRX8_239 : Cond.constantLong RX8 239 (99 : Int64) ∈ fr_tb := fr_in (i := 970) (by decide +kernel) rfl
theorem klRX8_241 : Cond.constantLong RX8 241 (365 : Int64) ∈ fr_tb := fr_in (i := 971) (by decide +kernel) rfl
theorem klRX8_243 : Cond.constantLong RX8 243 (3 : Int64) ∈ fr_tb := fr_in (i := 962) (by decide +kernel) rfl
theorem klRX8_248 : Cond.constantLong RX8 248 (5 : Int64) ∈ fr_tb := fr_in (i := 972) (by decide +kernel) rfl
theorem klRX8_250 : Cond.constantLong RX8 250 (6 : Int64) ∈ fr_tb := fr_in (i := 973) (by decide +kernel) rfl
theorem klRX8_265 : Cond.constantLong RX8 265 (2 : Int64) ∈ fr_tb := fr_in (i := 993) (by decide +kernel) rfl
theorem klRX8_267 : Cond.constantLong RX8 267 (29 : Int64) ∈ fr_tb := fr_in (i := 994) (by decide +kernel) rfl
theorem klRX8_269 : Cond.constantLong RX8 269 (10 : Int64) ∈ fr_tb := fr_in (i := 995) (by decide +kernel) rfl
theorem klRX8_271 : Cond.constantLong RX8 271 (150 : Int64) ∈ fr_tb := fr_in (i := 996) (by decide +kernel) rfl
theorem klRX8_273 : Cond.constantLong RX8 273 (9 : Int64) ∈ fr_tb := fr_in (i := 997) (by decide +kernel) rfl
theorem klRX8_281 : Cond.constantLong RX8 281 (366 : Int64) ∈ fr_tb := fr_in (i := 1006) (by decide +kernel) rfl
theorem klRX8_286 : Cond.constantLong RX8 286 (8 : Int64) ∈ fr_tb := fr_in (i := 1019) (by decide +kernel) rfl
theorem klRX8_313 : Cond.constantLong RX8 313 (30 : Int64) ∈ fr_tb := fr_in (i := 1180) (by decide +kernel) rfl
theorem klRX8_315 : Cond.constantLong RX8 315 (400 : Int64) ∈ fr_tb := fr_in (i := 1185) (by decide +kernel) rfl
theorem slRX7_135 : Cond.fieldLink RX7 135 RX7 "LEAST_LAW" "[I" ∈ fr_tb := fr_in (i := 510) (by decide +kernel) rfl
theorem slRX7_138 : Cond.fieldLink RX7 138 RX7 "GREATEST_LAW" "[I" ∈ fr_tb := fr_in (i := 511) (by decide +kernel) rfl
theorem mlRX0_28 : Cond.methodLink RX0 28 yX0_forgetOldest ∈ fr_tb := fr_in (i := 496) (by decide +kernel) rfl
theorem mlRX0_31 : Cond.methodLink RX0 31 arraycopyName ∈ fr_tb := fr_in (i := 500) (by decide +kernel) rfl
theorem mlRX0_42 : Cond.methodLink RX0 42 Lib.Math.max.name ∈ fr_tb := fr_in (i := 469) (by decide +kernel) rfl
theorem mlRX1_37 : Cond.methodLink RX1 37 yX1_leastN ∈ fr_tb := fr_in (i := 490) (by decide +kernel) rfl
theorem mlRX1_41 : Cond.methodLink RX1 41 yX1_greatestN ∈ fr_tb := fr_in (i := 491) (by decide +kernel) rfl
theorem mlRX1_58 : Cond.methodLink RX1 58 yJ7_fill_53178 ∈ fr_tb := fr_in (i := 365) (by decide +kernel) rfl
theorem mlRX1_64 : Cond.methodLink RX1 64 arraycopyName ∈ fr_tb := fr_in (i := 453) (by decide +kernel) rfl
theorem mlRX1_70 : Cond.methodLink RX1 70 yX1_hasFeast ∈ fr_tb := fr_in (i := 485) (by decide +kernel) rfl
theorem mlRX1_74 : Cond.methodLink RX1 74 yX1_hasChoir ∈ fr_tb := fr_in (i := 648) (by decide +kernel) rfl
theorem mlRX2_17 : Cond.methodLink RX2 17 yX2_daysOf ∈ fr_tb := fr_in (i := 539) (by decide +kernel) rfl
theorem mlRX2_25 : Cond.methodLink RX2 25 yX2_leapYearsAhead ∈ fr_tb := fr_in (i := 542) (by decide +kernel) rfl
theorem mlRX2_31 : Cond.methodLink RX2 31 yX2_dayOfDate ∈ fr_tb := fr_in (i := 545) (by decide +kernel) rfl
theorem mlRX2_38 : Cond.methodLink RX2 38 yX2_sundayFrom ∈ fr_tb := fr_in (i := 553) (by decide +kernel) rfl
theorem mlRX2_44 : Cond.methodLink RX2 44 yX2_isLeap ∈ fr_tb := fr_in (i := 549) (by decide +kernel) rfl
theorem mlRX2_48 : Cond.methodLink RX2 48 yX2_weekday ∈ fr_tb := fr_in (i := 557) (by decide +kernel) rfl
theorem mlRX2_51 : Cond.methodLink RX2 51 yX2_unboundDay ∈ fr_tb := fr_in (i := 572) (by decide +kernel) rfl
theorem mlRX3_32 : Cond.methodLink RX3 32 yX2_turnTo ∈ fr_tb := fr_in (i := 535) (by decide +kernel) rfl
theorem mlRX3_38 : Cond.methodLink RX3 38 yJ7_fill_53178 ∈ fr_tb := fr_in (i := 561) (by decide +kernel) rfl
theorem mlRX3_51 : Cond.methodLink RX3 51 yX3_ownDayOf ∈ fr_tb := fr_in (i := 563) (by decide +kernel) rfl
theorem mlRX3_55 : Cond.methodLink RX3 55 yX3_settleAll ∈ fr_tb := fr_in (i := 578) (by decide +kernel) rfl
theorem mlRX3_59 : Cond.methodLink RX3 59 yX1_mark ∈ fr_tb := fr_in (i := 567) (by decide +kernel) rfl
theorem mlRX3_63 : Cond.methodLink RX3 63 yX2_ownDay ∈ fr_tb := fr_in (i := 568) (by decide +kernel) rfl
theorem mlRX3_66 : Cond.methodLink RX3 66 yX3_settle ∈ fr_tb := fr_in (i := 582) (by decide +kernel) rfl
theorem mlRX3_69 : Cond.methodLink RX3 69 yX3_isFree ∈ fr_tb := fr_in (i := 586) (by decide +kernel) rfl
theorem mlRX3_73 : Cond.methodLink RX3 73 yX2_weekday ∈ fr_tb := fr_in (i := 591) (by decide +kernel) rfl
theorem mlRX3_76 : Cond.methodLink RX3 76 yX3_hold ∈ fr_tb := fr_in (i := 592) (by decide +kernel) rfl
theorem mlRX3_83 : Cond.methodLink RX3 83 Lib.Math.min.name ∈ fr_tb := fr_in (i := 596) (by decide +kernel) rfl
theorem mlRX3_88 : Cond.methodLink RX3 88 yX3_firstFree ∈ fr_tb := fr_in (i := 599) (by decide +kernel) rfl
theorem mlRX3_95 : Cond.methodLink RX3 95 yX3_holderOf ∈ fr_tb := fr_in (i := 623) (by decide +kernel) rfl
theorem mlRX3_107 : Cond.methodLink RX3 107 yX3_liesIn ∈ fr_tb := fr_in (i := 674) (by decide +kernel) rfl
theorem mlRX3_113 : Cond.methodLink RX3 113 yX3_isHeld ∈ fr_tb := fr_in (i := 678) (by decide +kernel) rfl
theorem mlRX3_116 : Cond.methodLink RX3 116 yX1_hasFeast ∈ fr_tb := fr_in (i := 682) (by decide +kernel) rfl
theorem mlRX3_119 : Cond.methodLink RX3 119 yX3_rankOf ∈ fr_tb := fr_in (i := 619) (by decide +kernel) rfl
theorem mlRX3_125 : Cond.methodLink RX3 125 yX3_servicesOf ∈ fr_tb := fr_in (i := 615) (by decide +kernel) rfl
theorem mlRX3_128 : Cond.methodLink RX3 128 yX3_isReadingDay ∈ fr_tb := fr_in (i := 701) (by decide +kernel) rfl
theorem mlRX4_29 : Cond.methodLink RX4 29 yX1_empty ∈ fr_tb := fr_in (i := 361) (by decide +kernel) rfl
theorem mlRX4_34 : Cond.methodLink RX4 34 yX4_head ∈ fr_tb := fr_in (i := 368) (by decide +kernel) rfl
theorem mlRX4_38 : Cond.methodLink RX4 38 yX4_feasts ∈ fr_tb := fr_in (i := 402) (by decide +kernel) rfl
theorem mlRX4_41 : Cond.methodLink RX4 41 yX4_seasons ∈ fr_tb := fr_in (i := 424) (by decide +kernel) rfl
theorem mlRX4_44 : Cond.methodLink RX4 44 yX4_psalter ∈ fr_tb := fr_in (i := 436) (by decide +kernel) rfl
theorem mlRX4_47 : Cond.methodLink RX4 47 yX4_choirs ∈ fr_tb := fr_in (i := 440) (by decide +kernel) rfl
theorem mlRX4_50 : Cond.methodLink RX4 50 yX4_end ∈ fr_tb := fr_in (i := 444) (by decide +kernel) rfl
theorem mlRX4_53 : Cond.methodLink RX4 53 yX4_sign ∈ fr_tb := fr_in (i := 372) (by decide +kernel) rfl
theorem mlRX4_57 : Cond.methodLink RX4 57 yX4_lawNumber ∈ fr_tb := fr_in (i := 385) (by decide +kernel) rfl
theorem mlRX4_61 : Cond.methodLink RX4 61 yX6_at ∈ fr_tb := fr_in (i := 376) (by decide +kernel) rfl
theorem mlRX4_66 : Cond.methodLink RX4 66 yX4_kindOf ∈ fr_tb := fr_in (i := 406) (by decide +kernel) rfl
theorem mlRX4_72 : Cond.methodLink RX4 72 yX4_fails ∈ fr_tb := fr_in (i := 381) (by decide +kernel) rfl
theorem mlRX4_75 : Cond.methodLink RX4 75 yX4_oneFeast ∈ fr_tb := fr_in (i := 410) (by decide +kernel) rfl
theorem mlRX4_78 : Cond.methodLink RX4 78 yX1_leastN ∈ fr_tb := fr_in (i := 414) (by decide +kernel) rfl
theorem mlRX4_81 : Cond.methodLink RX4 81 yX1_greatestN ∈ fr_tb := fr_in (i := 417) (by decide +kernel) rfl
theorem mlRX4_84 : Cond.methodLink RX4 84 yX4_number ∈ fr_tb := fr_in (i := 394) (by decide +kernel) rfl
theorem mlRX4_91 : Cond.methodLink RX4 91 yX1_tellFeast ∈ fr_tb := fr_in (i := 420) (by decide +kernel) rfl
theorem mlRX4_97 : Cond.methodLink RX4 97 yX4_oneSeason ∈ fr_tb := fr_in (i := 428) (by decide +kernel) rfl
theorem mlRX4_100 : Cond.methodLink RX4 100 yX4_bareNumber ∈ fr_tb := fr_in (i := 398) (by decide +kernel) rfl
theorem mlRX4_103 : Cond.methodLink RX4 103 yX1_tellSeason ∈ fr_tb := fr_in (i := 432) (by decide +kernel) rfl
theorem mlRX5_29 : Cond.methodLink RX5 29 yJ7_fill_53178 ∈ fr_tb := fr_in (i := 633) (by decide +kernel) rfl
theorem mlRX5_42 : Cond.methodLink RX5 42 yX5_dealOut ∈ fr_tb := fr_in (i := 634) (by decide +kernel) rfl
theorem mlRX5_49 : Cond.methodLink RX5 49 yX3_servicesOf ∈ fr_tb := fr_in (i := 638) (by decide +kernel) rfl
theorem mlRX5_55 : Cond.methodLink RX5 55 Lib.Math.min.name ∈ fr_tb := fr_in (i := 639) (by decide +kernel) rfl
theorem mlRX5_61 : Cond.methodLink RX5 61 yX5_choose ∈ fr_tb := fr_in (i := 640) (by decide +kernel) rfl
theorem mlRX5_65 : Cond.methodLink RX5 65 yX5_give ∈ fr_tb := fr_in (i := 653) (by decide +kernel) rfl
theorem mlRX5_74 : Cond.methodLink RX5 74 yX1_isAway ∈ fr_tb := fr_in (i := 644) (by decide +kernel) rfl
theorem mlRX5_78 : Cond.methodLink RX5 78 yX5_goesAheadOf ∈ fr_tb := fr_in (i := 649) (by decide +kernel) rfl
theorem mlRX5_85 : Cond.methodLink RX5 85 Lib.Math.max.name ∈ fr_tb := fr_in (i := 731) (by decide +kernel) rfl
theorem mlRX7_68 : Cond.methodLink RX7 68 yX7_within ∈ fr_tb := fr_in (i := 344) (by decide +kernel) rfl
theorem mlRX7_73 : Cond.methodLink RX7 73 yX6_put ∈ fr_tb := fr_in (i := 348) (by decide +kernel) rfl
theorem mlRX7_81 : Cond.methodLink RX7 81 yX4_readsAll ∈ fr_tb := fr_in (i := 357) (by decide +kernel) rfl
theorem mlRX7_95 : Cond.methodLink RX7 95 yX1_become ∈ fr_tb := fr_in (i := 449) (by decide +kernel) rfl
theorem mlRX7_106 : Cond.methodLink RX7 106 yX0_takeBackLatest ∈ fr_tb := fr_in (i := 465) (by decide +kernel) rfl
theorem mlRX7_109 : Cond.methodLink RX7 109 yX1_hasFeast ∈ fr_tb := fr_in (i := 477) (by decide +kernel) rfl
theorem mlRX7_112 : Cond.methodLink RX7 112 yX1_mark ∈ fr_tb := fr_in (i := 481) (by decide +kernel) rfl
theorem mlRX7_116 : Cond.methodLink RX7 116 yX1_canBe ∈ fr_tb := fr_in (i := 487) (by decide +kernel) rfl
theorem mlRX7_120 : Cond.methodLink RX7 120 yX0_keep ∈ fr_tb := fr_in (i := 492) (by decide +kernel) rfl
theorem mlRX7_132 : Cond.methodLink RX7 132 yX1_tellFeast ∈ fr_tb := fr_in (i := 505) (by decide +kernel) rfl
theorem mlRX7_144 : Cond.methodLink RX7 144 yX1_hasChoir ∈ fr_tb := fr_in (i := 516) (by decide +kernel) rfl
theorem mlRX7_153 : Cond.methodLink RX7 153 yX7_isYear ∈ fr_tb := fr_in (i := 528) (by decide +kernel) rfl
theorem mlRX7_156 : Cond.methodLink RX7 156 yX3_lay ∈ fr_tb := fr_in (i := 531) (by decide +kernel) rfl
theorem mlRX7_176 : Cond.methodLink RX7 176 yX2_sundays ∈ fr_tb := fr_in (i := 603) (by decide +kernel) rfl
theorem mlRX7_180 : Cond.methodLink RX7 180 yX3_howMany ∈ fr_tb := fr_in (i := 607) (by decide +kernel) rfl
theorem mlRX7_184 : Cond.methodLink RX7 184 yX3_servicesOfAllDays ∈ fr_tb := fr_in (i := 611) (by decide +kernel) rfl
theorem mlRX7_187 : Cond.methodLink RX7 187 yX5_go ∈ fr_tb := fr_in (i := 629) (by decide +kernel) rfl
theorem mlRX7_193 : Cond.methodLink RX7 193 yX7_isDay ∈ fr_tb := fr_in (i := 661) (by decide +kernel) rfl
theorem mlRX7_197 : Cond.methodLink RX7 197 yX2_weekday ∈ fr_tb := fr_in (i := 666) (by decide +kernel) rfl
theorem mlRX7_200 : Cond.methodLink RX7 200 yX3_holderOf ∈ fr_tb := fr_in (i := 667) (by decide +kernel) rfl
theorem mlRX7_204 : Cond.methodLink RX7 204 yX3_rankOf ∈ fr_tb := fr_in (i := 669) (by decide +kernel) rfl
theorem mlRX7_207 : Cond.methodLink RX7 207 yX3_colourOf ∈ fr_tb := fr_in (i := 670) (by decide +kernel) rfl
theorem mlRX7_210 : Cond.methodLink RX7 210 yX3_servicesOf ∈ fr_tb := fr_in (i := 683) (by decide +kernel) rfl
theorem mlRX7_213 : Cond.methodLink RX7 213 yX3_rememberedOn ∈ fr_tb := fr_in (i := 684) (by decide +kernel) rfl
theorem mlRX7_225 : Cond.methodLink RX7 225 Lib.Math.max.name ∈ fr_tb := fr_in (i := 696) (by decide +kernel) rfl
theorem mlRX7_230 : Cond.methodLink RX7 230 yX3_readingDays ∈ fr_tb := fr_in (i := 697) (by decide +kernel) rfl
theorem mlRX7_233 : Cond.methodLink RX7 233 yX3_isReadingDay ∈ fr_tb := fr_in (i := 705) (by decide +kernel) rfl
theorem mlRX7_236 : Cond.methodLink RX7 236 yX3_dayOfReading ∈ fr_tb := fr_in (i := 710) (by decide +kernel) rfl
theorem mlRX7_246 : Cond.methodLink RX7 246 yX5_gap ∈ fr_tb := fr_in (i := 726) (by decide +kernel) rfl
theorem mlRX7_249 : Cond.methodLink RX7 249 yX7_lastOf ∈ fr_tb := fr_in (i := 736) (by decide +kernel) rfl
theorem mlRX7_252 : Cond.methodLink RX7 252 yX2_turnTo ∈ fr_tb := fr_in (i := 740) (by decide +kernel) rfl
theorem mlRX7_256 : Cond.methodLink RX7 256 yX3_ownDayOf ∈ fr_tb := fr_in (i := 741) (by decide +kernel) rfl
theorem mlRX7_259 : Cond.methodLink RX7 259 yX2_dateOfSpring ∈ fr_tb := fr_in (i := 746) (by decide +kernel) rfl
theorem mlRX7_262 : Cond.methodLink RX7 262 Lib.Math.min.name ∈ fr_tb := fr_in (i := 739) (by decide +kernel) rfl
theorem mlRX7_265 : Cond.methodLink RX7 265 yX2_isLeap ∈ fr_tb := fr_in (i := 750) (by decide +kernel) rfl
theorem mlRX7_277 : Cond.methodLink RX7 277 yX2_daysOf ∈ fr_tb := fr_in (i := 665) (by decide +kernel) rfl
theorem mlRX8_55 : Cond.methodLink RX8 55 yX8_in ∈ fr_tb := fr_in (i := 874) (by decide +kernel) rfl
theorem mlRX8_59 : Cond.methodLink RX8 59 yX8_isLeap ∈ fr_tb := fr_in (i := 1028) (by decide +kernel) rfl
theorem mlRX8_67 : Cond.methodLink RX8 67 yX8_weekdayOf ∈ fr_tb := fr_in (i := 1044) (by decide +kernel) rfl
theorem mlRX8_74 : Cond.methodLink RX8 74 yX8_dayOfDate ∈ fr_tb := fr_in (i := 1036) (by decide +kernel) rfl
theorem mlRX8_78 : Cond.methodLink RX8 78 yX8_moon ∈ fr_tb := fr_in (i := 1052) (by decide +kernel) rfl
theorem mlRX8_81 : Cond.methodLink RX8 81 yX8_sunday ∈ fr_tb := fr_in (i := 1040) (by decide +kernel) rfl
theorem mlRX8_84 : Cond.methodLink RX8 84 yX8_of ∈ fr_tb := fr_in (i := 963) (by decide +kernel) rfl
theorem mlRX8_87 : Cond.methodLink RX8 87 yX8_spring ∈ fr_tb := fr_in (i := 1048) (by decide +kernel) rfl
theorem mlRX8_91 : Cond.methodLink RX8 91 yX8_isFree ∈ fr_tb := fr_in (i := 1068) (by decide +kernel) rfl
theorem mlRX8_94 : Cond.methodLink RX8 94 yX8_holds ∈ fr_tb := fr_in (i := 1072) (by decide +kernel) rfl
theorem mlRX8_98 : Cond.methodLink RX8 98 yX8_freeBehind ∈ fr_tb := fr_in (i := 1076) (by decide +kernel) rfl
theorem mlRX8_101 : Cond.methodLink RX8 101 yX8_opens ∈ fr_tb := fr_in (i := 1024) (by decide +kernel) rfl
theorem mlRX8_105 : Cond.methodLink RX8 105 yX8_ownDay ∈ fr_tb := fr_in (i := 1032) (by decide +kernel) rfl
theorem mlRX8_108 : Cond.methodLink RX8 108 yX8_nextFeast ∈ fr_tb := fr_in (i := 1056) (by decide +kernel) rfl
theorem mlRX8_112 : Cond.methodLink RX8 112 yX8_comes ∈ fr_tb := fr_in (i := 1064) (by decide +kernel) rfl
theorem mlRX8_115 : Cond.methodLink RX8 115 yX8_isAhead ∈ fr_tb := fr_in (i := 1060) (by decide +kernel) rfl
theorem mlRX8_119 : Cond.methodLink RX8 119 yX8_isHeld ∈ fr_tb := fr_in (i := 1088) (by decide +kernel) rfl
theorem mlRX8_122 : Cond.methodLink RX8 122 yX8_rankOf ∈ fr_tb := fr_in (i := 1100) (by decide +kernel) rfl
theorem mlRX8_125 : Cond.methodLink RX8 125 yX8_isAway ∈ fr_tb := fr_in (i := 1108) (by decide +kernel) rfl
theorem mlRX8_128 : Cond.methodLink RX8 128 yX8_had ∈ fr_tb := fr_in (i := 1112) (by decide +kernel) rfl
theorem mlRX8_131 : Cond.methodLink RX8 131 yX8_isBetter ∈ fr_tb := fr_in (i := 1116) (by decide +kernel) rfl
theorem mlRX8_141 : Cond.methodLink RX8 141 yX8_servicesOf ∈ fr_tb := fr_in (i := 1096) (by decide +kernel) rfl
theorem mlRX8_144 : Cond.methodLink RX8 144 yX8_choose ∈ fr_tb := fr_in (i := 1104) (by decide +kernel) rfl
theorem mlRX8_148 : Cond.methodLink RX8 148 yX8_laysRota ∈ fr_tb := fr_in (i := 1092) (by decide +kernel) rfl
theorem mlRX8_161 : Cond.methodLink RX8 161 yX8_byteAt ∈ fr_tb := fr_in (i := 889) (by decide +kernel) rfl
theorem mlRX8_184 : Cond.methodLink RX8 184 yX8_reads ∈ fr_tb := fr_in (i := 885) (by decide +kernel) rfl
theorem mlRX8_187 : Cond.methodLink RX8 187 yX8_bad ∈ fr_tb := fr_in (i := 909) (by decide +kernel) rfl
theorem mlRX8_190 : Cond.methodLink RX8 190 yX8_goesOn ∈ fr_tb := fr_in (i := 913) (by decide +kernel) rfl
theorem mlRX8_193 : Cond.methodLink RX8 193 yX8_isLetter ∈ fr_tb := fr_in (i := 905) (by decide +kernel) rfl
theorem mlRX8_196 : Cond.methodLink RX8 196 yX8_sort ∈ fr_tb := fr_in (i := 921) (by decide +kernel) rfl
theorem mlRX8_199 : Cond.methodLink RX8 199 yX8_number ∈ fr_tb := fr_in (i := 917) (by decide +kernel) rfl
theorem mlRX8_203 : Cond.methodLink RX8 203 yX8_puts ∈ fr_tb := fr_in (i := 930) (by decide +kernel) rfl
theorem mlRX8_211 : Cond.methodLink RX8 211 yX8_letter ∈ fr_tb := fr_in (i := 901) (by decide +kernel) rfl
theorem mlRX8_214 : Cond.methodLink RX8 214 yX8_readsFeast ∈ fr_tb := fr_in (i := 926) (by decide +kernel) rfl
theorem mlRX8_217 : Cond.methodLink RX8 217 yX8_readsSeason ∈ fr_tb := fr_in (i := 933) (by decide +kernel) rfl
theorem mlRX8_224 : Cond.methodLink RX8 224 yX8_readsAll ∈ fr_tb := fr_in (i := 897) (by decide +kernel) rfl
theorem mlRX8_231 : Cond.methodLink RX8 231 yX8_copies ∈ fr_tb := fr_in (i := 938) (by decide +kernel) rfl
theorem mlRX8_245 : Cond.methodLink RX8 245 yX8_isN ∈ fr_tb := fr_in (i := 967) (by decide +kernel) rfl
theorem mlRX8_252 : Cond.methodLink RX8 252 yX8_isFeast ∈ fr_tb := fr_in (i := 954) (by decide +kernel) rfl
theorem mlRX8_255 : Cond.methodLink RX8 255 yX8_mayBe ∈ fr_tb := fr_in (i := 958) (by decide +kernel) rfl
theorem mlRX8_258 : Cond.methodLink RX8 258 yX8_notes ∈ fr_tb := fr_in (i := 974) (by decide +kernel) rfl
theorem mlRX8_261 : Cond.methodLink RX8 261 yX8_isBook ∈ fr_tb := fr_in (i := 982) (by decide +kernel) rfl
theorem mlRX8_275 : Cond.methodLink RX8 275 yX8_isLaw ∈ fr_tb := fr_in (i := 990) (by decide +kernel) rfl
theorem mlRX8_278 : Cond.methodLink RX8 278 yX8_isChoir ∈ fr_tb := fr_in (i := 1002) (by decide +kernel) rfl
theorem mlRX8_283 : Cond.methodLink RX8 283 yX8_isYear ∈ fr_tb := fr_in (i := 1015) (by decide +kernel) rfl
theorem mlRX8_288 : Cond.methodLink RX8 288 yX8_lays ∈ fr_tb := fr_in (i := 1020) (by decide +kernel) rfl
theorem mlRX8_291 : Cond.methodLink RX8 291 yX8_sundays ∈ fr_tb := fr_in (i := 1080) (by decide +kernel) rfl
theorem mlRX8_294 : Cond.methodLink RX8 294 yX8_manyHeld ∈ fr_tb := fr_in (i := 1084) (by decide +kernel) rfl
theorem mlRX8_298 : Cond.methodLink RX8 298 yX8_hasDay ∈ fr_tb := fr_in (i := 1124) (by decide +kernel) rfl
theorem mlRX8_301 : Cond.methodLink RX8 301 yX8_colourOf ∈ fr_tb := fr_in (i := 1128) (by decide +kernel) rfl
theorem mlRX8_304 : Cond.methodLink RX8 304 yX8_rememberedOn ∈ fr_tb := fr_in (i := 1132) (by decide +kernel) rfl
theorem mlRX8_307 : Cond.methodLink RX8 307 yX8_readings ∈ fr_tb := fr_in (i := 1144) (by decide +kernel) rfl
theorem mlRX8_310 : Cond.methodLink RX8 310 yX8_unfair ∈ fr_tb := fr_in (i := 1164) (by decide +kernel) rfl
theorem mm_max : fr_mw Lib.Math.max.name Lib.Math.max.code := ⟨fr_in (i := 470) (by decide +kernel) rfl, fr_in (i := 86) (by decide +kernel) rfl, fr_in (i := 471) (by decide +kernel) rfl⟩
theorem mm_min : fr_mw Lib.Math.min.name Lib.Math.min.code := ⟨fr_in (i := 597) (by decide +kernel) rfl, fr_in (i := 86) (by decide +kernel) rfl, fr_in (i := 598) (by decide +kernel) rfl⟩
theorem mm_acp : fr_aw := ⟨fr_in (i := 455) (by decide +kernel) rfl, fr_in (i := 454) (by decide +kernel) rfl, fr_in (i := 85) (by decide +kernel) rfl⟩
def YJ7_fill_53178 : fr_Y := (yJ7_fill_53178, cJ7_fill_53178, 4, none, { frames := 0, cells := 0, slots := 0, locals := 0 })
theorem msJ7_fill_53178 : fr_mS YJ7_fill_53178 2 := ⟨fr_in (i := 366) (by decide +kernel) rfl, fr_in (i := 84) (by decide +kernel) rfl, fr_in (i := 367) (by decide +kernel) rfl, ⟨by decide +kernel, by decide +kernel, by decide +kernel⟩, rfl, rfl⟩
def YX0_forgetOldest : fr_Y := (yX0_forgetOldest, cX0_forgetOldest, 1, none, { frames := 1, cells := 0, slots := 0, locals := 30 })
theorem msX0_forgetOldest : fr_mV YX0_forgetOldest 0 0 := ⟨⟨_, _, rfl⟩, fr_in (i := 498) (by decide +kernel) rfl, fr_in (i := 13) (by decide +kernel) rfl, fr_in (i := 81) (by decide +kernel) rfl, fr_in (i := 499) (by decide +kernel) rfl, ⟨by decide +kernel, by decide +kernel, by decide +kernel⟩, rfl, rfl⟩
def YX0_keep : fr_Y := (yX0_keep, cX0_keep, 5, none, { frames := 2, cells := 0, slots := 0, locals := 50 })
theorem msX0_keep : fr_mV YX0_keep 4 0 := ⟨⟨_, _, rfl⟩, fr_in (i := 493) (by decide +kernel) rfl, fr_in (i := 494) (by decide +kernel) rfl, fr_in (i := 81) (by decide +kernel) rfl, fr_in (i := 495) (by decide +kernel) rfl, ⟨by decide +kernel, by decide +kernel, by decide +kernel⟩, rfl, rfl⟩
def YX0_takeBackLatest : fr_Y := (yX0_takeBackLatest, cX0_takeBackLatest, 3, none, { frames := 1, cells := 0, slots := 0, locals := 30 })
theorem msX0_takeBackLatest : fr_mV YX0_takeBackLatest 1 0 := ⟨⟨_, _, rfl⟩, fr_in (i := 466) (by decide +kernel) rfl, fr_in (i := 467) (by decide +kernel) rfl, fr_in (i := 81) (by decide +kernel) rfl, fr_in (i := 468) (by decide +kernel) rfl, ⟨by decide +kernel, by decide +kernel, by decide +kernel⟩, rfl, rfl⟩
def YX1_become : fr_Y := (yX1_become, cX1_become, 2, none, { frames := 1, cells := 0, slots := 0, locals := 30 })
theorem msX1_become : fr_mV YX1_become 1 1 := ⟨⟨_, _, rfl⟩, fr_in (i := 450) (by decide +kernel) rfl, fr_in (i := 451) (by decide +kernel) rfl, fr_in (i := 77) (by decide +kernel) rfl, fr_in (i := 452) (by decide +kernel) rfl, ⟨by decide +kernel, by decide +kernel, by decide +kernel⟩, rfl, rfl⟩
def YX1_canBe : fr_Y := (yX1_canBe, cX1_canBe, 4, some .boolean, { frames := 1, cells := 0, slots := 0, locals := 22 })
theorem msX1_canBe : fr_mS YX1_canBe 4 := ⟨fr_in (i := 488) (by decide +kernel) rfl, fr_in (i := 77) (by decide +kernel) rfl, fr_in (i := 489) (by decide +kernel) rfl, ⟨by decide +kernel, by decide +kernel, by decide +kernel⟩, rfl, rfl⟩
def YX1_empty : fr_Y := (yX1_empty, cX1_empty, 1, none, { frames := 1, cells := 0, slots := 0, locals := 23 })
theorem msX1_empty : fr_mV YX1_empty 0 1 := ⟨⟨_, _, rfl⟩, fr_in (i := 362) (by decide +kernel) rfl, fr_in (i := 363) (by decide +kernel) rfl, fr_in (i := 77) (by decide +kernel) rfl, fr_in (i := 364) (by decide +kernel) rfl, ⟨by decide +kernel, by decide +kernel, by decide +kernel⟩, rfl, rfl⟩
def YX1_greatestN : fr_Y := (yX1_greatestN, cX1_greatestN, 1, some .int, { frames := 0, cells := 0, slots := 0, locals := 0 })
theorem msX1_greatestN : fr_mS YX1_greatestN 1 := ⟨fr_in (i := 418) (by decide +kernel) rfl, fr_in (i := 77) (by decide +kernel) rfl, fr_in (i := 419) (by decide +kernel) rfl, ⟨by decide +kernel, by decide +kernel, by decide +kernel⟩, rfl, rfl⟩
def YX1_hasChoir : fr_Y := (yX1_hasChoir, cX1_hasChoir, 2, some .boolean, { frames := 0, cells := 0, slots := 0, locals := 0 })
theorem msX1_hasChoir : fr_mV YX1_hasChoir 1 1 := ⟨⟨_, _, rfl⟩, fr_in (i := 517) (by decide +kernel) rfl, fr_in (i := 518) (by decide +kernel) rfl, fr_in (i := 77) (by decide +kernel) rfl, fr_in (i := 519) (by decide +kernel) rfl, ⟨by decide +kernel, by decide +kernel, by decide +kernel⟩, rfl, rfl⟩
def YX1_hasFeast : fr_Y := (yX1_hasFeast, cX1_hasFeast, 2, some .boolean, { frames := 0, cells := 0, slots := 0, locals := 0 })
theorem msX1_hasFeast : fr_mV YX1_hasFeast 1 1 := ⟨⟨_, _, rfl⟩, fr_in (i := 478) (by decide +kernel) rfl, fr_in (i := 479) (by decide +kernel) rfl, fr_in (i := 77) (by decide +kernel) rfl, fr_in (i := 480) (by decide +kernel) rfl, ⟨by decide +kernel, by decide +kernel, by decide +kernel⟩, rfl, rfl⟩
def YX1_isAway : fr_Y := (yX1_isAway, cX1_isAway, 3, some .boolean, { frames := 1, cells := 0, slots := 0, locals := 22 })
theorem msX1_isAway : fr_mV YX1_isAway 2 1 := ⟨⟨_, _, rfl⟩, fr_in (i := 645) (by decide +kernel) rfl, fr_in (i := 646) (by decide +kernel) rfl, fr_in (i := 77) (by decide +kernel) rfl, fr_in (i := 647) (by decide +kernel) rfl, ⟨by decide +kernel, by decide +kernel, by decide +kernel⟩, rfl, rfl⟩
def YX1_leastN : fr_Y := (yX1_leastN, cX1_leastN, 1, some .int, { frames := 0, cells := 0, slots := 0, locals := 0 })
theorem msX1_leastN : fr_mS YX1_leastN 1 := ⟨fr_in (i := 415) (by decide +kernel) rfl, fr_in (i := 77) (by decide +kernel) rfl, fr_in (i := 416) (by decide +kernel) rfl, ⟨by decide +kernel, by decide +kernel, by decide +kernel⟩, rfl, rfl⟩
def YX1_mark : fr_Y := (yX1_mark, cX1_mark, 3, some .int, { frames := 1, cells := 0, slots := 0, locals := 22 })
theorem msX1_mark : fr_mV YX1_mark 2 1 := ⟨⟨_, _, rfl⟩, fr_in (i := 482) (by decide +kernel) rfl, fr_in (i := 483) (by decide +kernel) rfl, fr_in (i := 77) (by decide +kernel) rfl, fr_in (i := 484) (by decide +kernel) rfl, ⟨by decide +kernel, by decide +kernel, by decide +kernel⟩, rfl, rfl⟩
def YX1_tellFeast : fr_Y := (yX1_tellFeast, cX1_tellFeast, 6, none, { frames := 0, cells := 0, slots := 0, locals := 0 })
theorem msX1_tellFeast : fr_mV YX1_tellFeast 4 1 := ⟨⟨_, _, rfl⟩, fr_in (i := 421) (by decide +kernel) rfl, fr_in (i := 422) (by decide +kernel) rfl, fr_in (i := 77) (by decide +kernel) rfl, fr_in (i := 423) (by decide +kernel) rfl, ⟨by decide +kernel, by decide +kernel, by decide +kernel⟩, rfl, rfl⟩
def YX1_tellSeason : fr_Y := (yX1_tellSeason, cX1_tellSeason, 4, none, { frames := 0, cells := 0, slots := 0, locals := 0 })
theorem msX1_tellSeason : fr_mV YX1_tellSeason 3 1 := ⟨⟨_, _, rfl⟩, fr_in (i := 433) (by decide +kernel) rfl, fr_in (i := 434) (by decide +kernel) rfl, fr_in (i := 77) (by decide +kernel) rfl, fr_in (i := 435) (by decide +kernel) rfl, ⟨by decide +kernel, by decide +kernel, by decide +kernel⟩, rfl, rfl⟩
def YX2_dateOfSpring : fr_Y := (yX2_dateOfSpring, cX2_dateOfSpring, 1, some .int, { frames := 1, cells := 0, slots := 0, locals := 20 })
theorem msX2_dateOfSpring : fr_mV YX2_dateOfSpring 0 2 := ⟨⟨_, _, rfl⟩, fr_in (i := 747) (by decide +kernel) rfl, fr_in (i := 748) (by decide +kernel) rfl, fr_in (i := 79) (by decide +kernel) rfl, fr_in (i := 749) (by decide +kernel) rfl, ⟨by decide +kernel, by decide +kernel, by decide +kernel⟩, rfl, rfl⟩
def YX2_dayOfDate : fr_Y := (yX2_dayOfDate, cX2_dayOfDate, 2, some .int, { frames := 1, cells := 0, slots := 0, locals := 20 })
theorem msX2_dayOfDate : fr_mV YX2_dayOfDate 1 2 := ⟨⟨_, _, rfl⟩, fr_in (i := 546) (by decide +kernel) rfl, fr_in (i := 547) (by decide +kernel) rfl, fr_in (i := 79) (by decide +kernel) rfl, fr_in (i := 548) (by decide +kernel) rfl, ⟨by decide +kernel, by decide +kernel, by decide +kernel⟩, rfl, rfl⟩
def YX2_daysOf : fr_Y := (yX2_daysOf, cX2_daysOf, 3, some .int, { frames := 0, cells := 0, slots := 0, locals := 0 })
theorem msX2_daysOf : fr_mS YX2_daysOf 2 := ⟨fr_in (i := 540) (by decide +kernel) rfl, fr_in (i := 79) (by decide +kernel) rfl, fr_in (i := 541) (by decide +kernel) rfl, ⟨by decide +kernel, by decide +kernel, by decide +kernel⟩, rfl, rfl⟩
def YX2_isLeap : fr_Y := (yX2_isLeap, cX2_isLeap, 1, some .boolean, { frames := 0, cells := 0, slots := 0, locals := 0 })
theorem msX2_isLeap : fr_mV YX2_isLeap 0 2 := ⟨⟨_, _, rfl⟩, fr_in (i := 550) (by decide +kernel) rfl, fr_in (i := 551) (by decide +kernel) rfl, fr_in (i := 79) (by decide +kernel) rfl, fr_in (i := 552) (by decide +kernel) rfl, ⟨by decide +kernel, by decide +kernel, by decide +kernel⟩, rfl, rfl⟩
def YX2_leapYearsAhead : fr_Y := (yX2_leapYearsAhead, cX2_leapYearsAhead, 3, some .int, { frames := 0, cells := 0, slots := 0, locals := 0 })
theorem msX2_leapYearsAhead : fr_mS YX2_leapYearsAhead 2 := ⟨fr_in (i := 543) (by decide +kernel) rfl, fr_in (i := 79) (by decide +kernel) rfl, fr_in (i := 544) (by decide +kernel) rfl, ⟨by decide +kernel, by decide +kernel, by decide +kernel⟩, rfl, rfl⟩
def YX2_ownDay : fr_Y := (yX2_ownDay, cX2_ownDay, 4, some .int, { frames := 3, cells := 0, slots := 0, locals := 64 })
theorem msX2_ownDay : fr_mV YX2_ownDay 2 2 := ⟨⟨_, _, rfl⟩, fr_in (i := 569) (by decide +kernel) rfl, fr_in (i := 570) (by decide +kernel) rfl, fr_in (i := 79) (by decide +kernel) rfl, fr_in (i := 571) (by decide +kernel) rfl, ⟨by decide +kernel, by decide +kernel, by decide +kernel⟩, rfl, rfl⟩
def YX2_sundayFrom : fr_Y := (yX2_sundayFrom, cX2_sundayFrom, 2, some .int, { frames := 1, cells := 0, slots := 0, locals := 21 })
theorem msX2_sundayFrom : fr_mV YX2_sundayFrom 1 2 := ⟨⟨_, _, rfl⟩, fr_in (i := 554) (by decide +kernel) rfl, fr_in (i := 555) (by decide +kernel) rfl, fr_in (i := 79) (by decide +kernel) rfl, fr_in (i := 556) (by decide +kernel) rfl, ⟨by decide +kernel, by decide +kernel, by decide +kernel⟩, rfl, rfl⟩
def YX2_sundays : fr_Y := (yX2_sundays, cX2_sundays, 1, some .int, { frames := 2, cells := 0, slots := 0, locals := 42 })
theorem msX2_sundays : fr_mV YX2_sundays 0 2 := ⟨⟨_, _, rfl⟩, fr_in (i := 604) (by decide +kernel) rfl, fr_in (i := 605) (by decide +kernel) rfl, fr_in (i := 79) (by decide +kernel) rfl, fr_in (i := 606) (by decide +kernel) rfl, ⟨by decide +kernel, by decide +kernel, by decide +kernel⟩, rfl, rfl⟩
def YX2_turnTo : fr_Y := (yX2_turnTo, cX2_turnTo, 4, none, { frames := 2, cells := 0, slots := 0, locals := 42 })
theorem msX2_turnTo : fr_mV YX2_turnTo 2 2 := ⟨⟨_, _, rfl⟩, fr_in (i := 536) (by decide +kernel) rfl, fr_in (i := 537) (by decide +kernel) rfl, fr_in (i := 79) (by decide +kernel) rfl, fr_in (i := 538) (by decide +kernel) rfl, ⟨by decide +kernel, by decide +kernel, by decide +kernel⟩, rfl, rfl⟩
def YX2_unboundDay : fr_Y := (yX2_unboundDay, cX2_unboundDay, 3, some .int, { frames := 2, cells := 0, slots := 0, locals := 42 })
theorem msX2_unboundDay : fr_mV YX2_unboundDay 2 2 := ⟨⟨_, _, rfl⟩, fr_in (i := 574) (by decide +kernel) rfl, fr_in (i := 14) (by decide +kernel) rfl, fr_in (i := 79) (by decide +kernel) rfl, fr_in (i := 575) (by decide +kernel) rfl, ⟨by decide +kernel, by decide +kernel, by decide +kernel⟩, rfl, rfl⟩
def YX2_weekday : fr_Y := (yX2_weekday, cX2_weekday, 2, some .int, { frames := 0, cells := 0, slots := 0, locals := 0 })
theorem msX2_weekday : fr_mV YX2_weekday 1 2 := ⟨⟨_, _, rfl⟩, fr_in (i := 558) (by decide +kernel) rfl, fr_in (i := 559) (by decide +kernel) rfl, fr_in (i := 79) (by decide +kernel) rfl, fr_in (i := 560) (by decide +kernel) rfl, ⟨by decide +kernel, by decide +kernel, by decide +kernel⟩, rfl, rfl⟩
def YX3_colourOf : fr_Y := (yX3_colourOf, cX3_colourOf, 4, some .int, { frames := 3, cells := 0, slots := 0, locals := 65 })
theorem msX3_colourOf : fr_mV YX3_colourOf 1 3 := ⟨⟨_, _, rfl⟩, fr_in (i := 671) (by decide +kernel) rfl, fr_in (i := 672) (by decide +kernel) rfl, fr_in (i := 78) (by decide +kernel) rfl, fr_in (i := 673) (by decide +kernel) rfl, ⟨by decide +kernel, by decide +kernel, by decide +kernel⟩, rfl, rfl⟩
def YX3_dayOfReading : fr_Y := (yX3_dayOfReading, cX3_dayOfReading, 6, some .int, { frames := 4, cells := 0, slots := 0, locals := 87 })
theorem msX3_dayOfReading : fr_mV YX3_dayOfReading 1 3 := ⟨⟨_, _, rfl⟩, fr_in (i := 711) (by decide +kernel) rfl, fr_in (i := 712) (by decide +kernel) rfl, fr_in (i := 78) (by decide +kernel) rfl, fr_in (i := 713) (by decide +kernel) rfl, ⟨by decide +kernel, by decide +kernel, by decide +kernel⟩, rfl, rfl⟩
def YX3_firstFree : fr_Y := (yX3_firstFree, cX3_firstFree, 4, some .int, { frames := 2, cells := 0, slots := 0, locals := 43 })
theorem msX3_firstFree : fr_mV YX3_firstFree 2 3 := ⟨⟨_, _, rfl⟩, fr_in (i := 601) (by decide +kernel) rfl, fr_in (i := 19) (by decide +kernel) rfl, fr_in (i := 78) (by decide +kernel) rfl, fr_in (i := 602) (by decide +kernel) rfl, ⟨by decide +kernel, by decide +kernel, by decide +kernel⟩, rfl, rfl⟩
def YX3_hold : fr_Y := (yX3_hold, cX3_hold, 4, none, { frames := 0, cells := 0, slots := 0, locals := 0 })
theorem msX3_hold : fr_mV YX3_hold 3 3 := ⟨⟨_, _, rfl⟩, fr_in (i := 594) (by decide +kernel) rfl, fr_in (i := 18) (by decide +kernel) rfl, fr_in (i := 78) (by decide +kernel) rfl, fr_in (i := 595) (by decide +kernel) rfl, ⟨by decide +kernel, by decide +kernel, by decide +kernel⟩, rfl, rfl⟩
def YX3_holderOf : fr_Y := (yX3_holderOf, cX3_holderOf, 2, some .int, { frames := 1, cells := 0, slots := 0, locals := 22 })
theorem msX3_holderOf : fr_mV YX3_holderOf 1 3 := ⟨⟨_, _, rfl⟩, fr_in (i := 624) (by decide +kernel) rfl, fr_in (i := 625) (by decide +kernel) rfl, fr_in (i := 78) (by decide +kernel) rfl, fr_in (i := 626) (by decide +kernel) rfl, ⟨by decide +kernel, by decide +kernel, by decide +kernel⟩, rfl, rfl⟩
def YX3_howMany : fr_Y := (yX3_howMany, cX3_howMany, 4, some .int, { frames := 0, cells := 0, slots := 0, locals := 0 })
theorem msX3_howMany : fr_mV YX3_howMany 1 3 := ⟨⟨_, _, rfl⟩, fr_in (i := 608) (by decide +kernel) rfl, fr_in (i := 609) (by decide +kernel) rfl, fr_in (i := 78) (by decide +kernel) rfl, fr_in (i := 610) (by decide +kernel) rfl, ⟨by decide +kernel, by decide +kernel, by decide +kernel⟩, rfl, rfl⟩
def YX3_isFree : fr_Y := (yX3_isFree, cX3_isFree, 2, some .boolean, { frames := 1, cells := 0, slots := 0, locals := 22 })
theorem msX3_isFree : fr_mV YX3_isFree 1 3 := ⟨⟨_, _, rfl⟩, fr_in (i := 588) (by decide +kernel) rfl, fr_in (i := 17) (by decide +kernel) rfl, fr_in (i := 78) (by decide +kernel) rfl, fr_in (i := 589) (by decide +kernel) rfl, ⟨by decide +kernel, by decide +kernel, by decide +kernel⟩, rfl, rfl⟩
def YX3_isHeld : fr_Y := (yX3_isHeld, cX3_isHeld, 2, some .boolean, { frames := 1, cells := 0, slots := 0, locals := 21 })
theorem msX3_isHeld : fr_mV YX3_isHeld 1 3 := ⟨⟨_, _, rfl⟩, fr_in (i := 680) (by decide +kernel) rfl, fr_in (i := 26) (by decide +kernel) rfl, fr_in (i := 78) (by decide +kernel) rfl, fr_in (i := 681) (by decide +kernel) rfl, ⟨by decide +kernel, by decide +kernel, by decide +kernel⟩, rfl, rfl⟩
def YX3_isReadingDay : fr_Y := (yX3_isReadingDay, cX3_isReadingDay, 2, some .boolean, { frames := 3, cells := 0, slots := 0, locals := 66 })
theorem msX3_isReadingDay : fr_mV YX3_isReadingDay 1 3 := ⟨⟨_, _, rfl⟩, fr_in (i := 702) (by decide +kernel) rfl, fr_in (i := 703) (by decide +kernel) rfl, fr_in (i := 78) (by decide +kernel) rfl, fr_in (i := 704) (by decide +kernel) rfl, ⟨by decide +kernel, by decide +kernel, by decide +kernel⟩, rfl, rfl⟩
def YX3_lay : fr_Y := (yX3_lay, cX3_lay, 5, none, { frames := 5, cells := 0, slots := 0, locals := 114 })
theorem msX3_lay : fr_mV YX3_lay 2 3 := ⟨⟨_, _, rfl⟩, fr_in (i := 532) (by decide +kernel) rfl, fr_in (i := 533) (by decide +kernel) rfl, fr_in (i := 78) (by decide +kernel) rfl, fr_in (i := 534) (by decide +kernel) rfl, ⟨by decide +kernel, by decide +kernel, by decide +kernel⟩, rfl, rfl⟩
def YX3_liesIn : fr_Y := (yX3_liesIn, cX3_liesIn, 4, some .boolean, { frames := 2, cells := 0, slots := 0, locals := 42 })
theorem msX3_liesIn : fr_mV YX3_liesIn 3 3 := ⟨⟨_, _, rfl⟩, fr_in (i := 676) (by decide +kernel) rfl, fr_in (i := 25) (by decide +kernel) rfl, fr_in (i := 78) (by decide +kernel) rfl, fr_in (i := 677) (by decide +kernel) rfl, ⟨by decide +kernel, by decide +kernel, by decide +kernel⟩, rfl, rfl⟩
def YX3_ownDayOf : fr_Y := (yX3_ownDayOf, cX3_ownDayOf, 2, some .int, { frames := 4, cells := 0, slots := 0, locals := 87 })
theorem msX3_ownDayOf : fr_mV YX3_ownDayOf 1 3 := ⟨⟨_, _, rfl⟩, fr_in (i := 564) (by decide +kernel) rfl, fr_in (i := 565) (by decide +kernel) rfl, fr_in (i := 78) (by decide +kernel) rfl, fr_in (i := 566) (by decide +kernel) rfl, ⟨by decide +kernel, by decide +kernel, by decide +kernel⟩, rfl, rfl⟩
def YX3_rankOf : fr_Y := (yX3_rankOf, cX3_rankOf, 3, some .int, { frames := 2, cells := 0, slots := 0, locals := 44 })
theorem msX3_rankOf : fr_mV YX3_rankOf 1 3 := ⟨⟨_, _, rfl⟩, fr_in (i := 620) (by decide +kernel) rfl, fr_in (i := 621) (by decide +kernel) rfl, fr_in (i := 78) (by decide +kernel) rfl, fr_in (i := 622) (by decide +kernel) rfl, ⟨by decide +kernel, by decide +kernel, by decide +kernel⟩, rfl, rfl⟩
def YX3_readingDays : fr_Y := (yX3_readingDays, cX3_readingDays, 4, some .int, { frames := 4, cells := 0, slots := 0, locals := 87 })
theorem msX3_readingDays : fr_mV YX3_readingDays 1 3 := ⟨⟨_, _, rfl⟩, fr_in (i := 698) (by decide +kernel) rfl, fr_in (i := 699) (by decide +kernel) rfl, fr_in (i := 78) (by decide +kernel) rfl, fr_in (i := 700) (by decide +kernel) rfl, ⟨by decide +kernel, by decide +kernel, by decide +kernel⟩, rfl, rfl⟩
def YX3_rememberedOn : fr_Y := (yX3_rememberedOn, cX3_rememberedOn, 4, some .int, { frames := 0, cells := 0, slots := 0, locals := 0 })
theorem msX3_rememberedOn : fr_mV YX3_rememberedOn 1 3 := ⟨⟨_, _, rfl⟩, fr_in (i := 685) (by decide +kernel) rfl, fr_in (i := 686) (by decide +kernel) rfl, fr_in (i := 78) (by decide +kernel) rfl, fr_in (i := 687) (by decide +kernel) rfl, ⟨by decide +kernel, by decide +kernel, by decide +kernel⟩, rfl, rfl⟩
def YX3_servicesOf : fr_Y := (yX3_servicesOf, cX3_servicesOf, 3, some .int, { frames := 3, cells := 0, slots := 0, locals := 66 })
theorem msX3_servicesOf : fr_mV YX3_servicesOf 1 3 := ⟨⟨_, _, rfl⟩, fr_in (i := 616) (by decide +kernel) rfl, fr_in (i := 617) (by decide +kernel) rfl, fr_in (i := 78) (by decide +kernel) rfl, fr_in (i := 618) (by decide +kernel) rfl, ⟨by decide +kernel, by decide +kernel, by decide +kernel⟩, rfl, rfl⟩
def YX3_servicesOfAllDays : fr_Y := (yX3_servicesOfAllDays, cX3_servicesOfAllDays, 3, some .int, { frames := 4, cells := 0, slots := 0, locals := 88 })
theorem msX3_servicesOfAllDays : fr_mV YX3_servicesOfAllDays 0 3 := ⟨⟨_, _, rfl⟩, fr_in (i := 612) (by decide +kernel) rfl, fr_in (i := 613) (by decide +kernel) rfl, fr_in (i := 78) (by decide +kernel) rfl, fr_in (i := 614) (by decide +kernel) rfl, ⟨by decide +kernel, by decide +kernel, by decide +kernel⟩, rfl, rfl⟩
def YX3_settle : fr_Y := (yX3_settle, cX3_settle, 6, none, { frames := 3, cells := 0, slots := 0, locals := 66 })
theorem msX3_settle : fr_mV YX3_settle 2 3 := ⟨⟨_, _, rfl⟩, fr_in (i := 584) (by decide +kernel) rfl, fr_in (i := 16) (by decide +kernel) rfl, fr_in (i := 78) (by decide +kernel) rfl, fr_in (i := 585) (by decide +kernel) rfl, ⟨by decide +kernel, by decide +kernel, by decide +kernel⟩, rfl, rfl⟩
def YX3_settleAll : fr_Y := (yX3_settleAll, cX3_settleAll, 4, none, { frames := 4, cells := 0, slots := 0, locals := 91 })
theorem msX3_settleAll : fr_mV YX3_settleAll 2 3 := ⟨⟨_, _, rfl⟩, fr_in (i := 580) (by decide +kernel) rfl, fr_in (i := 15) (by decide +kernel) rfl, fr_in (i := 78) (by decide +kernel) rfl, fr_in (i := 581) (by decide +kernel) rfl, ⟨by decide +kernel, by decide +kernel, by decide +kernel⟩, rfl, rfl⟩
def YX4_bareNumber : fr_Y := (yX4_bareNumber, cX4_bareNumber, 5, some .boolean, { frames := 1, cells := 0, slots := 0, locals := 22 })
theorem msX4_bareNumber : fr_mV YX4_bareNumber 2 4 := ⟨⟨_, _, rfl⟩, fr_in (i := 400) (by decide +kernel) rfl, fr_in (i := 5) (by decide +kernel) rfl, fr_in (i := 80) (by decide +kernel) rfl, fr_in (i := 401) (by decide +kernel) rfl, ⟨by decide +kernel, by decide +kernel, by decide +kernel⟩, rfl, rfl⟩
def YX4_choirs : fr_Y := (yX4_choirs, cX4_choirs, 1, some .boolean, { frames := 4, cells := 0, slots := 0, locals := 91 })
theorem msX4_choirs : fr_mV YX4_choirs 0 4 := ⟨⟨_, _, rfl⟩, fr_in (i := 442) (by decide +kernel) rfl, fr_in (i := 11) (by decide +kernel) rfl, fr_in (i := 80) (by decide +kernel) rfl, fr_in (i := 443) (by decide +kernel) rfl, ⟨by decide +kernel, by decide +kernel, by decide +kernel⟩, rfl, rfl⟩
def YX4_end : fr_Y := (yX4_end, cX4_end, 1, some .boolean, { frames := 1, cells := 0, slots := 0, locals := 21 })
theorem msX4_end : fr_mV YX4_end 0 4 := ⟨⟨_, _, rfl⟩, fr_in (i := 446) (by decide +kernel) rfl, fr_in (i := 12) (by decide +kernel) rfl, fr_in (i := 80) (by decide +kernel) rfl, fr_in (i := 447) (by decide +kernel) rfl, ⟨by decide +kernel, by decide +kernel, by decide +kernel⟩, rfl, rfl⟩
def YX4_fails : fr_Y := (yX4_fails, cX4_fails, 2, some .boolean, { frames := 0, cells := 0, slots := 0, locals := 0 })
theorem msX4_fails : fr_mV YX4_fails 1 4 := ⟨⟨_, _, rfl⟩, fr_in (i := 383) (by decide +kernel) rfl, fr_in (i := 2) (by decide +kernel) rfl, fr_in (i := 80) (by decide +kernel) rfl, fr_in (i := 384) (by decide +kernel) rfl, ⟨by decide +kernel, by decide +kernel, by decide +kernel⟩, rfl, rfl⟩
def YX4_feasts : fr_Y := (yX4_feasts, cX4_feasts, 3, some .boolean, { frames := 4, cells := 0, slots := 0, locals := 92 })
theorem msX4_feasts : fr_mV YX4_feasts 0 4 := ⟨⟨_, _, rfl⟩, fr_in (i := 404) (by decide +kernel) rfl, fr_in (i := 6) (by decide +kernel) rfl, fr_in (i := 80) (by decide +kernel) rfl, fr_in (i := 405) (by decide +kernel) rfl, ⟨by decide +kernel, by decide +kernel, by decide +kernel⟩, rfl, rfl⟩
def YX4_head : fr_Y := (yX4_head, cX4_head, 1, some .boolean, { frames := 4, cells := 0, slots := 0, locals := 91 })
theorem msX4_head : fr_mV YX4_head 0 4 := ⟨⟨_, _, rfl⟩, fr_in (i := 370) (by decide +kernel) rfl, fr_in (i := 0) (by decide +kernel) rfl, fr_in (i := 80) (by decide +kernel) rfl, fr_in (i := 371) (by decide +kernel) rfl, ⟨by decide +kernel, by decide +kernel, by decide +kernel⟩, rfl, rfl⟩
def YX4_kindOf : fr_Y := (yX4_kindOf, cX4_kindOf, 1, some .int, { frames := 0, cells := 0, slots := 0, locals := 0 })
theorem msX4_kindOf : fr_mS YX4_kindOf 1 := ⟨fr_in (i := 407) (by decide +kernel) rfl, fr_in (i := 80) (by decide +kernel) rfl, fr_in (i := 408) (by decide +kernel) rfl, ⟨by decide +kernel, by decide +kernel, by decide +kernel⟩, rfl, rfl⟩
def YX4_lawNumber : fr_Y := (yX4_lawNumber, cX4_lawNumber, 3, some .boolean, { frames := 3, cells := 0, slots := 0, locals := 69 })
theorem msX4_lawNumber : fr_mV YX4_lawNumber 2 4 := ⟨⟨_, _, rfl⟩, fr_in (i := 387) (by decide +kernel) rfl, fr_in (i := 3) (by decide +kernel) rfl, fr_in (i := 80) (by decide +kernel) rfl, fr_in (i := 388) (by decide +kernel) rfl, ⟨by decide +kernel, by decide +kernel, by decide +kernel⟩, rfl, rfl⟩
def YX4_number : fr_Y := (yX4_number, cX4_number, 4, some .boolean, { frames := 2, cells := 0, slots := 0, locals := 46 })
theorem msX4_number : fr_mV YX4_number 3 4 := ⟨⟨_, _, rfl⟩, fr_in (i := 396) (by decide +kernel) rfl, fr_in (i := 4) (by decide +kernel) rfl, fr_in (i := 80) (by decide +kernel) rfl, fr_in (i := 397) (by decide +kernel) rfl, ⟨by decide +kernel, by decide +kernel, by decide +kernel⟩, rfl, rfl⟩
def YX4_oneFeast : fr_Y := (yX4_oneFeast, cX4_oneFeast, 4, some .boolean, { frames := 3, cells := 0, slots := 0, locals := 69 })
theorem msX4_oneFeast : fr_mV YX4_oneFeast 1 4 := ⟨⟨_, _, rfl⟩, fr_in (i := 412) (by decide +kernel) rfl, fr_in (i := 7) (by decide +kernel) rfl, fr_in (i := 80) (by decide +kernel) rfl, fr_in (i := 413) (by decide +kernel) rfl, ⟨by decide +kernel, by decide +kernel, by decide +kernel⟩, rfl, rfl⟩
def YX4_oneSeason : fr_Y := (yX4_oneSeason, cX4_oneSeason, 4, some .boolean, { frames := 3, cells := 0, slots := 0, locals := 69 })
theorem msX4_oneSeason : fr_mV YX4_oneSeason 0 4 := ⟨⟨_, _, rfl⟩, fr_in (i := 430) (by decide +kernel) rfl, fr_in (i := 9) (by decide +kernel) rfl, fr_in (i := 80) (by decide +kernel) rfl, fr_in (i := 431) (by decide +kernel) rfl, ⟨by decide +kernel, by decide +kernel, by decide +kernel⟩, rfl, rfl⟩
def YX4_psalter : fr_Y := (yX4_psalter, cX4_psalter, 1, some .boolean, { frames := 4, cells := 0, slots := 0, locals := 91 })
theorem msX4_psalter : fr_mV YX4_psalter 0 4 := ⟨⟨_, _, rfl⟩, fr_in (i := 438) (by decide +kernel) rfl, fr_in (i := 10) (by decide +kernel) rfl, fr_in (i := 80) (by decide +kernel) rfl, fr_in (i := 439) (by decide +kernel) rfl, ⟨by decide +kernel, by decide +kernel, by decide +kernel⟩, rfl, rfl⟩
def YX4_readsAll : fr_Y := (yX4_readsAll, cX4_readsAll, 1, some .boolean, { frames := 5, cells := 0, slots := 0, locals := 114 })
theorem msX4_readsAll : fr_mV YX4_readsAll 0 4 := ⟨⟨_, _, rfl⟩, fr_in (i := 358) (by decide +kernel) rfl, fr_in (i := 359) (by decide +kernel) rfl, fr_in (i := 80) (by decide +kernel) rfl, fr_in (i := 360) (by decide +kernel) rfl, ⟨by decide +kernel, by decide +kernel, by decide +kernel⟩, rfl, rfl⟩
def YX4_seasons : fr_Y := (yX4_seasons, cX4_seasons, 2, some .boolean, { frames := 4, cells := 0, slots := 0, locals := 92 })
theorem msX4_seasons : fr_mV YX4_seasons 0 4 := ⟨⟨_, _, rfl⟩, fr_in (i := 426) (by decide +kernel) rfl, fr_in (i := 8) (by decide +kernel) rfl, fr_in (i := 80) (by decide +kernel) rfl, fr_in (i := 427) (by decide +kernel) rfl, ⟨by decide +kernel, by decide +kernel, by decide +kernel⟩, rfl, rfl⟩
def YX4_sign : fr_Y := (yX4_sign, cX4_sign, 2, some .boolean, { frames := 1, cells := 0, slots := 0, locals := 21 })
theorem msX4_sign : fr_mV YX4_sign 1 4 := ⟨⟨_, _, rfl⟩, fr_in (i := 374) (by decide +kernel) rfl, fr_in (i := 1) (by decide +kernel) rfl, fr_in (i := 80) (by decide +kernel) rfl, fr_in (i := 375) (by decide +kernel) rfl, ⟨by decide +kernel, by decide +kernel, by decide +kernel⟩, rfl, rfl⟩
def YX5_choose : fr_Y := (yX5_choose, cX5_choose, 7, some .int, { frames := 2, cells := 0, slots := 0, locals := 44 })
theorem msX5_choose : fr_mV YX5_choose 3 5 := ⟨⟨_, _, rfl⟩, fr_in (i := 642) (by decide +kernel) rfl, fr_in (i := 21) (by decide +kernel) rfl, fr_in (i := 82) (by decide +kernel) rfl, fr_in (i := 643) (by decide +kernel) rfl, ⟨by decide +kernel, by decide +kernel, by decide +kernel⟩, rfl, rfl⟩
def YX5_dealOut : fr_Y := (yX5_dealOut, cX5_dealOut, 6, none, { frames := 4, cells := 0, slots := 0, locals := 88 })
theorem msX5_dealOut : fr_mV YX5_dealOut 2 5 := ⟨⟨_, _, rfl⟩, fr_in (i := 636) (by decide +kernel) rfl, fr_in (i := 20) (by decide +kernel) rfl, fr_in (i := 82) (by decide +kernel) rfl, fr_in (i := 637) (by decide +kernel) rfl, ⟨by decide +kernel, by decide +kernel, by decide +kernel⟩, rfl, rfl⟩
def YX5_gap : fr_Y := (yX5_gap, cX5_gap, 4, some .int, { frames := 1, cells := 0, slots := 0, locals := 30 })
theorem msX5_gap : fr_mV YX5_gap 0 5 := ⟨⟨_, _, rfl⟩, fr_in (i := 727) (by decide +kernel) rfl, fr_in (i := 728) (by decide +kernel) rfl, fr_in (i := 82) (by decide +kernel) rfl, fr_in (i := 729) (by decide +kernel) rfl, ⟨by decide +kernel, by decide +kernel, by decide +kernel⟩, rfl, rfl⟩
def YX5_give : fr_Y := (yX5_give, cX5_give, 2, none, { frames := 0, cells := 0, slots := 0, locals := 0 })
theorem msX5_give : fr_mV YX5_give 1 5 := ⟨⟨_, _, rfl⟩, fr_in (i := 655) (by decide +kernel) rfl, fr_in (i := 23) (by decide +kernel) rfl, fr_in (i := 82) (by decide +kernel) rfl, fr_in (i := 656) (by decide +kernel) rfl, ⟨by decide +kernel, by decide +kernel, by decide +kernel⟩, rfl, rfl⟩
def YX5_go : fr_Y := (yX5_go, cX5_go, 4, none, { frames := 5, cells := 0, slots := 0, locals := 113 })
theorem msX5_go : fr_mV YX5_go 2 5 := ⟨⟨_, _, rfl⟩, fr_in (i := 630) (by decide +kernel) rfl, fr_in (i := 631) (by decide +kernel) rfl, fr_in (i := 82) (by decide +kernel) rfl, fr_in (i := 632) (by decide +kernel) rfl, ⟨by decide +kernel, by decide +kernel, by decide +kernel⟩, rfl, rfl⟩
def YX5_goesAheadOf : fr_Y := (yX5_goesAheadOf, cX5_goesAheadOf, 4, some .boolean, { frames := 0, cells := 0, slots := 0, locals := 0 })
theorem msX5_goesAheadOf : fr_mV YX5_goesAheadOf 3 5 := ⟨⟨_, _, rfl⟩, fr_in (i := 651) (by decide +kernel) rfl, fr_in (i := 22) (by decide +kernel) rfl, fr_in (i := 82) (by decide +kernel) rfl, fr_in (i := 652) (by decide +kernel) rfl, ⟨by decide +kernel, by decide +kernel, by decide +kernel⟩, rfl, rfl⟩
def YX6_at : fr_Y := (yX6_at, cX6_at, 2, some .int, { frames := 0, cells := 0, slots := 0, locals := 0 })
theorem msX6_at : fr_mV YX6_at 1 6 := ⟨⟨_, _, rfl⟩, fr_in (i := 377) (by decide +kernel) rfl, fr_in (i := 378) (by decide +kernel) rfl, fr_in (i := 76) (by decide +kernel) rfl, fr_in (i := 379) (by decide +kernel) rfl, ⟨by decide +kernel, by decide +kernel, by decide +kernel⟩, rfl, rfl⟩
def YX6_put : fr_Y := (yX6_put, cX6_put, 2, some .boolean, { frames := 0, cells := 0, slots := 0, locals := 0 })
theorem msX6_put : fr_mV YX6_put 1 6 := ⟨⟨_, _, rfl⟩, fr_in (i := 349) (by decide +kernel) rfl, fr_in (i := 350) (by decide +kernel) rfl, fr_in (i := 76) (by decide +kernel) rfl, fr_in (i := 351) (by decide +kernel) rfl, ⟨by decide +kernel, by decide +kernel, by decide +kernel⟩, rfl, rfl⟩
def YX7_add : fr_Y := (yX7_add, cX7_add, 5, some .int, { frames := 3, cells := 0, slots := 0, locals := 74 })
theorem msX7_add : fr_mV YX7_add 4 7 := ⟨⟨_, _, rfl⟩, fr_in (i := 502) (by decide +kernel) rfl, fr_in (i := 503) (by decide +kernel) rfl, fr_in (i := 75) (by decide +kernel) rfl, fr_in (i := 504) (by decide +kernel) rfl, ⟨by decide +kernel, by decide +kernel, by decide +kernel⟩, rfl, rfl⟩
def YX7_alter : fr_Y := (yX7_alter, cX7_alter, 9, some .int, { frames := 3, cells := 0, slots := 0, locals := 74 })
theorem msX7_alter : fr_mV YX7_alter 3 7 := ⟨⟨_, _, rfl⟩, fr_in (i := 474) (by decide +kernel) rfl, fr_in (i := 475) (by decide +kernel) rfl, fr_in (i := 75) (by decide +kernel) rfl, fr_in (i := 476) (by decide +kernel) rfl, ⟨by decide +kernel, by decide +kernel, by decide +kernel⟩, rfl, rfl⟩
def YX7_away : fr_Y := (yX7_away, cX7_away, 4, some .int, { frames := 3, cells := 0, slots := 0, locals := 74 })
theorem msX7_away : fr_mV YX7_away 3 7 := ⟨⟨_, _, rfl⟩, fr_in (i := 513) (by decide +kernel) rfl, fr_in (i := 514) (by decide +kernel) rfl, fr_in (i := 75) (by decide +kernel) rfl, fr_in (i := 515) (by decide +kernel) rfl, ⟨by decide +kernel, by decide +kernel, by decide +kernel⟩, rfl, rfl⟩
def YX7_bars : fr_Y := (yX7_bars, cX7_bars, 5, some .int, { frames := 6, cells := 0, slots := 0, locals := 138 })
theorem msX7_bars : fr_mV YX7_bars 2 7 := ⟨⟨_, _, rfl⟩, fr_in (i := 765) (by decide +kernel) rfl, fr_in (i := 766) (by decide +kernel) rfl, fr_in (i := 75) (by decide +kernel) rfl, fr_in (i := 767) (by decide +kernel) rfl, ⟨by decide +kernel, by decide +kernel, by decide +kernel⟩, rfl, rfl⟩
def YX7_best : fr_Y := (yX7_best, cX7_best, 5, some .int, { frames := 6, cells := 0, slots := 0, locals := 138 })
theorem msX7_best : fr_mV YX7_best 1 7 := ⟨⟨_, _, rfl⟩, fr_in (i := 760) (by decide +kernel) rfl, fr_in (i := 761) (by decide +kernel) rfl, fr_in (i := 75) (by decide +kernel) rfl, fr_in (i := 762) (by decide +kernel) rfl, ⟨by decide +kernel, by decide +kernel, by decide +kernel⟩, rfl, rfl⟩
def YX7_book : fr_Y := (yX7_book, cX7_book, 2, some .int, { frames := 6, cells := 0, slots := 0, locals := 134 })
theorem msX7_book : fr_mV YX7_book 0 7 := ⟨⟨_, _, rfl⟩, fr_in (i := 354) (by decide +kernel) rfl, fr_in (i := 355) (by decide +kernel) rfl, fr_in (i := 75) (by decide +kernel) rfl, fr_in (i := 356) (by decide +kernel) rfl, ⟨by decide +kernel, by decide +kernel, by decide +kernel⟩, rfl, rfl⟩
def YX7_count : fr_Y := (yX7_count, cX7_count, 2, some .int, { frames := 0, cells := 0, slots := 0, locals := 0 })
theorem msX7_count : fr_mV YX7_count 1 7 := ⟨⟨_, _, rfl⟩, fr_in (i := 777) (by decide +kernel) rfl, fr_in (i := 778) (by decide +kernel) rfl, fr_in (i := 75) (by decide +kernel) rfl, fr_in (i := 779) (by decide +kernel) rfl, ⟨by decide +kernel, by decide +kernel, by decide +kernel⟩, rfl, rfl⟩
def YX7_day : fr_Y := (yX7_day, cX7_day, 4, some .int, { frames := 6, cells := 0, slots := 0, locals := 138 })
theorem msX7_day : fr_mV YX7_day 3 7 := ⟨⟨_, _, rfl⟩, fr_in (i := 658) (by decide +kernel) rfl, fr_in (i := 659) (by decide +kernel) rfl, fr_in (i := 75) (by decide +kernel) rfl, fr_in (i := 660) (by decide +kernel) rfl, ⟨by decide +kernel, by decide +kernel, by decide +kernel⟩, rfl, rfl⟩
def YX7_duties : fr_Y := (yX7_duties, cX7_duties, 4, some .int, { frames := 6, cells := 0, slots := 0, locals := 138 })
theorem msX7_duties : fr_mV YX7_duties 3 7 := ⟨⟨_, _, rfl⟩, fr_in (i := 719) (by decide +kernel) rfl, fr_in (i := 720) (by decide +kernel) rfl, fr_in (i := 75) (by decide +kernel) rfl, fr_in (i := 721) (by decide +kernel) rfl, ⟨by decide +kernel, by decide +kernel, by decide +kernel⟩, rfl, rfl⟩
def YX7_enough : fr_Y := (yX7_enough, cX7_enough, 5, some .int, { frames := 6, cells := 0, slots := 0, locals := 138 })
theorem msX7_enough : fr_mV YX7_enough 2 7 := ⟨⟨_, _, rfl⟩, fr_in (i := 756) (by decide +kernel) rfl, fr_in (i := 757) (by decide +kernel) rfl, fr_in (i := 75) (by decide +kernel) rfl, fr_in (i := 758) (by decide +kernel) rfl, ⟨by decide +kernel, by decide +kernel, by decide +kernel⟩, rfl, rfl⟩
def YX7_fair : fr_Y := (yX7_fair, cX7_fair, 2, some .int, { frames := 6, cells := 0, slots := 0, locals := 138 })
theorem msX7_fair : fr_mV YX7_fair 1 7 := ⟨⟨_, _, rfl⟩, fr_in (i := 723) (by decide +kernel) rfl, fr_in (i := 724) (by decide +kernel) rfl, fr_in (i := 75) (by decide +kernel) rfl, fr_in (i := 725) (by decide +kernel) rfl, ⟨by decide +kernel, by decide +kernel, by decide +kernel⟩, rfl, rfl⟩
def YX7_fault : fr_Y := (yX7_fault, cX7_fault, 1, some .int, { frames := 0, cells := 0, slots := 0, locals := 0 })
theorem msX7_fault : fr_mV YX7_fault 0 7 := ⟨⟨_, _, rfl⟩, fr_in (i := 457) (by decide +kernel) rfl, fr_in (i := 458) (by decide +kernel) rfl, fr_in (i := 75) (by decide +kernel) rfl, fr_in (i := 459) (by decide +kernel) rfl, ⟨by decide +kernel, by decide +kernel, by decide +kernel⟩, rfl, rfl⟩
def YX7_feast : fr_Y := (yX7_feast, cX7_feast, 3, some .int, { frames := 2, cells := 0, slots := 0, locals := 44 })
theorem msX7_feast : fr_mV YX7_feast 2 7 := ⟨⟨_, _, rfl⟩, fr_in (i := 521) (by decide +kernel) rfl, fr_in (i := 522) (by decide +kernel) rfl, fr_in (i := 75) (by decide +kernel) rfl, fr_in (i := 523) (by decide +kernel) rfl, ⟨by decide +kernel, by decide +kernel, by decide +kernel⟩, rfl, rfl⟩
def YX7_feed : fr_Y := (yX7_feed, cX7_feed, 2, some .int, { frames := 1, cells := 0, slots := 0, locals := 22 })
theorem msX7_feed : fr_mV YX7_feed 1 7 := ⟨⟨_, _, rfl⟩, fr_in (i := 341) (by decide +kernel) rfl, fr_in (i := 342) (by decide +kernel) rfl, fr_in (i := 75) (by decide +kernel) rfl, fr_in (i := 343) (by decide +kernel) rfl, ⟨by decide +kernel, by decide +kernel, by decide +kernel⟩, rfl, rfl⟩
def YX7_held : fr_Y := (yX7_held, cX7_held, 4, some .int, { frames := 6, cells := 0, slots := 0, locals := 138 })
theorem msX7_held : fr_mV YX7_held 3 7 := ⟨⟨_, _, rfl⟩, fr_in (i := 689) (by decide +kernel) rfl, fr_in (i := 690) (by decide +kernel) rfl, fr_in (i := 75) (by decide +kernel) rfl, fr_in (i := 691) (by decide +kernel) rfl, ⟨by decide +kernel, by decide +kernel, by decide +kernel⟩, rfl, rfl⟩
def YX7_image : fr_Y := (yX7_image, cX7_image, 2, some .int, { frames := 2, cells := 0, slots := 0, locals := 51 })
theorem msX7_image : fr_mV YX7_image 1 7 := ⟨⟨_, _, rfl⟩, fr_in (i := 769) (by decide +kernel) rfl, fr_in (i := 770) (by decide +kernel) rfl, fr_in (i := 75) (by decide +kernel) rfl, fr_in (i := 771) (by decide +kernel) rfl, ⟨by decide +kernel, by decide +kernel, by decide +kernel⟩, rfl, rfl⟩
def YX7_isDay : fr_Y := (yX7_isDay, cX7_isDay, 3, some .boolean, { frames := 2, cells := 0, slots := 0, locals := 42 })
theorem msX7_isDay : fr_mV YX7_isDay 2 7 := ⟨⟨_, _, rfl⟩, fr_in (i := 663) (by decide +kernel) rfl, fr_in (i := 24) (by decide +kernel) rfl, fr_in (i := 75) (by decide +kernel) rfl, fr_in (i := 664) (by decide +kernel) rfl, ⟨by decide +kernel, by decide +kernel, by decide +kernel⟩, rfl, rfl⟩
def YX7_isYear : fr_Y := (yX7_isYear, cX7_isYear, 1, some .boolean, { frames := 1, cells := 0, slots := 0, locals := 22 })
theorem msX7_isYear : fr_mS YX7_isYear 1 := ⟨fr_in (i := 529) (by decide +kernel) rfl, fr_in (i := 75) (by decide +kernel) rfl, fr_in (i := 530) (by decide +kernel) rfl, ⟨by decide +kernel, by decide +kernel, by decide +kernel⟩, rfl, rfl⟩
def YX7_lastOf : fr_Y := (yX7_lastOf, cX7_lastOf, 2, some .int, { frames := 1, cells := 0, slots := 0, locals := 30 })
theorem msX7_lastOf : fr_mS YX7_lastOf 2 := ⟨fr_in (i := 737) (by decide +kernel) rfl, fr_in (i := 75) (by decide +kernel) rfl, fr_in (i := 738) (by decide +kernel) rfl, ⟨by decide +kernel, by decide +kernel, by decide +kernel⟩, rfl, rfl⟩
def YX7_law : fr_Y := (yX7_law, cX7_law, 4, some .int, { frames := 3, cells := 0, slots := 0, locals := 74 })
theorem msX7_law : fr_mV YX7_law 2 7 := ⟨⟨_, _, rfl⟩, fr_in (i := 507) (by decide +kernel) rfl, fr_in (i := 508) (by decide +kernel) rfl, fr_in (i := 75) (by decide +kernel) rfl, fr_in (i := 509) (by decide +kernel) rfl, ⟨by decide +kernel, by decide +kernel, by decide +kernel⟩, rfl, rfl⟩
def YX7_meet : fr_Y := (yX7_meet, cX7_meet, 7, some .int, { frames := 5, cells := 0, slots := 0, locals := 108 })
theorem msX7_meet : fr_mV YX7_meet 3 7 := ⟨⟨_, _, rfl⟩, fr_in (i := 733) (by decide +kernel) rfl, fr_in (i := 734) (by decide +kernel) rfl, fr_in (i := 75) (by decide +kernel) rfl, fr_in (i := 735) (by decide +kernel) rfl, ⟨by decide +kernel, by decide +kernel, by decide +kernel⟩, rfl, rfl⟩
def YX7_often : fr_Y := (yX7_often, cX7_often, 8, some .int, { frames := 6, cells := 0, slots := 0, locals := 138 })
theorem msX7_often : fr_mV YX7_often 4 7 := ⟨⟨_, _, rfl⟩, fr_in (i := 752) (by decide +kernel) rfl, fr_in (i := 753) (by decide +kernel) rfl, fr_in (i := 75) (by decide +kernel) rfl, fr_in (i := 754) (by decide +kernel) rfl, ⟨by decide +kernel, by decide +kernel, by decide +kernel⟩, rfl, rfl⟩
def YX7_psalm : fr_Y := (yX7_psalm, cX7_psalm, 7, some .int, { frames := 6, cells := 0, slots := 0, locals := 138 })
theorem msX7_psalm : fr_mV YX7_psalm 3 7 := ⟨⟨_, _, rfl⟩, fr_in (i := 693) (by decide +kernel) rfl, fr_in (i := 694) (by decide +kernel) rfl, fr_in (i := 75) (by decide +kernel) rfl, fr_in (i := 695) (by decide +kernel) rfl, ⟨by decide +kernel, by decide +kernel, by decide +kernel⟩, rfl, rfl⟩
def YX7_read : fr_Y := (yX7_read, cX7_read, 6, some .int, { frames := 6, cells := 0, slots := 0, locals := 138 })
theorem msX7_read : fr_mV YX7_read 3 7 := ⟨⟨_, _, rfl⟩, fr_in (i := 707) (by decide +kernel) rfl, fr_in (i := 708) (by decide +kernel) rfl, fr_in (i := 75) (by decide +kernel) rfl, fr_in (i := 709) (by decide +kernel) rfl, ⟨by decide +kernel, by decide +kernel, by decide +kernel⟩, rfl, rfl⟩
def YX7_restore : fr_Y := (yX7_restore, cX7_restore, 2, some .int, { frames := 2, cells := 0, slots := 0, locals := 51 })
theorem msX7_restore : fr_mV YX7_restore 1 7 := ⟨⟨_, _, rfl⟩, fr_in (i := 773) (by decide +kernel) rfl, fr_in (i := 774) (by decide +kernel) rfl, fr_in (i := 75) (by decide +kernel) rfl, fr_in (i := 775) (by decide +kernel) rfl, ⟨by decide +kernel, by decide +kernel, by decide +kernel⟩, rfl, rfl⟩
def YX7_sings : fr_Y := (yX7_sings, cX7_sings, 4, some .int, { frames := 6, cells := 0, slots := 0, locals := 138 })
theorem msX7_sings : fr_mV YX7_sings 3 7 := ⟨⟨_, _, rfl⟩, fr_in (i := 715) (by decide +kernel) rfl, fr_in (i := 716) (by decide +kernel) rfl, fr_in (i := 75) (by decide +kernel) rfl, fr_in (i := 717) (by decide +kernel) rfl, ⟨by decide +kernel, by decide +kernel, by decide +kernel⟩, rfl, rfl⟩
def YX7_springs : fr_Y := (yX7_springs, cX7_springs, 10, some .int, { frames := 3, cells := 0, slots := 0, locals := 65 })
theorem msX7_springs : fr_mV YX7_springs 3 7 := ⟨⟨_, _, rfl⟩, fr_in (i := 743) (by decide +kernel) rfl, fr_in (i := 744) (by decide +kernel) rfl, fr_in (i := 75) (by decide +kernel) rfl, fr_in (i := 745) (by decide +kernel) rfl, ⟨by decide +kernel, by decide +kernel, by decide +kernel⟩, rfl, rfl⟩
def YX7_undo : fr_Y := (yX7_undo, cX7_undo, 1, some .int, { frames := 2, cells := 0, slots := 0, locals := 52 })
theorem msX7_undo : fr_mV YX7_undo 0 7 := ⟨⟨_, _, rfl⟩, fr_in (i := 461) (by decide +kernel) rfl, fr_in (i := 462) (by decide +kernel) rfl, fr_in (i := 75) (by decide +kernel) rfl, fr_in (i := 463) (by decide +kernel) rfl, ⟨by decide +kernel, by decide +kernel, by decide +kernel⟩, rfl, rfl⟩
def YX7_within : fr_Y := (yX7_within, cX7_within, 3, some .boolean, { frames := 0, cells := 0, slots := 0, locals := 0 })
theorem msX7_within : fr_mS YX7_within 3 := ⟨fr_in (i := 345) (by decide +kernel) rfl, fr_in (i := 75) (by decide +kernel) rfl, fr_in (i := 346) (by decide +kernel) rfl, ⟨by decide +kernel, by decide +kernel, by decide +kernel⟩, rfl, rfl⟩
def YX7_year : fr_Y := (yX7_year, cX7_year, 4, some .int, { frames := 6, cells := 0, slots := 0, locals := 138 })
theorem msX7_year : fr_mV YX7_year 2 7 := ⟨⟨_, _, rfl⟩, fr_in (i := 525) (by decide +kernel) rfl, fr_in (i := 526) (by decide +kernel) rfl, fr_in (i := 75) (by decide +kernel) rfl, fr_in (i := 527) (by decide +kernel) rfl, ⟨by decide +kernel, by decide +kernel, by decide +kernel⟩, rfl, rfl⟩
def YX8_add : fr_Y := (yX8_add, cX8_add, 5, some .int, { frames := 2, cells := 0, slots := 0, locals := 46 })
theorem msX8_add : fr_mV YX8_add 4 8 := ⟨⟨_, _, rfl⟩, fr_in (i := 979) (by decide +kernel) rfl, fr_in (i := 980) (by decide +kernel) rfl, fr_in (i := 83) (by decide +kernel) rfl, fr_in (i := 981) (by decide +kernel) rfl, ⟨by decide +kernel, by decide +kernel, by decide +kernel⟩, rfl, rfl⟩
def YX8_alter : fr_Y := (yX8_alter, cX8_alter, 5, some .int, { frames := 3, cells := 0, slots := 0, locals := 69 })
theorem msX8_alter : fr_mV YX8_alter 3 8 := ⟨⟨_, _, rfl⟩, fr_in (i := 951) (by decide +kernel) rfl, fr_in (i := 952) (by decide +kernel) rfl, fr_in (i := 83) (by decide +kernel) rfl, fr_in (i := 953) (by decide +kernel) rfl, ⟨by decide +kernel, by decide +kernel, by decide +kernel⟩, rfl, rfl⟩
def YX8_away : fr_Y := (yX8_away, cX8_away, 4, some .int, { frames := 2, cells := 0, slots := 0, locals := 46 })
theorem msX8_away : fr_mV YX8_away 3 8 := ⟨⟨_, _, rfl⟩, fr_in (i := 999) (by decide +kernel) rfl, fr_in (i := 1000) (by decide +kernel) rfl, fr_in (i := 83) (by decide +kernel) rfl, fr_in (i := 1001) (by decide +kernel) rfl, ⟨by decide +kernel, by decide +kernel, by decide +kernel⟩, rfl, rfl⟩
def YX8_bad : fr_Y := (yX8_bad, cX8_bad, 2, none, { frames := 0, cells := 0, slots := 0, locals := 0 })
theorem msX8_bad : fr_mV YX8_bad 1 8 := ⟨⟨_, _, rfl⟩, fr_in (i := 911) (by decide +kernel) rfl, fr_in (i := 32) (by decide +kernel) rfl, fr_in (i := 83) (by decide +kernel) rfl, fr_in (i := 912) (by decide +kernel) rfl, ⟨by decide +kernel, by decide +kernel, by decide +kernel⟩, rfl, rfl⟩
def YX8_bars : fr_Y := (yX8_bars, cX8_bars, 5, some .int, { frames := 6, cells := 0, slots := 0, locals := 133 })
theorem msX8_bars : fr_mV YX8_bars 2 8 := ⟨⟨_, _, rfl⟩, fr_in (i := 1191) (by decide +kernel) rfl, fr_in (i := 1192) (by decide +kernel) rfl, fr_in (i := 83) (by decide +kernel) rfl, fr_in (i := 1193) (by decide +kernel) rfl, ⟨by decide +kernel, by decide +kernel, by decide +kernel⟩, rfl, rfl⟩
def YX8_best : fr_Y := (yX8_best, cX8_best, 6, some .int, { frames := 6, cells := 0, slots := 0, locals := 133 })
theorem msX8_best : fr_mV YX8_best 1 8 := ⟨⟨_, _, rfl⟩, fr_in (i := 1187) (by decide +kernel) rfl, fr_in (i := 1188) (by decide +kernel) rfl, fr_in (i := 83) (by decide +kernel) rfl, fr_in (i := 1189) (by decide +kernel) rfl, ⟨by decide +kernel, by decide +kernel, by decide +kernel⟩, rfl, rfl⟩
def YX8_book : fr_Y := (yX8_book, cX8_book, 2, some .int, { frames := 6, cells := 0, slots := 0, locals := 134 })
theorem msX8_book : fr_mV YX8_book 0 8 := ⟨⟨_, _, rfl⟩, fr_in (i := 880) (by decide +kernel) rfl, fr_in (i := 881) (by decide +kernel) rfl, fr_in (i := 83) (by decide +kernel) rfl, fr_in (i := 882) (by decide +kernel) rfl, ⟨by decide +kernel, by decide +kernel, by decide +kernel⟩, rfl, rfl⟩
def YX8_byteAt : fr_Y := (yX8_byteAt, cX8_byteAt, 2, some .int, { frames := 0, cells := 0, slots := 0, locals := 0 })
theorem msX8_byteAt : fr_mV YX8_byteAt 1 8 := ⟨⟨_, _, rfl⟩, fr_in (i := 891) (by decide +kernel) rfl, fr_in (i := 28) (by decide +kernel) rfl, fr_in (i := 83) (by decide +kernel) rfl, fr_in (i := 892) (by decide +kernel) rfl, ⟨by decide +kernel, by decide +kernel, by decide +kernel⟩, rfl, rfl⟩
def YX8_choose : fr_Y := (yX8_choose, cX8_choose, 8, some .int, { frames := 2, cells := 0, slots := 0, locals := 47 })
theorem msX8_choose : fr_mV YX8_choose 4 8 := ⟨⟨_, _, rfl⟩, fr_in (i := 1106) (by decide +kernel) rfl, fr_in (i := 65) (by decide +kernel) rfl, fr_in (i := 83) (by decide +kernel) rfl, fr_in (i := 1107) (by decide +kernel) rfl, ⟨by decide +kernel, by decide +kernel, by decide +kernel⟩, rfl, rfl⟩
def YX8_colourOf : fr_Y := (yX8_colourOf, cX8_colourOf, 7, some .int, { frames := 1, cells := 0, slots := 0, locals := 22 })
theorem msX8_colourOf : fr_mV YX8_colourOf 1 8 := ⟨⟨_, _, rfl⟩, fr_in (i := 1130) (by decide +kernel) rfl, fr_in (i := 70) (by decide +kernel) rfl, fr_in (i := 83) (by decide +kernel) rfl, fr_in (i := 1131) (by decide +kernel) rfl, ⟨by decide +kernel, by decide +kernel, by decide +kernel⟩, rfl, rfl⟩
def YX8_comes : fr_Y := (yX8_comes, cX8_comes, 6, none, { frames := 2, cells := 0, slots := 0, locals := 44 })
theorem msX8_comes : fr_mV YX8_comes 1 8 := ⟨⟨_, _, rfl⟩, fr_in (i := 1066) (by decide +kernel) rfl, fr_in (i := 55) (by decide +kernel) rfl, fr_in (i := 83) (by decide +kernel) rfl, fr_in (i := 1067) (by decide +kernel) rfl, ⟨by decide +kernel, by decide +kernel, by decide +kernel⟩, rfl, rfl⟩
def YX8_copies : fr_Y := (yX8_copies, cX8_copies, 5, none, { frames := 0, cells := 0, slots := 0, locals := 0 })
theorem msX8_copies : fr_mS YX8_copies 4 := ⟨fr_in (i := 939) (by decide +kernel) rfl, fr_in (i := 83) (by decide +kernel) rfl, fr_in (i := 940) (by decide +kernel) rfl, ⟨by decide +kernel, by decide +kernel, by decide +kernel⟩, rfl, rfl⟩
def YX8_count : fr_Y := (yX8_count, cX8_count, 2, some .int, { frames := 0, cells := 0, slots := 0, locals := 0 })
theorem msX8_count : fr_mV YX8_count 1 8 := ⟨⟨_, _, rfl⟩, fr_in (i := 1203) (by decide +kernel) rfl, fr_in (i := 1204) (by decide +kernel) rfl, fr_in (i := 83) (by decide +kernel) rfl, fr_in (i := 1205) (by decide +kernel) rfl, ⟨by decide +kernel, by decide +kernel, by decide +kernel⟩, rfl, rfl⟩
def YX8_day : fr_Y := (yX8_day, cX8_day, 4, some .int, { frames := 7, cells := 0, slots := 0, locals := 156 })
theorem msX8_day : fr_mV YX8_day 3 8 := ⟨⟨_, _, rfl⟩, fr_in (i := 1121) (by decide +kernel) rfl, fr_in (i := 1122) (by decide +kernel) rfl, fr_in (i := 83) (by decide +kernel) rfl, fr_in (i := 1123) (by decide +kernel) rfl, ⟨by decide +kernel, by decide +kernel, by decide +kernel⟩, rfl, rfl⟩
def YX8_dayOfDate : fr_Y := (yX8_dayOfDate, cX8_dayOfDate, 3, some .int, { frames := 1, cells := 0, slots := 0, locals := 21 })
theorem msX8_dayOfDate : fr_mV YX8_dayOfDate 2 8 := ⟨⟨_, _, rfl⟩, fr_in (i := 1038) (by decide +kernel) rfl, fr_in (i := 48) (by decide +kernel) rfl, fr_in (i := 83) (by decide +kernel) rfl, fr_in (i := 1039) (by decide +kernel) rfl, ⟨by decide +kernel, by decide +kernel, by decide +kernel⟩, rfl, rfl⟩
def YX8_duties : fr_Y := (yX8_duties, cX8_duties, 4, some .int, { frames := 7, cells := 0, slots := 0, locals := 156 })
theorem msX8_duties : fr_mV YX8_duties 3 8 := ⟨⟨_, _, rfl⟩, fr_in (i := 1157) (by decide +kernel) rfl, fr_in (i := 1158) (by decide +kernel) rfl, fr_in (i := 83) (by decide +kernel) rfl, fr_in (i := 1159) (by decide +kernel) rfl, ⟨by decide +kernel, by decide +kernel, by decide +kernel⟩, rfl, rfl⟩
def YX8_enough : fr_Y := (yX8_enough, cX8_enough, 5, some .int, { frames := 6, cells := 0, slots := 0, locals := 133 })
theorem msX8_enough : fr_mV YX8_enough 2 8 := ⟨⟨_, _, rfl⟩, fr_in (i := 1182) (by decide +kernel) rfl, fr_in (i := 1183) (by decide +kernel) rfl, fr_in (i := 83) (by decide +kernel) rfl, fr_in (i := 1184) (by decide +kernel) rfl, ⟨by decide +kernel, by decide +kernel, by decide +kernel⟩, rfl, rfl⟩
def YX8_fair : fr_Y := (yX8_fair, cX8_fair, 2, some .int, { frames := 6, cells := 0, slots := 0, locals := 133 })
theorem msX8_fair : fr_mV YX8_fair 1 8 := ⟨⟨_, _, rfl⟩, fr_in (i := 1161) (by decide +kernel) rfl, fr_in (i := 1162) (by decide +kernel) rfl, fr_in (i := 83) (by decide +kernel) rfl, fr_in (i := 1163) (by decide +kernel) rfl, ⟨by decide +kernel, by decide +kernel, by decide +kernel⟩, rfl, rfl⟩
def YX8_fault : fr_Y := (yX8_fault, cX8_fault, 1, some .int, { frames := 0, cells := 0, slots := 0, locals := 0 })
theorem msX8_fault : fr_mV YX8_fault 0 8 := ⟨⟨_, _, rfl⟩, fr_in (i := 942) (by decide +kernel) rfl, fr_in (i := 943) (by decide +kernel) rfl, fr_in (i := 83) (by decide +kernel) rfl, fr_in (i := 944) (by decide +kernel) rfl, ⟨by decide +kernel, by decide +kernel, by decide +kernel⟩, rfl, rfl⟩
def YX8_feast : fr_Y := (yX8_feast, cX8_feast, 3, some .int, { frames := 2, cells := 0, slots := 0, locals := 46 })
theorem msX8_feast : fr_mV YX8_feast 2 8 := ⟨⟨_, _, rfl⟩, fr_in (i := 1008) (by decide +kernel) rfl, fr_in (i := 1009) (by decide +kernel) rfl, fr_in (i := 83) (by decide +kernel) rfl, fr_in (i := 1010) (by decide +kernel) rfl, ⟨by decide +kernel, by decide +kernel, by decide +kernel⟩, rfl, rfl⟩
def YX8_feed : fr_Y := (yX8_feed, cX8_feed, 2, some .int, { frames := 1, cells := 0, slots := 0, locals := 25 })
theorem msX8_feed : fr_mV YX8_feed 1 8 := ⟨⟨_, _, rfl⟩, fr_in (i := 870) (by decide +kernel) rfl, fr_in (i := 871) (by decide +kernel) rfl, fr_in (i := 83) (by decide +kernel) rfl, fr_in (i := 872) (by decide +kernel) rfl, ⟨by decide +kernel, by decide +kernel, by decide +kernel⟩, rfl, rfl⟩
def YX8_freeBehind : fr_Y := (yX8_freeBehind, cX8_freeBehind, 4, some .int, { frames := 1, cells := 0, slots := 0, locals := 21 })
theorem msX8_freeBehind : fr_mV YX8_freeBehind 2 8 := ⟨⟨_, _, rfl⟩, fr_in (i := 1078) (by decide +kernel) rfl, fr_in (i := 58) (by decide +kernel) rfl, fr_in (i := 83) (by decide +kernel) rfl, fr_in (i := 1079) (by decide +kernel) rfl, ⟨by decide +kernel, by decide +kernel, by decide +kernel⟩, rfl, rfl⟩
def YX8_goesOn : fr_Y := (yX8_goesOn, cX8_goesOn, 1, none, { frames := 2, cells := 0, slots := 0, locals := 46 })
theorem msX8_goesOn : fr_mV YX8_goesOn 0 8 := ⟨⟨_, _, rfl⟩, fr_in (i := 915) (by decide +kernel) rfl, fr_in (i := 33) (by decide +kernel) rfl, fr_in (i := 83) (by decide +kernel) rfl, fr_in (i := 916) (by decide +kernel) rfl, ⟨by decide +kernel, by decide +kernel, by decide +kernel⟩, rfl, rfl⟩
def YX8_had : fr_Y := (yX8_had, cX8_had, 5, some .boolean, { frames := 0, cells := 0, slots := 0, locals := 0 })
theorem msX8_had : fr_mV YX8_had 2 8 := ⟨⟨_, _, rfl⟩, fr_in (i := 1114) (by decide +kernel) rfl, fr_in (i := 67) (by decide +kernel) rfl, fr_in (i := 83) (by decide +kernel) rfl, fr_in (i := 1115) (by decide +kernel) rfl, ⟨by decide +kernel, by decide +kernel, by decide +kernel⟩, rfl, rfl⟩
def YX8_hasDay : fr_Y := (yX8_hasDay, cX8_hasDay, 4, some .boolean, { frames := 6, cells := 0, slots := 0, locals := 133 })
theorem msX8_hasDay : fr_mV YX8_hasDay 3 8 := ⟨⟨_, _, rfl⟩, fr_in (i := 1126) (by decide +kernel) rfl, fr_in (i := 69) (by decide +kernel) rfl, fr_in (i := 83) (by decide +kernel) rfl, fr_in (i := 1127) (by decide +kernel) rfl, ⟨by decide +kernel, by decide +kernel, by decide +kernel⟩, rfl, rfl⟩
def YX8_held : fr_Y := (yX8_held, cX8_held, 4, some .int, { frames := 6, cells := 0, slots := 0, locals := 133 })
theorem msX8_held : fr_mV YX8_held 3 8 := ⟨⟨_, _, rfl⟩, fr_in (i := 1137) (by decide +kernel) rfl, fr_in (i := 1138) (by decide +kernel) rfl, fr_in (i := 83) (by decide +kernel) rfl, fr_in (i := 1139) (by decide +kernel) rfl, ⟨by decide +kernel, by decide +kernel, by decide +kernel⟩, rfl, rfl⟩
def YX8_holds : fr_Y := (yX8_holds, cX8_holds, 4, none, { frames := 0, cells := 0, slots := 0, locals := 0 })
theorem msX8_holds : fr_mV YX8_holds 3 8 := ⟨⟨_, _, rfl⟩, fr_in (i := 1074) (by decide +kernel) rfl, fr_in (i := 57) (by decide +kernel) rfl, fr_in (i := 83) (by decide +kernel) rfl, fr_in (i := 1075) (by decide +kernel) rfl, ⟨by decide +kernel, by decide +kernel, by decide +kernel⟩, rfl, rfl⟩
def YX8_image : fr_Y := (yX8_image, cX8_image, 2, some .int, { frames := 1, cells := 0, slots := 0, locals := 25 })
theorem msX8_image : fr_mV YX8_image 1 8 := ⟨⟨_, _, rfl⟩, fr_in (i := 1195) (by decide +kernel) rfl, fr_in (i := 1196) (by decide +kernel) rfl, fr_in (i := 83) (by decide +kernel) rfl, fr_in (i := 1197) (by decide +kernel) rfl, ⟨by decide +kernel, by decide +kernel, by decide +kernel⟩, rfl, rfl⟩
def YX8_in : fr_Y := (yX8_in, cX8_in, 6, some .boolean, { frames := 0, cells := 0, slots := 0, locals := 0 })
theorem msX8_in : fr_mS YX8_in 3 := ⟨fr_in (i := 875) (by decide +kernel) rfl, fr_in (i := 83) (by decide +kernel) rfl, fr_in (i := 876) (by decide +kernel) rfl, ⟨by decide +kernel, by decide +kernel, by decide +kernel⟩, rfl, rfl⟩
def YX8_isAhead : fr_Y := (yX8_isAhead, cX8_isAhead, 3, some .boolean, { frames := 1, cells := 0, slots := 0, locals := 22 })
theorem msX8_isAhead : fr_mV YX8_isAhead 2 8 := ⟨⟨_, _, rfl⟩, fr_in (i := 1062) (by decide +kernel) rfl, fr_in (i := 54) (by decide +kernel) rfl, fr_in (i := 83) (by decide +kernel) rfl, fr_in (i := 1063) (by decide +kernel) rfl, ⟨by decide +kernel, by decide +kernel, by decide +kernel⟩, rfl, rfl⟩
def YX8_isAway : fr_Y := (yX8_isAway, cX8_isAway, 3, some .boolean, { frames := 1, cells := 0, slots := 0, locals := 25 })
theorem msX8_isAway : fr_mV YX8_isAway 2 8 := ⟨⟨_, _, rfl⟩, fr_in (i := 1110) (by decide +kernel) rfl, fr_in (i := 66) (by decide +kernel) rfl, fr_in (i := 83) (by decide +kernel) rfl, fr_in (i := 1111) (by decide +kernel) rfl, ⟨by decide +kernel, by decide +kernel, by decide +kernel⟩, rfl, rfl⟩
def YX8_isBetter : fr_Y := (yX8_isBetter, cX8_isBetter, 4, some .boolean, { frames := 0, cells := 0, slots := 0, locals := 0 })
theorem msX8_isBetter : fr_mV YX8_isBetter 3 8 := ⟨⟨_, _, rfl⟩, fr_in (i := 1118) (by decide +kernel) rfl, fr_in (i := 68) (by decide +kernel) rfl, fr_in (i := 83) (by decide +kernel) rfl, fr_in (i := 1119) (by decide +kernel) rfl, ⟨by decide +kernel, by decide +kernel, by decide +kernel⟩, rfl, rfl⟩
def YX8_isBook : fr_Y := (yX8_isBook, cX8_isBook, 1, some .boolean, { frames := 0, cells := 0, slots := 0, locals := 0 })
theorem msX8_isBook : fr_mV YX8_isBook 0 8 := ⟨⟨_, _, rfl⟩, fr_in (i := 984) (by decide +kernel) rfl, fr_in (i := 42) (by decide +kernel) rfl, fr_in (i := 83) (by decide +kernel) rfl, fr_in (i := 985) (by decide +kernel) rfl, ⟨by decide +kernel, by decide +kernel, by decide +kernel⟩, rfl, rfl⟩
def YX8_isChoir : fr_Y := (yX8_isChoir, cX8_isChoir, 2, some .boolean, { frames := 1, cells := 0, slots := 0, locals := 25 })
theorem msX8_isChoir : fr_mV YX8_isChoir 1 8 := ⟨⟨_, _, rfl⟩, fr_in (i := 1004) (by decide +kernel) rfl, fr_in (i := 43) (by decide +kernel) rfl, fr_in (i := 83) (by decide +kernel) rfl, fr_in (i := 1005) (by decide +kernel) rfl, ⟨by decide +kernel, by decide +kernel, by decide +kernel⟩, rfl, rfl⟩
def YX8_isFeast : fr_Y := (yX8_isFeast, cX8_isFeast, 2, some .boolean, { frames := 1, cells := 0, slots := 0, locals := 25 })
theorem msX8_isFeast : fr_mV YX8_isFeast 1 8 := ⟨⟨_, _, rfl⟩, fr_in (i := 956) (by decide +kernel) rfl, fr_in (i := 38) (by decide +kernel) rfl, fr_in (i := 83) (by decide +kernel) rfl, fr_in (i := 957) (by decide +kernel) rfl, ⟨by decide +kernel, by decide +kernel, by decide +kernel⟩, rfl, rfl⟩
def YX8_isFree : fr_Y := (yX8_isFree, cX8_isFree, 2, some .boolean, { frames := 0, cells := 0, slots := 0, locals := 0 })
theorem msX8_isFree : fr_mV YX8_isFree 1 8 := ⟨⟨_, _, rfl⟩, fr_in (i := 1070) (by decide +kernel) rfl, fr_in (i := 56) (by decide +kernel) rfl, fr_in (i := 83) (by decide +kernel) rfl, fr_in (i := 1071) (by decide +kernel) rfl, ⟨by decide +kernel, by decide +kernel, by decide +kernel⟩, rfl, rfl⟩
def YX8_isHeld : fr_Y := (yX8_isHeld, cX8_isHeld, 2, some .boolean, { frames := 0, cells := 0, slots := 0, locals := 0 })
theorem msX8_isHeld : fr_mV YX8_isHeld 1 8 := ⟨⟨_, _, rfl⟩, fr_in (i := 1090) (by decide +kernel) rfl, fr_in (i := 61) (by decide +kernel) rfl, fr_in (i := 83) (by decide +kernel) rfl, fr_in (i := 1091) (by decide +kernel) rfl, ⟨by decide +kernel, by decide +kernel, by decide +kernel⟩, rfl, rfl⟩
def YX8_isLaw : fr_Y := (yX8_isLaw, cX8_isLaw, 2, some .boolean, { frames := 1, cells := 0, slots := 0, locals := 25 })
theorem msX8_isLaw : fr_mS YX8_isLaw 2 := ⟨fr_in (i := 991) (by decide +kernel) rfl, fr_in (i := 83) (by decide +kernel) rfl, fr_in (i := 992) (by decide +kernel) rfl, ⟨by decide +kernel, by decide +kernel, by decide +kernel⟩, rfl, rfl⟩
def YX8_isLeap : fr_Y := (yX8_isLeap, cX8_isLeap, 2, some .boolean, { frames := 0, cells := 0, slots := 0, locals := 0 })
theorem msX8_isLeap : fr_mV YX8_isLeap 1 8 := ⟨⟨_, _, rfl⟩, fr_in (i := 1030) (by decide +kernel) rfl, fr_in (i := 46) (by decide +kernel) rfl, fr_in (i := 83) (by decide +kernel) rfl, fr_in (i := 1031) (by decide +kernel) rfl, ⟨by decide +kernel, by decide +kernel, by decide +kernel⟩, rfl, rfl⟩
def YX8_isLetter : fr_Y := (yX8_isLetter, cX8_isLetter, 2, some .boolean, { frames := 0, cells := 0, slots := 0, locals := 0 })
theorem msX8_isLetter : fr_mV YX8_isLetter 1 8 := ⟨⟨_, _, rfl⟩, fr_in (i := 907) (by decide +kernel) rfl, fr_in (i := 31) (by decide +kernel) rfl, fr_in (i := 83) (by decide +kernel) rfl, fr_in (i := 908) (by decide +kernel) rfl, ⟨by decide +kernel, by decide +kernel, by decide +kernel⟩, rfl, rfl⟩
def YX8_isN : fr_Y := (yX8_isN, cX8_isN, 2, some .boolean, { frames := 1, cells := 0, slots := 0, locals := 25 })
theorem msX8_isN : fr_mS YX8_isN 2 := ⟨fr_in (i := 968) (by decide +kernel) rfl, fr_in (i := 83) (by decide +kernel) rfl, fr_in (i := 969) (by decide +kernel) rfl, ⟨by decide +kernel, by decide +kernel, by decide +kernel⟩, rfl, rfl⟩
def YX8_isYear : fr_Y := (yX8_isYear, cX8_isYear, 1, some .boolean, { frames := 1, cells := 0, slots := 0, locals := 25 })
theorem msX8_isYear : fr_mS YX8_isYear 1 := ⟨fr_in (i := 1016) (by decide +kernel) rfl, fr_in (i := 83) (by decide +kernel) rfl, fr_in (i := 1017) (by decide +kernel) rfl, ⟨by decide +kernel, by decide +kernel, by decide +kernel⟩, rfl, rfl⟩
def YX8_law : fr_Y := (yX8_law, cX8_law, 4, some .int, { frames := 2, cells := 0, slots := 0, locals := 46 })
theorem msX8_law : fr_mV YX8_law 2 8 := ⟨⟨_, _, rfl⟩, fr_in (i := 987) (by decide +kernel) rfl, fr_in (i := 988) (by decide +kernel) rfl, fr_in (i := 83) (by decide +kernel) rfl, fr_in (i := 989) (by decide +kernel) rfl, ⟨by decide +kernel, by decide +kernel, by decide +kernel⟩, rfl, rfl⟩
def YX8_lays : fr_Y := (yX8_lays, cX8_lays, 4, none, { frames := 5, cells := 0, slots := 0, locals := 110 })
theorem msX8_lays : fr_mV YX8_lays 2 8 := ⟨⟨_, _, rfl⟩, fr_in (i := 1022) (by decide +kernel) rfl, fr_in (i := 44) (by decide +kernel) rfl, fr_in (i := 83) (by decide +kernel) rfl, fr_in (i := 1023) (by decide +kernel) rfl, ⟨by decide +kernel, by decide +kernel, by decide +kernel⟩, rfl, rfl⟩
def YX8_laysRota : fr_Y := (yX8_laysRota, cX8_laysRota, 6, none, { frames := 3, cells := 0, slots := 0, locals := 74 })
theorem msX8_laysRota : fr_mV YX8_laysRota 2 8 := ⟨⟨_, _, rfl⟩, fr_in (i := 1094) (by decide +kernel) rfl, fr_in (i := 62) (by decide +kernel) rfl, fr_in (i := 83) (by decide +kernel) rfl, fr_in (i := 1095) (by decide +kernel) rfl, ⟨by decide +kernel, by decide +kernel, by decide +kernel⟩, rfl, rfl⟩
def YX8_letter : fr_Y := (yX8_letter, cX8_letter, 2, none, { frames := 3, cells := 0, slots := 0, locals := 66 })
theorem msX8_letter : fr_mV YX8_letter 1 8 := ⟨⟨_, _, rfl⟩, fr_in (i := 903) (by decide +kernel) rfl, fr_in (i := 30) (by decide +kernel) rfl, fr_in (i := 83) (by decide +kernel) rfl, fr_in (i := 904) (by decide +kernel) rfl, ⟨by decide +kernel, by decide +kernel, by decide +kernel⟩, rfl, rfl⟩
def YX8_manyHeld : fr_Y := (yX8_manyHeld, cX8_manyHeld, 4, some .int, { frames := 1, cells := 0, slots := 0, locals := 21 })
theorem msX8_manyHeld : fr_mV YX8_manyHeld 1 8 := ⟨⟨_, _, rfl⟩, fr_in (i := 1086) (by decide +kernel) rfl, fr_in (i := 60) (by decide +kernel) rfl, fr_in (i := 83) (by decide +kernel) rfl, fr_in (i := 1087) (by decide +kernel) rfl, ⟨by decide +kernel, by decide +kernel, by decide +kernel⟩, rfl, rfl⟩
def YX8_mayBe : fr_Y := (yX8_mayBe, cX8_mayBe, 4, some .boolean, { frames := 2, cells := 0, slots := 0, locals := 46 })
theorem msX8_mayBe : fr_mV YX8_mayBe 3 8 := ⟨⟨_, _, rfl⟩, fr_in (i := 960) (by decide +kernel) rfl, fr_in (i := 39) (by decide +kernel) rfl, fr_in (i := 83) (by decide +kernel) rfl, fr_in (i := 961) (by decide +kernel) rfl, ⟨by decide +kernel, by decide +kernel, by decide +kernel⟩, rfl, rfl⟩
def YX8_meet : fr_Y := (yX8_meet, cX8_meet, 6, some .int, { frames := 5, cells := 0, slots := 0, locals := 110 })
theorem msX8_meet : fr_mV YX8_meet 3 8 := ⟨⟨_, _, rfl⟩, fr_in (i := 1169) (by decide +kernel) rfl, fr_in (i := 1170) (by decide +kernel) rfl, fr_in (i := 83) (by decide +kernel) rfl, fr_in (i := 1171) (by decide +kernel) rfl, ⟨by decide +kernel, by decide +kernel, by decide +kernel⟩, rfl, rfl⟩
def YX8_moon : fr_Y := (yX8_moon, cX8_moon, 2, some .int, { frames := 2, cells := 0, slots := 0, locals := 43 })
theorem msX8_moon : fr_mV YX8_moon 1 8 := ⟨⟨_, _, rfl⟩, fr_in (i := 1054) (by decide +kernel) rfl, fr_in (i := 52) (by decide +kernel) rfl, fr_in (i := 83) (by decide +kernel) rfl, fr_in (i := 1055) (by decide +kernel) rfl, ⟨by decide +kernel, by decide +kernel, by decide +kernel⟩, rfl, rfl⟩
def YX8_nextFeast : fr_Y := (yX8_nextFeast, cX8_nextFeast, 3, some .int, { frames := 2, cells := 0, slots := 0, locals := 44 })
theorem msX8_nextFeast : fr_mV YX8_nextFeast 0 8 := ⟨⟨_, _, rfl⟩, fr_in (i := 1058) (by decide +kernel) rfl, fr_in (i := 53) (by decide +kernel) rfl, fr_in (i := 83) (by decide +kernel) rfl, fr_in (i := 1059) (by decide +kernel) rfl, ⟨by decide +kernel, by decide +kernel, by decide +kernel⟩, rfl, rfl⟩
def YX8_notes : fr_Y := (yX8_notes, cX8_notes, 2, none, { frames := 1, cells := 0, slots := 0, locals := 24 })
theorem msX8_notes : fr_mV YX8_notes 0 8 := ⟨⟨_, _, rfl⟩, fr_in (i := 976) (by decide +kernel) rfl, fr_in (i := 41) (by decide +kernel) rfl, fr_in (i := 83) (by decide +kernel) rfl, fr_in (i := 977) (by decide +kernel) rfl, ⟨by decide +kernel, by decide +kernel, by decide +kernel⟩, rfl, rfl⟩
def YX8_number : fr_Y := (yX8_number, cX8_number, 5, some .int, { frames := 3, cells := 0, slots := 0, locals := 66 })
theorem msX8_number : fr_mV YX8_number 3 8 := ⟨⟨_, _, rfl⟩, fr_in (i := 919) (by decide +kernel) rfl, fr_in (i := 34) (by decide +kernel) rfl, fr_in (i := 83) (by decide +kernel) rfl, fr_in (i := 920) (by decide +kernel) rfl, ⟨by decide +kernel, by decide +kernel, by decide +kernel⟩, rfl, rfl⟩
def YX8_of : fr_Y := (yX8_of, cX8_of, 3, some .int, { frames := 0, cells := 0, slots := 0, locals := 0 })
theorem msX8_of : fr_mV YX8_of 2 8 := ⟨⟨_, _, rfl⟩, fr_in (i := 965) (by decide +kernel) rfl, fr_in (i := 40) (by decide +kernel) rfl, fr_in (i := 83) (by decide +kernel) rfl, fr_in (i := 966) (by decide +kernel) rfl, ⟨by decide +kernel, by decide +kernel, by decide +kernel⟩, rfl, rfl⟩
def YX8_often : fr_Y := (yX8_often, cX8_often, 7, some .int, { frames := 6, cells := 0, slots := 0, locals := 133 })
theorem msX8_often : fr_mV YX8_often 4 8 := ⟨⟨_, _, rfl⟩, fr_in (i := 1177) (by decide +kernel) rfl, fr_in (i := 1178) (by decide +kernel) rfl, fr_in (i := 83) (by decide +kernel) rfl, fr_in (i := 1179) (by decide +kernel) rfl, ⟨by decide +kernel, by decide +kernel, by decide +kernel⟩, rfl, rfl⟩
def YX8_opens : fr_Y := (yX8_opens, cX8_opens, 4, none, { frames := 1, cells := 0, slots := 0, locals := 21 })
theorem msX8_opens : fr_mV YX8_opens 1 8 := ⟨⟨_, _, rfl⟩, fr_in (i := 1026) (by decide +kernel) rfl, fr_in (i := 45) (by decide +kernel) rfl, fr_in (i := 83) (by decide +kernel) rfl, fr_in (i := 1027) (by decide +kernel) rfl, ⟨by decide +kernel, by decide +kernel, by decide +kernel⟩, rfl, rfl⟩
def YX8_ownDay : fr_Y := (yX8_ownDay, cX8_ownDay, 6, some .int, { frames := 4, cells := 0, slots := 0, locals := 85 })
theorem msX8_ownDay : fr_mV YX8_ownDay 2 8 := ⟨⟨_, _, rfl⟩, fr_in (i := 1034) (by decide +kernel) rfl, fr_in (i := 47) (by decide +kernel) rfl, fr_in (i := 83) (by decide +kernel) rfl, fr_in (i := 1035) (by decide +kernel) rfl, ⟨by decide +kernel, by decide +kernel, by decide +kernel⟩, rfl, rfl⟩
def YX8_psalm : fr_Y := (yX8_psalm, cX8_psalm, 5, some .int, { frames := 7, cells := 0, slots := 0, locals := 156 })
theorem msX8_psalm : fr_mV YX8_psalm 3 8 := ⟨⟨_, _, rfl⟩, fr_in (i := 1141) (by decide +kernel) rfl, fr_in (i := 1142) (by decide +kernel) rfl, fr_in (i := 83) (by decide +kernel) rfl, fr_in (i := 1143) (by decide +kernel) rfl, ⟨by decide +kernel, by decide +kernel, by decide +kernel⟩, rfl, rfl⟩
def YX8_puts : fr_Y := (yX8_puts, cX8_puts, 6, none, { frames := 0, cells := 0, slots := 0, locals := 0 })
theorem msX8_puts : fr_mS YX8_puts 5 := ⟨fr_in (i := 931) (by decide +kernel) rfl, fr_in (i := 83) (by decide +kernel) rfl, fr_in (i := 932) (by decide +kernel) rfl, ⟨by decide +kernel, by decide +kernel, by decide +kernel⟩, rfl, rfl⟩
def YX8_rankOf : fr_Y := (yX8_rankOf, cX8_rankOf, 2, some .int, { frames := 1, cells := 0, slots := 0, locals := 22 })
theorem msX8_rankOf : fr_mV YX8_rankOf 1 8 := ⟨⟨_, _, rfl⟩, fr_in (i := 1102) (by decide +kernel) rfl, fr_in (i := 64) (by decide +kernel) rfl, fr_in (i := 83) (by decide +kernel) rfl, fr_in (i := 1103) (by decide +kernel) rfl, ⟨by decide +kernel, by decide +kernel, by decide +kernel⟩, rfl, rfl⟩
def YX8_read : fr_Y := (yX8_read, cX8_read, 7, some .int, { frames := 6, cells := 0, slots := 0, locals := 133 })
theorem msX8_read : fr_mV YX8_read 3 8 := ⟨⟨_, _, rfl⟩, fr_in (i := 1149) (by decide +kernel) rfl, fr_in (i := 1150) (by decide +kernel) rfl, fr_in (i := 83) (by decide +kernel) rfl, fr_in (i := 1151) (by decide +kernel) rfl, ⟨by decide +kernel, by decide +kernel, by decide +kernel⟩, rfl, rfl⟩
def YX8_readings : fr_Y := (yX8_readings, cX8_readings, 4, some .int, { frames := 2, cells := 0, slots := 0, locals := 43 })
theorem msX8_readings : fr_mV YX8_readings 1 8 := ⟨⟨_, _, rfl⟩, fr_in (i := 1146) (by decide +kernel) rfl, fr_in (i := 72) (by decide +kernel) rfl, fr_in (i := 83) (by decide +kernel) rfl, fr_in (i := 1147) (by decide +kernel) rfl, ⟨by decide +kernel, by decide +kernel, by decide +kernel⟩, rfl, rfl⟩
def YX8_reads : fr_Y := (yX8_reads, cX8_reads, 2, none, { frames := 1, cells := 0, slots := 0, locals := 25 })
theorem msX8_reads : fr_mV YX8_reads 0 8 := ⟨⟨_, _, rfl⟩, fr_in (i := 887) (by decide +kernel) rfl, fr_in (i := 27) (by decide +kernel) rfl, fr_in (i := 83) (by decide +kernel) rfl, fr_in (i := 888) (by decide +kernel) rfl, ⟨by decide +kernel, by decide +kernel, by decide +kernel⟩, rfl, rfl⟩
def YX8_readsAll : fr_Y := (yX8_readsAll, cX8_readsAll, 1, none, { frames := 5, cells := 0, slots := 0, locals := 114 })
theorem msX8_readsAll : fr_mV YX8_readsAll 0 8 := ⟨⟨_, _, rfl⟩, fr_in (i := 899) (by decide +kernel) rfl, fr_in (i := 29) (by decide +kernel) rfl, fr_in (i := 83) (by decide +kernel) rfl, fr_in (i := 900) (by decide +kernel) rfl, ⟨by decide +kernel, by decide +kernel, by decide +kernel⟩, rfl, rfl⟩
def YX8_readsFeast : fr_Y := (yX8_readsFeast, cX8_readsFeast, 5, none, { frames := 4, cells := 0, slots := 0, locals := 90 })
theorem msX8_readsFeast : fr_mV YX8_readsFeast 0 8 := ⟨⟨_, _, rfl⟩, fr_in (i := 928) (by decide +kernel) rfl, fr_in (i := 36) (by decide +kernel) rfl, fr_in (i := 83) (by decide +kernel) rfl, fr_in (i := 929) (by decide +kernel) rfl, ⟨by decide +kernel, by decide +kernel, by decide +kernel⟩, rfl, rfl⟩
def YX8_readsSeason : fr_Y := (yX8_readsSeason, cX8_readsSeason, 5, none, { frames := 4, cells := 0, slots := 0, locals := 90 })
theorem msX8_readsSeason : fr_mV YX8_readsSeason 0 8 := ⟨⟨_, _, rfl⟩, fr_in (i := 935) (by decide +kernel) rfl, fr_in (i := 37) (by decide +kernel) rfl, fr_in (i := 83) (by decide +kernel) rfl, fr_in (i := 936) (by decide +kernel) rfl, ⟨by decide +kernel, by decide +kernel, by decide +kernel⟩, rfl, rfl⟩
def YX8_rememberedOn : fr_Y := (yX8_rememberedOn, cX8_rememberedOn, 4, some .int, { frames := 0, cells := 0, slots := 0, locals := 0 })
theorem msX8_rememberedOn : fr_mV YX8_rememberedOn 1 8 := ⟨⟨_, _, rfl⟩, fr_in (i := 1134) (by decide +kernel) rfl, fr_in (i := 71) (by decide +kernel) rfl, fr_in (i := 83) (by decide +kernel) rfl, fr_in (i := 1135) (by decide +kernel) rfl, ⟨by decide +kernel, by decide +kernel, by decide +kernel⟩, rfl, rfl⟩
def YX8_restore : fr_Y := (yX8_restore, cX8_restore, 2, some .int, { frames := 1, cells := 0, slots := 0, locals := 25 })
theorem msX8_restore : fr_mV YX8_restore 1 8 := ⟨⟨_, _, rfl⟩, fr_in (i := 1199) (by decide +kernel) rfl, fr_in (i := 1200) (by decide +kernel) rfl, fr_in (i := 83) (by decide +kernel) rfl, fr_in (i := 1201) (by decide +kernel) rfl, ⟨by decide +kernel, by decide +kernel, by decide +kernel⟩, rfl, rfl⟩
def YX8_servicesOf : fr_Y := (yX8_servicesOf, cX8_servicesOf, 3, some .int, { frames := 2, cells := 0, slots := 0, locals := 43 })
theorem msX8_servicesOf : fr_mV YX8_servicesOf 1 8 := ⟨⟨_, _, rfl⟩, fr_in (i := 1098) (by decide +kernel) rfl, fr_in (i := 63) (by decide +kernel) rfl, fr_in (i := 83) (by decide +kernel) rfl, fr_in (i := 1099) (by decide +kernel) rfl, ⟨by decide +kernel, by decide +kernel, by decide +kernel⟩, rfl, rfl⟩
def YX8_sings : fr_Y := (yX8_sings, cX8_sings, 4, some .int, { frames := 7, cells := 0, slots := 0, locals := 156 })
theorem msX8_sings : fr_mV YX8_sings 3 8 := ⟨⟨_, _, rfl⟩, fr_in (i := 1153) (by decide +kernel) rfl, fr_in (i := 1154) (by decide +kernel) rfl, fr_in (i := 83) (by decide +kernel) rfl, fr_in (i := 1155) (by decide +kernel) rfl, ⟨by decide +kernel, by decide +kernel, by decide +kernel⟩, rfl, rfl⟩
def YX8_sort : fr_Y := (yX8_sort, cX8_sort, 1, some .int, { frames := 1, cells := 0, slots := 0, locals := 21 })
theorem msX8_sort : fr_mV YX8_sort 0 8 := ⟨⟨_, _, rfl⟩, fr_in (i := 923) (by decide +kernel) rfl, fr_in (i := 35) (by decide +kernel) rfl, fr_in (i := 83) (by decide +kernel) rfl, fr_in (i := 924) (by decide +kernel) rfl, ⟨by decide +kernel, by decide +kernel, by decide +kernel⟩, rfl, rfl⟩
def YX8_spring : fr_Y := (yX8_spring, cX8_spring, 2, some .int, { frames := 3, cells := 0, slots := 0, locals := 64 })
theorem msX8_spring : fr_mV YX8_spring 1 8 := ⟨⟨_, _, rfl⟩, fr_in (i := 1050) (by decide +kernel) rfl, fr_in (i := 51) (by decide +kernel) rfl, fr_in (i := 83) (by decide +kernel) rfl, fr_in (i := 1051) (by decide +kernel) rfl, ⟨by decide +kernel, by decide +kernel, by decide +kernel⟩, rfl, rfl⟩
def YX8_springs : fr_Y := (yX8_springs, cX8_springs, 9, some .int, { frames := 4, cells := 0, slots := 0, locals := 85 })
theorem msX8_springs : fr_mV YX8_springs 3 8 := ⟨⟨_, _, rfl⟩, fr_in (i := 1173) (by decide +kernel) rfl, fr_in (i := 1174) (by decide +kernel) rfl, fr_in (i := 83) (by decide +kernel) rfl, fr_in (i := 1175) (by decide +kernel) rfl, ⟨by decide +kernel, by decide +kernel, by decide +kernel⟩, rfl, rfl⟩
def YX8_sunday : fr_Y := (yX8_sunday, cX8_sunday, 2, some .int, { frames := 1, cells := 0, slots := 0, locals := 21 })
theorem msX8_sunday : fr_mV YX8_sunday 1 8 := ⟨⟨_, _, rfl⟩, fr_in (i := 1042) (by decide +kernel) rfl, fr_in (i := 49) (by decide +kernel) rfl, fr_in (i := 83) (by decide +kernel) rfl, fr_in (i := 1043) (by decide +kernel) rfl, ⟨by decide +kernel, by decide +kernel, by decide +kernel⟩, rfl, rfl⟩
def YX8_sundays : fr_Y := (yX8_sundays, cX8_sundays, 3, some .int, { frames := 1, cells := 0, slots := 0, locals := 21 })
theorem msX8_sundays : fr_mV YX8_sundays 0 8 := ⟨⟨_, _, rfl⟩, fr_in (i := 1082) (by decide +kernel) rfl, fr_in (i := 59) (by decide +kernel) rfl, fr_in (i := 83) (by decide +kernel) rfl, fr_in (i := 1083) (by decide +kernel) rfl, ⟨by decide +kernel, by decide +kernel, by decide +kernel⟩, rfl, rfl⟩
def YX8_undo : fr_Y := (yX8_undo, cX8_undo, 1, some .int, { frames := 1, cells := 0, slots := 0, locals := 24 })
theorem msX8_undo : fr_mV YX8_undo 0 8 := ⟨⟨_, _, rfl⟩, fr_in (i := 946) (by decide +kernel) rfl, fr_in (i := 947) (by decide +kernel) rfl, fr_in (i := 83) (by decide +kernel) rfl, fr_in (i := 948) (by decide +kernel) rfl, ⟨by decide +kernel, by decide +kernel, by decide +kernel⟩, rfl, rfl⟩
def YX8_unfair : fr_Y := (yX8_unfair, cX8_unfair, 5, some .int, { frames := 4, cells := 0, slots := 0, locals := 99 })
theorem msX8_unfair : fr_mV YX8_unfair 1 8 := ⟨⟨_, _, rfl⟩, fr_in (i := 1166) (by decide +kernel) rfl, fr_in (i := 73) (by decide +kernel) rfl, fr_in (i := 83) (by decide +kernel) rfl, fr_in (i := 1167) (by decide +kernel) rfl, ⟨by decide +kernel, by decide +kernel, by decide +kernel⟩, rfl, rfl⟩
def YX8_weekdayOf : fr_Y := (yX8_weekdayOf, cX8_weekdayOf, 2, some .int, { frames := 0, cells := 0, slots := 0, locals := 0 })
theorem msX8_weekdayOf : fr_mV YX8_weekdayOf 1 8 := ⟨⟨_, _, rfl⟩, fr_in (i := 1046) (by decide +kernel) rfl, fr_in (i := 50) (by decide +kernel) rfl, fr_in (i := 83) (by decide +kernel) rfl, fr_in (i := 1047) (by decide +kernel) rfl, ⟨by decide +kernel, by decide +kernel, by decide +kernel⟩, rfl, rfl⟩
def YX8_year : fr_Y := (yX8_year, cX8_year, 3, some .int, { frames := 6, cells := 0, slots := 0, locals := 133 })
theorem msX8_year : fr_mV YX8_year 2 8 := ⟨⟨_, _, rfl⟩, fr_in (i := 1012) (by decide +kernel) rfl, fr_in (i := 1013) (by decide +kernel) rfl, fr_in (i := 83) (by decide +kernel) rfl, fr_in (i := 1014) (by decide +kernel) rfl, ⟨by decide +kernel, by decide +kernel, by decide +kernel⟩, rfl, rfl⟩
end
section
theorem fr_wj {Y : fr_Y} {K : fr_K} {pc : Nat} {L L' : List (Option Value)} {M : fr_M} {st : List Value} (k : fr_V Y K pc L' st M) (h : fr_Le L' L) : fr_V Y K pc L st M := fr_wk h k
end
section
theorem dX7_within_0 : decode cX7_within 0 = .ok (.iload_n 1, 1) := by decide +kernel
theorem dX7_within_1 : decode cX7_within 1 = .ok (.iload_n 0, 1) := by decide +kernel
theorem dX7_within_2 : decode cX7_within 2 = .ok (.if_icmp .gt 12, 3) := by decide +kernel
theorem dX7_within_5 : decode cX7_within 5 = .ok (.iload_n 0, 1) := by decide +kernel
theorem dX7_within_6 : decode cX7_within 6 = .ok (.iload_n 2, 1) := by decide +kernel
theorem dX7_within_7 : decode cX7_within 7 = .ok (.if_icmp .gt 7, 3) := by decide +kernel
theorem dX7_within_10 : decode cX7_within 10 = .ok (.iconst 1, 1) := by decide +kernel
theorem dX7_within_11 : decode cX7_within 11 = .ok (.goto 4, 3) := by decide +kernel
theorem dX7_within_14 : decode cX7_within 14 = .ok (.iconst 0, 1) := by decide +kernel
theorem dX7_within_15 : decode cX7_within 15 = .ok (.ireturn, 1) := by decide +kernel
theorem dX6_put_0 : decode cX6_put 0 = .ok (.aload_n 0, 1) := by decide +kernel
theorem dX6_put_1 : decode cX6_put 1 = .ok (.getfield 15, 3) := by decide +kernel
theorem dX6_put_4 : decode cX6_put 4 = .ok (.sipush 160, 3) := by decide +kernel
theorem dX6_put_7 : decode cX6_put 7 = .ok (.if_icmp .lt 5, 3) := by decide +kernel
theorem dX6_put_10 : decode cX6_put 10 = .ok (.iconst 0, 1) := by decide +kernel
theorem dX6_put_11 : decode cX6_put 11 = .ok (.ireturn, 1) := by decide +kernel
theorem dX6_put_12 : decode cX6_put 12 = .ok (.aload_n 0, 1) := by decide +kernel
theorem dX6_put_13 : decode cX6_put 13 = .ok (.getfield 11, 3) := by decide +kernel
theorem dX6_put_16 : decode cX6_put 16 = .ok (.aload_n 0, 1) := by decide +kernel
theorem dX6_put_17 : decode cX6_put 17 = .ok (.getfield 15, 3) := by decide +kernel
theorem dX6_put_20 : decode cX6_put 20 = .ok (.iload_n 1, 1) := by decide +kernel
theorem dX6_put_21 : decode cX6_put 21 = .ok (.iastore, 1) := by decide +kernel
theorem dX6_put_22 : decode cX6_put 22 = .ok (.aload_n 0, 1) := by decide +kernel
theorem dX6_put_23 : decode cX6_put 23 = .ok (.dup, 1) := by decide +kernel
theorem dX6_put_24 : decode cX6_put 24 = .ok (.getfield 15, 3) := by decide +kernel
theorem dX6_put_27 : decode cX6_put 27 = .ok (.iconst 1, 1) := by decide +kernel
theorem dX6_put_28 : decode cX6_put 28 = .ok (.iadd, 1) := by decide +kernel
theorem dX6_put_29 : decode cX6_put 29 = .ok (.putfield 15, 3) := by decide +kernel
theorem dX6_put_32 : decode cX6_put 32 = .ok (.iconst 1, 1) := by decide +kernel
theorem dX6_put_33 : decode cX6_put 33 = .ok (.ireturn, 1) := by decide +kernel
theorem dX7_feed_0 : decode cX7_feed 0 = .ok (.iload_n 1, 1) := by decide +kernel
theorem dX7_feed_1 : decode cX7_feed 1 = .ok (.iconst 0, 1) := by decide +kernel
theorem dX7_feed_2 : decode cX7_feed 2 = .ok (.sipush 255, 3) := by decide +kernel
theorem dX7_feed_5 : decode cX7_feed 5 = .ok (.invokestatic 68, 3) := by decide +kernel
theorem dX7_feed_8 : decode cX7_feed 8 = .ok (.ifCond .ne 6, 3) := by decide +kernel
theorem dX7_feed_11 : decode cX7_feed 11 = .ok (.ldc 72, 2) := by decide +kernel
theorem dX7_feed_13 : decode cX7_feed 13 = .ok (.ireturn, 1) := by decide +kernel
theorem dX7_feed_14 : decode cX7_feed 14 = .ok (.aload_n 0, 1) := by decide +kernel
theorem dX7_feed_15 : decode cX7_feed 15 = .ok (.getfield 23, 3) := by decide +kernel
theorem dX7_feed_18 : decode cX7_feed 18 = .ok (.iload_n 1, 1) := by decide +kernel
theorem dX7_feed_19 : decode cX7_feed 19 = .ok (.invokevirtual 73, 3) := by decide +kernel
theorem dX7_feed_22 : decode cX7_feed 22 = .ok (.ifCond .eq 13, 3) := by decide +kernel
theorem dX7_feed_25 : decode cX7_feed 25 = .ok (.aload_n 0, 1) := by decide +kernel
theorem dX7_feed_26 : decode cX7_feed 26 = .ok (.getfield 23, 3) := by decide +kernel
theorem dX7_feed_29 : decode cX7_feed 29 = .ok (.getfield 77, 3) := by decide +kernel
theorem dX7_feed_32 : decode cX7_feed 32 = .ok (.goto 5, 3) := by decide +kernel
theorem dX7_feed_35 : decode cX7_feed 35 = .ok (.ldc 80, 2) := by decide +kernel
theorem dX7_feed_37 : decode cX7_feed 37 = .ok (.ireturn, 1) := by decide +kernel
theorem dX8_in_0 : decode cX8_in 0 = .ok (.lload_n 0, 1) := by decide +kernel
theorem dX8_in_1 : decode cX8_in 1 = .ok (.lload_n 2, 1) := by decide +kernel
theorem dX8_in_2 : decode cX8_in 2 = .ok (.lcmp, 1) := by decide +kernel
theorem dX8_in_3 : decode cX8_in 3 = .ok (.ifCond .lt 14, 3) := by decide +kernel
theorem dX8_in_6 : decode cX8_in 6 = .ok (.lload_n 0, 1) := by decide +kernel
theorem dX8_in_7 : decode cX8_in 7 = .ok (.lload 4, 2) := by decide +kernel
theorem dX8_in_9 : decode cX8_in 9 = .ok (.lcmp, 1) := by decide +kernel
theorem dX8_in_10 : decode cX8_in 10 = .ok (.ifCond .gt 7, 3) := by decide +kernel
theorem dX8_in_13 : decode cX8_in 13 = .ok (.iconst 1, 1) := by decide +kernel
theorem dX8_in_14 : decode cX8_in 14 = .ok (.goto 4, 3) := by decide +kernel
theorem dX8_in_17 : decode cX8_in 17 = .ok (.iconst 0, 1) := by decide +kernel
theorem dX8_in_18 : decode cX8_in 18 = .ok (.ireturn, 1) := by decide +kernel
theorem dX8_feed_0 : decode cX8_feed 0 = .ok (.iload_n 1, 1) := by decide +kernel
theorem dX8_feed_1 : decode cX8_feed 1 = .ok (.i2l, 1) := by decide +kernel
theorem dX8_feed_2 : decode cX8_feed 2 = .ok (.lconst 0, 1) := by decide +kernel
theorem dX8_feed_3 : decode cX8_feed 3 = .ok (.ldc2_w 207, 3) := by decide +kernel
theorem dX8_feed_6 : decode cX8_feed 6 = .ok (.invokestatic 55, 3) := by decide +kernel
theorem dX8_feed_9 : decode cX8_feed 9 = .ok (.ifCond .ne 6, 3) := by decide +kernel
theorem dX8_feed_12 : decode cX8_feed 12 = .ok (.ldc 209, 2) := by decide +kernel
theorem dX8_feed_14 : decode cX8_feed 14 = .ok (.ireturn, 1) := by decide +kernel
theorem dX8_feed_15 : decode cX8_feed 15 = .ok (.aload_n 0, 1) := by decide +kernel
theorem dX8_feed_16 : decode cX8_feed 16 = .ok (.getfield 152, 3) := by decide +kernel
theorem dX8_feed_19 : decode cX8_feed 19 = .ok (.sipush 160, 3) := by decide +kernel
theorem dX8_feed_22 : decode cX8_feed 22 = .ok (.if_icmp .ne 6, 3) := by decide +kernel
theorem dX8_feed_25 : decode cX8_feed 25 = .ok (.ldc 210, 2) := by decide +kernel
theorem dX8_feed_27 : decode cX8_feed 27 = .ok (.ireturn, 1) := by decide +kernel
theorem dX8_feed_28 : decode cX8_feed 28 = .ok (.aload_n 0, 1) := by decide +kernel
theorem dX8_feed_29 : decode cX8_feed 29 = .ok (.getfield 26, 3) := by decide +kernel
theorem dX8_feed_32 : decode cX8_feed 32 = .ok (.aload_n 0, 1) := by decide +kernel
theorem dX8_feed_33 : decode cX8_feed 33 = .ok (.getfield 152, 3) := by decide +kernel
theorem dX8_feed_36 : decode cX8_feed 36 = .ok (.iload_n 1, 1) := by decide +kernel
theorem dX8_feed_37 : decode cX8_feed 37 = .ok (.iastore, 1) := by decide +kernel
theorem dX8_feed_38 : decode cX8_feed 38 = .ok (.aload_n 0, 1) := by decide +kernel
theorem dX8_feed_39 : decode cX8_feed 39 = .ok (.dup, 1) := by decide +kernel
theorem dX8_feed_40 : decode cX8_feed 40 = .ok (.getfield 152, 3) := by decide +kernel
theorem dX8_feed_43 : decode cX8_feed 43 = .ok (.iconst 1, 1) := by decide +kernel
theorem dX8_feed_44 : decode cX8_feed 44 = .ok (.iadd, 1) := by decide +kernel
theorem dX8_feed_45 : decode cX8_feed 45 = .ok (.putfield 152, 3) := by decide +kernel
theorem dX8_feed_48 : decode cX8_feed 48 = .ok (.aload_n 0, 1) := by decide +kernel
theorem dX8_feed_49 : decode cX8_feed 49 = .ok (.getfield 152, 3) := by decide +kernel
theorem dX8_feed_52 : decode cX8_feed 52 = .ok (.ireturn, 1) := by decide +kernel
theorem dJ7_fill_53178_0 : decode cJ7_fill_53178 0 = .ok (.iconst 0, 1) := by decide +kernel
theorem dJ7_fill_53178_1 : decode cJ7_fill_53178 1 = .ok (.istore_n 2, 1) := by decide +kernel
theorem dJ7_fill_53178_2 : decode cJ7_fill_53178 2 = .ok (.aload_n 0, 1) := by decide +kernel
theorem dJ7_fill_53178_3 : decode cJ7_fill_53178 3 = .ok (.arraylength, 1) := by decide +kernel
theorem dJ7_fill_53178_4 : decode cJ7_fill_53178 4 = .ok (.istore_n 3, 1) := by decide +kernel
theorem dJ7_fill_53178_5 : decode cJ7_fill_53178 5 = .ok (.iload_n 2, 1) := by decide +kernel
theorem dJ7_fill_53178_6 : decode cJ7_fill_53178 6 = .ok (.iload_n 3, 1) := by decide +kernel
theorem dJ7_fill_53178_7 : decode cJ7_fill_53178 7 = .ok (.if_icmp .ge 13, 3) := by decide +kernel
theorem dJ7_fill_53178_10 : decode cJ7_fill_53178 10 = .ok (.aload_n 0, 1) := by decide +kernel
theorem dJ7_fill_53178_11 : decode cJ7_fill_53178 11 = .ok (.iload_n 2, 1) := by decide +kernel
theorem dJ7_fill_53178_12 : decode cJ7_fill_53178 12 = .ok (.iload_n 1, 1) := by decide +kernel
theorem dJ7_fill_53178_13 : decode cJ7_fill_53178 13 = .ok (.iastore, 1) := by decide +kernel
theorem dJ7_fill_53178_14 : decode cJ7_fill_53178 14 = .ok (.iinc 2 1, 3) := by decide +kernel
theorem dJ7_fill_53178_17 : decode cJ7_fill_53178 17 = .ok (.goto (-12), 3) := by decide +kernel
theorem dJ7_fill_53178_20 : decode cJ7_fill_53178 20 = .ok (.return_, 1) := by decide +kernel
theorem dX1_empty_0 : decode cX1_empty 0 = .ok (.aload_n 0, 1) := by decide +kernel
theorem dX1_empty_1 : decode cX1_empty 1 = .ok (.iconst 0, 1) := by decide +kernel
theorem dX1_empty_2 : decode cX1_empty 2 = .ok (.putfield 44, 3) := by decide +kernel
theorem dX1_empty_5 : decode cX1_empty 5 = .ok (.aload_n 0, 1) := by decide +kernel
theorem dX1_empty_6 : decode cX1_empty 6 = .ok (.iconst 0, 1) := by decide +kernel
theorem dX1_empty_7 : decode cX1_empty 7 = .ok (.putfield 48, 3) := by decide +kernel
theorem dX1_empty_10 : decode cX1_empty 10 = .ok (.aload_n 0, 1) := by decide +kernel
theorem dX1_empty_11 : decode cX1_empty 11 = .ok (.iconst 0, 1) := by decide +kernel
theorem dX1_empty_12 : decode cX1_empty 12 = .ok (.putfield 52, 3) := by decide +kernel
theorem dX1_empty_15 : decode cX1_empty 15 = .ok (.aload_n 0, 1) := by decide +kernel
theorem dX1_empty_16 : decode cX1_empty 16 = .ok (.iconst 0, 1) := by decide +kernel
theorem dX1_empty_17 : decode cX1_empty 17 = .ok (.putfield 55, 3) := by decide +kernel
theorem dX1_empty_20 : decode cX1_empty 20 = .ok (.aload_n 0, 1) := by decide +kernel
theorem dX1_empty_21 : decode cX1_empty 21 = .ok (.getfield 27, 3) := by decide +kernel
theorem dX1_empty_24 : decode cX1_empty 24 = .ok (.iconst 1, 1) := by decide +kernel
theorem dX1_empty_25 : decode cX1_empty 25 = .ok (.invokestatic 58, 3) := by decide +kernel
theorem dX1_empty_28 : decode cX1_empty 28 = .ok (.aload_n 0, 1) := by decide +kernel
theorem dX1_empty_29 : decode cX1_empty 29 = .ok (.getfield 30, 3) := by decide +kernel
theorem dX1_empty_32 : decode cX1_empty 32 = .ok (.iconst 0, 1) := by decide +kernel
theorem dX1_empty_33 : decode cX1_empty 33 = .ok (.invokestatic 58, 3) := by decide +kernel
theorem dX1_empty_36 : decode cX1_empty 36 = .ok (.return_, 1) := by decide +kernel
theorem dX6_at_0 : decode cX6_at 0 = .ok (.iconst 0, 1) := by decide +kernel
theorem dX6_at_1 : decode cX6_at 1 = .ok (.iload_n 1, 1) := by decide +kernel
theorem dX6_at_2 : decode cX6_at 2 = .ok (.if_icmp .gt 20, 3) := by decide +kernel
theorem dX6_at_5 : decode cX6_at 5 = .ok (.iload_n 1, 1) := by decide +kernel
theorem dX6_at_6 : decode cX6_at 6 = .ok (.aload_n 0, 1) := by decide +kernel
theorem dX6_at_7 : decode cX6_at 7 = .ok (.getfield 15, 3) := by decide +kernel
theorem dX6_at_10 : decode cX6_at 10 = .ok (.if_icmp .ge 12, 3) := by decide +kernel
theorem dX6_at_13 : decode cX6_at 13 = .ok (.aload_n 0, 1) := by decide +kernel
theorem dX6_at_14 : decode cX6_at 14 = .ok (.getfield 11, 3) := by decide +kernel
theorem dX6_at_17 : decode cX6_at 17 = .ok (.iload_n 1, 1) := by decide +kernel
theorem dX6_at_18 : decode cX6_at 18 = .ok (.iaload, 1) := by decide +kernel
theorem dX6_at_19 : decode cX6_at 19 = .ok (.goto 5, 3) := by decide +kernel
theorem dX6_at_22 : decode cX6_at 22 = .ok (.ldc 19, 2) := by decide +kernel
theorem dX6_at_24 : decode cX6_at 24 = .ok (.ireturn, 1) := by decide +kernel
theorem dX4_fails_0 : decode cX4_fails 0 = .ok (.aload_n 0, 1) := by decide +kernel
theorem dX4_fails_1 : decode cX4_fails 1 = .ok (.iload_n 1, 1) := by decide +kernel
theorem dX4_fails_2 : decode cX4_fails 2 = .ok (.putfield 23, 3) := by decide +kernel
theorem dX4_fails_5 : decode cX4_fails 5 = .ok (.aload_n 0, 1) := by decide +kernel
theorem dX4_fails_6 : decode cX4_fails 6 = .ok (.aload_n 0, 1) := by decide +kernel
theorem dX4_fails_7 : decode cX4_fails 7 = .ok (.getfield 19, 3) := by decide +kernel
theorem dX4_fails_10 : decode cX4_fails 10 = .ok (.putfield 26, 3) := by decide +kernel
theorem dX4_fails_13 : decode cX4_fails 13 = .ok (.iconst 0, 1) := by decide +kernel
theorem dX4_fails_14 : decode cX4_fails 14 = .ok (.ireturn, 1) := by decide +kernel
theorem dX4_sign_0 : decode cX4_sign 0 = .ok (.aload_n 0, 1) := by decide +kernel
theorem dX4_sign_1 : decode cX4_sign 1 = .ok (.getfield 9, 3) := by decide +kernel
theorem dX4_sign_4 : decode cX4_sign 4 = .ok (.aload_n 0, 1) := by decide +kernel
theorem dX4_sign_5 : decode cX4_sign 5 = .ok (.getfield 19, 3) := by decide +kernel
theorem dX4_sign_8 : decode cX4_sign 8 = .ok (.invokevirtual 61, 3) := by decide +kernel
theorem dX4_sign_11 : decode cX4_sign 11 = .ok (.iload_n 1, 1) := by decide +kernel
theorem dX4_sign_12 : decode cX4_sign 12 = .ok (.if_icmp .eq 9, 3) := by decide +kernel
theorem dX4_sign_15 : decode cX4_sign 15 = .ok (.aload_n 0, 1) := by decide +kernel
theorem dX4_sign_16 : decode cX4_sign 16 = .ok (.iconst 1, 1) := by decide +kernel
theorem dX4_sign_17 : decode cX4_sign 17 = .ok (.invokevirtual 72, 3) := by decide +kernel
theorem dX4_sign_20 : decode cX4_sign 20 = .ok (.ireturn, 1) := by decide +kernel
theorem dX4_sign_21 : decode cX4_sign 21 = .ok (.aload_n 0, 1) := by decide +kernel
theorem dX4_sign_22 : decode cX4_sign 22 = .ok (.dup, 1) := by decide +kernel
theorem dX4_sign_23 : decode cX4_sign 23 = .ok (.getfield 19, 3) := by decide +kernel
theorem dX4_sign_26 : decode cX4_sign 26 = .ok (.iconst 1, 1) := by decide +kernel
theorem dX4_sign_27 : decode cX4_sign 27 = .ok (.iadd, 1) := by decide +kernel
theorem dX4_sign_28 : decode cX4_sign 28 = .ok (.putfield 19, 3) := by decide +kernel
theorem dX4_sign_31 : decode cX4_sign 31 = .ok (.iconst 1, 1) := by decide +kernel
theorem dX4_sign_32 : decode cX4_sign 32 = .ok (.ireturn, 1) := by decide +kernel
theorem dX4_bareNumber_0 : decode cX4_bareNumber 0 = .ok (.iconst 0, 1) := by decide +kernel
theorem dX4_bareNumber_1 : decode cX4_bareNumber 1 = .ok (.istore_n 3, 1) := by decide +kernel
theorem dX4_bareNumber_2 : decode cX4_bareNumber 2 = .ok (.iconst 0, 1) := by decide +kernel
theorem dX4_bareNumber_3 : decode cX4_bareNumber 3 = .ok (.istore 4, 2) := by decide +kernel
theorem dX4_bareNumber_5 : decode cX4_bareNumber 5 = .ok (.iload_n 3, 1) := by decide +kernel
theorem dX4_bareNumber_6 : decode cX4_bareNumber 6 = .ok (.iconst 4, 1) := by decide +kernel
theorem dX4_bareNumber_7 : decode cX4_bareNumber 7 = .ok (.if_icmp .ge 56, 3) := by decide +kernel
theorem dX4_bareNumber_10 : decode cX4_bareNumber 10 = .ok (.aload_n 0, 1) := by decide +kernel
theorem dX4_bareNumber_11 : decode cX4_bareNumber 11 = .ok (.getfield 9, 3) := by decide +kernel
theorem dX4_bareNumber_14 : decode cX4_bareNumber 14 = .ok (.aload_n 0, 1) := by decide +kernel
theorem dX4_bareNumber_15 : decode cX4_bareNumber 15 = .ok (.getfield 19, 3) := by decide +kernel
theorem dX4_bareNumber_18 : decode cX4_bareNumber 18 = .ok (.iload_n 3, 1) := by decide +kernel
theorem dX4_bareNumber_19 : decode cX4_bareNumber 19 = .ok (.iadd, 1) := by decide +kernel
theorem dX4_bareNumber_20 : decode cX4_bareNumber 20 = .ok (.invokevirtual 61, 3) := by decide +kernel
theorem dX4_bareNumber_23 : decode cX4_bareNumber 23 = .ok (.bipush 48, 2) := by decide +kernel
theorem dX4_bareNumber_25 : decode cX4_bareNumber 25 = .ok (.bipush 57, 2) := by decide +kernel
theorem dX4_bareNumber_27 : decode cX4_bareNumber 27 = .ok (.invokestatic 112, 3) := by decide +kernel
theorem dX4_bareNumber_30 : decode cX4_bareNumber 30 = .ok (.ifCond .eq 33, 3) := by decide +kernel
theorem dX4_bareNumber_33 : decode cX4_bareNumber 33 = .ok (.iload 4, 2) := by decide +kernel
theorem dX4_bareNumber_35 : decode cX4_bareNumber 35 = .ok (.bipush 10, 2) := by decide +kernel
theorem dX4_bareNumber_37 : decode cX4_bareNumber 37 = .ok (.imul, 1) := by decide +kernel
theorem dX4_bareNumber_38 : decode cX4_bareNumber 38 = .ok (.aload_n 0, 1) := by decide +kernel
theorem dX4_bareNumber_39 : decode cX4_bareNumber 39 = .ok (.getfield 9, 3) := by decide +kernel
theorem dX4_bareNumber_42 : decode cX4_bareNumber 42 = .ok (.aload_n 0, 1) := by decide +kernel
theorem dX4_bareNumber_43 : decode cX4_bareNumber 43 = .ok (.getfield 19, 3) := by decide +kernel
theorem dX4_bareNumber_46 : decode cX4_bareNumber 46 = .ok (.iload_n 3, 1) := by decide +kernel
theorem dX4_bareNumber_47 : decode cX4_bareNumber 47 = .ok (.iadd, 1) := by decide +kernel
theorem dX4_bareNumber_48 : decode cX4_bareNumber 48 = .ok (.invokevirtual 61, 3) := by decide +kernel
theorem dX4_bareNumber_51 : decode cX4_bareNumber 51 = .ok (.iadd, 1) := by decide +kernel
theorem dX4_bareNumber_52 : decode cX4_bareNumber 52 = .ok (.bipush 48, 2) := by decide +kernel
theorem dX4_bareNumber_54 : decode cX4_bareNumber 54 = .ok (.isub, 1) := by decide +kernel
theorem dX4_bareNumber_55 : decode cX4_bareNumber 55 = .ok (.istore 4, 2) := by decide +kernel
theorem dX4_bareNumber_57 : decode cX4_bareNumber 57 = .ok (.iinc 3 1, 3) := by decide +kernel
theorem dX4_bareNumber_60 : decode cX4_bareNumber 60 = .ok (.goto (-55), 3) := by decide +kernel
theorem dX4_bareNumber_63 : decode cX4_bareNumber 63 = .ok (.iload_n 3, 1) := by decide +kernel
theorem dX4_bareNumber_64 : decode cX4_bareNumber 64 = .ok (.ifCond .eq 8, 3) := by decide +kernel
theorem dX4_bareNumber_67 : decode cX4_bareNumber 67 = .ok (.iload_n 3, 1) := by decide +kernel
theorem dX4_bareNumber_68 : decode cX4_bareNumber 68 = .ok (.iconst 3, 1) := by decide +kernel
theorem dX4_bareNumber_69 : decode cX4_bareNumber 69 = .ok (.if_icmp .le 9, 3) := by decide +kernel
theorem dX4_bareNumber_72 : decode cX4_bareNumber 72 = .ok (.aload_n 0, 1) := by decide +kernel
theorem dX4_bareNumber_73 : decode cX4_bareNumber 73 = .ok (.iconst 1, 1) := by decide +kernel
theorem dX4_bareNumber_74 : decode cX4_bareNumber 74 = .ok (.invokevirtual 72, 3) := by decide +kernel
theorem dX4_bareNumber_77 : decode cX4_bareNumber 77 = .ok (.ireturn, 1) := by decide +kernel
theorem dX4_bareNumber_78 : decode cX4_bareNumber 78 = .ok (.iload 4, 2) := by decide +kernel
theorem dX4_bareNumber_80 : decode cX4_bareNumber 80 = .ok (.iload_n 1, 1) := by decide +kernel
theorem dX4_bareNumber_81 : decode cX4_bareNumber 81 = .ok (.iload_n 2, 1) := by decide +kernel
theorem dX4_bareNumber_82 : decode cX4_bareNumber 82 = .ok (.invokestatic 112, 3) := by decide +kernel
theorem dX4_bareNumber_85 : decode cX4_bareNumber 85 = .ok (.ifCond .ne 9, 3) := by decide +kernel
theorem dX4_bareNumber_88 : decode cX4_bareNumber 88 = .ok (.aload_n 0, 1) := by decide +kernel
theorem dX4_bareNumber_89 : decode cX4_bareNumber 89 = .ok (.iconst 2, 1) := by decide +kernel
theorem dX4_bareNumber_90 : decode cX4_bareNumber 90 = .ok (.invokevirtual 72, 3) := by decide +kernel
theorem dX4_bareNumber_93 : decode cX4_bareNumber 93 = .ok (.ireturn, 1) := by decide +kernel
theorem dX4_bareNumber_94 : decode cX4_bareNumber 94 = .ok (.aload_n 0, 1) := by decide +kernel
theorem dX4_bareNumber_95 : decode cX4_bareNumber 95 = .ok (.iload 4, 2) := by decide +kernel
theorem dX4_bareNumber_97 : decode cX4_bareNumber 97 = .ok (.putfield 88, 3) := by decide +kernel
theorem dX4_bareNumber_100 : decode cX4_bareNumber 100 = .ok (.aload_n 0, 1) := by decide +kernel
theorem dX4_bareNumber_101 : decode cX4_bareNumber 101 = .ok (.dup, 1) := by decide +kernel
theorem dX4_bareNumber_102 : decode cX4_bareNumber 102 = .ok (.getfield 19, 3) := by decide +kernel
theorem dX4_bareNumber_105 : decode cX4_bareNumber 105 = .ok (.iload_n 3, 1) := by decide +kernel
theorem dX4_bareNumber_106 : decode cX4_bareNumber 106 = .ok (.iadd, 1) := by decide +kernel
theorem dX4_bareNumber_107 : decode cX4_bareNumber 107 = .ok (.putfield 19, 3) := by decide +kernel
theorem dX4_bareNumber_110 : decode cX4_bareNumber 110 = .ok (.iconst 1, 1) := by decide +kernel
theorem dX4_bareNumber_111 : decode cX4_bareNumber 111 = .ok (.ireturn, 1) := by decide +kernel
theorem dX4_number_0 : decode cX4_number 0 = .ok (.aload_n 0, 1) := by decide +kernel
theorem dX4_number_1 : decode cX4_number 1 = .ok (.iload_n 1, 1) := by decide +kernel
theorem dX4_number_2 : decode cX4_number 2 = .ok (.iload_n 2, 1) := by decide +kernel
theorem dX4_number_3 : decode cX4_number 3 = .ok (.invokevirtual 100, 3) := by decide +kernel
theorem dX4_number_6 : decode cX4_number 6 = .ok (.ifCond .eq 15, 3) := by decide +kernel
theorem dX4_number_9 : decode cX4_number 9 = .ok (.aload_n 0, 1) := by decide +kernel
theorem dX4_number_10 : decode cX4_number 10 = .ok (.iload_n 3, 1) := by decide +kernel
theorem dX4_number_11 : decode cX4_number 11 = .ok (.invokevirtual 53, 3) := by decide +kernel
theorem dX4_number_14 : decode cX4_number 14 = .ok (.ifCond .eq 7, 3) := by decide +kernel
theorem dX4_number_17 : decode cX4_number 17 = .ok (.iconst 1, 1) := by decide +kernel
theorem dX4_number_18 : decode cX4_number 18 = .ok (.goto 4, 3) := by decide +kernel
theorem dX4_number_21 : decode cX4_number 21 = .ok (.iconst 0, 1) := by decide +kernel
theorem dX4_number_22 : decode cX4_number 22 = .ok (.ireturn, 1) := by decide +kernel
theorem dX4_lawNumber_0 : decode cX4_lawNumber 0 = .ok (.iload_n 1, 1) := by decide +kernel
theorem dX4_lawNumber_1 : decode cX4_lawNumber 1 = .ok (.iconst 0, 1) := by decide +kernel
theorem dX4_lawNumber_2 : decode cX4_lawNumber 2 = .ok (.iconst 5, 1) := by decide +kernel
theorem dX4_lawNumber_3 : decode cX4_lawNumber 3 = .ok (.invokestatic 112, 3) := by decide +kernel
theorem dX4_lawNumber_6 : decode cX4_lawNumber 6 = .ok (.ifCond .eq 21, 3) := by decide +kernel
theorem dX4_lawNumber_9 : decode cX4_lawNumber 9 = .ok (.aload_n 0, 1) := by decide +kernel
theorem dX4_lawNumber_10 : decode cX4_lawNumber 10 = .ok (.getstatic 115, 3) := by decide +kernel
theorem dX4_lawNumber_13 : decode cX4_lawNumber 13 = .ok (.iload_n 1, 1) := by decide +kernel
theorem dX4_lawNumber_14 : decode cX4_lawNumber 14 = .ok (.iaload, 1) := by decide +kernel
theorem dX4_lawNumber_15 : decode cX4_lawNumber 15 = .ok (.getstatic 119, 3) := by decide +kernel
theorem dX4_lawNumber_18 : decode cX4_lawNumber 18 = .ok (.iload_n 1, 1) := by decide +kernel
theorem dX4_lawNumber_19 : decode cX4_lawNumber 19 = .ok (.iaload, 1) := by decide +kernel
theorem dX4_lawNumber_20 : decode cX4_lawNumber 20 = .ok (.iload_n 2, 1) := by decide +kernel
theorem dX4_lawNumber_21 : decode cX4_lawNumber 21 = .ok (.invokevirtual 84, 3) := by decide +kernel
theorem dX4_lawNumber_24 : decode cX4_lawNumber 24 = .ok (.ifCond .ne 5, 3) := by decide +kernel
theorem dX4_lawNumber_27 : decode cX4_lawNumber 27 = .ok (.iconst 0, 1) := by decide +kernel
theorem dX4_lawNumber_28 : decode cX4_lawNumber 28 = .ok (.ireturn, 1) := by decide +kernel
theorem dX4_lawNumber_29 : decode cX4_lawNumber 29 = .ok (.aload_n 0, 1) := by decide +kernel
theorem dX4_lawNumber_30 : decode cX4_lawNumber 30 = .ok (.getfield 15, 3) := by decide +kernel
theorem dX4_lawNumber_33 : decode cX4_lawNumber 33 = .ok (.getfield 122, 3) := by decide +kernel
theorem dX4_lawNumber_36 : decode cX4_lawNumber 36 = .ok (.iload_n 1, 1) := by decide +kernel
theorem dX4_lawNumber_37 : decode cX4_lawNumber 37 = .ok (.aload_n 0, 1) := by decide +kernel
theorem dX4_lawNumber_38 : decode cX4_lawNumber 38 = .ok (.getfield 88, 3) := by decide +kernel
theorem dX4_lawNumber_41 : decode cX4_lawNumber 41 = .ok (.iastore, 1) := by decide +kernel
theorem dX4_lawNumber_42 : decode cX4_lawNumber 42 = .ok (.iconst 1, 1) := by decide +kernel
theorem dX4_lawNumber_43 : decode cX4_lawNumber 43 = .ok (.ireturn, 1) := by decide +kernel
theorem dX4_head_0 : decode cX4_head 0 = .ok (.aload_n 0, 1) := by decide +kernel
theorem dX4_head_1 : decode cX4_head 1 = .ok (.bipush 107, 2) := by decide +kernel
theorem dX4_head_3 : decode cX4_head 3 = .ok (.invokevirtual 53, 3) := by decide +kernel
theorem dX4_head_6 : decode cX4_head 6 = .ok (.ifCond .eq 37, 3) := by decide +kernel
theorem dX4_head_9 : decode cX4_head 9 = .ok (.aload_n 0, 1) := by decide +kernel
theorem dX4_head_10 : decode cX4_head 10 = .ok (.iconst 0, 1) := by decide +kernel
theorem dX4_head_11 : decode cX4_head 11 = .ok (.bipush 44, 2) := by decide +kernel
theorem dX4_head_13 : decode cX4_head 13 = .ok (.invokevirtual 57, 3) := by decide +kernel
theorem dX4_head_16 : decode cX4_head 16 = .ok (.ifCond .eq 27, 3) := by decide +kernel
theorem dX4_head_19 : decode cX4_head 19 = .ok (.aload_n 0, 1) := by decide +kernel
theorem dX4_head_20 : decode cX4_head 20 = .ok (.iconst 1, 1) := by decide +kernel
theorem dX4_head_21 : decode cX4_head 21 = .ok (.bipush 44, 2) := by decide +kernel
theorem dX4_head_23 : decode cX4_head 23 = .ok (.invokevirtual 57, 3) := by decide +kernel
theorem dX4_head_26 : decode cX4_head 26 = .ok (.ifCond .eq 17, 3) := by decide +kernel
theorem dX4_head_29 : decode cX4_head 29 = .ok (.aload_n 0, 1) := by decide +kernel
theorem dX4_head_30 : decode cX4_head 30 = .ok (.iconst 2, 1) := by decide +kernel
theorem dX4_head_31 : decode cX4_head 31 = .ok (.bipush 59, 2) := by decide +kernel
theorem dX4_head_33 : decode cX4_head 33 = .ok (.invokevirtual 57, 3) := by decide +kernel
theorem dX4_head_36 : decode cX4_head 36 = .ok (.ifCond .eq 7, 3) := by decide +kernel
theorem dX4_head_39 : decode cX4_head 39 = .ok (.iconst 1, 1) := by decide +kernel
theorem dX4_head_40 : decode cX4_head 40 = .ok (.goto 4, 3) := by decide +kernel
theorem dX4_head_43 : decode cX4_head 43 = .ok (.iconst 0, 1) := by decide +kernel
theorem dX4_head_44 : decode cX4_head 44 = .ok (.ireturn, 1) := by decide +kernel
theorem dX4_kindOf_0 : decode cX4_kindOf 0 = .ok (.iload_n 0, 1) := by decide +kernel
theorem dX4_kindOf_1 : decode cX4_kindOf 1 = .ok (.lookupswitch 51 #[(98, 43), (100, 49), (102, 45), (110, 47)], 43) := by decide +kernel
theorem dX4_kindOf_44 : decode cX4_kindOf 44 = .ok (.iconst 0, 1) := by decide +kernel
theorem dX4_kindOf_45 : decode cX4_kindOf 45 = .ok (.ireturn, 1) := by decide +kernel
theorem dX4_kindOf_46 : decode cX4_kindOf 46 = .ok (.iconst 1, 1) := by decide +kernel
theorem dX4_kindOf_47 : decode cX4_kindOf 47 = .ok (.ireturn, 1) := by decide +kernel
theorem dX4_kindOf_48 : decode cX4_kindOf 48 = .ok (.iconst 2, 1) := by decide +kernel
theorem dX4_kindOf_49 : decode cX4_kindOf 49 = .ok (.ireturn, 1) := by decide +kernel
theorem dX4_kindOf_50 : decode cX4_kindOf 50 = .ok (.iconst 3, 1) := by decide +kernel
theorem dX4_kindOf_51 : decode cX4_kindOf 51 = .ok (.ireturn, 1) := by decide +kernel
theorem dX4_kindOf_52 : decode cX4_kindOf 52 = .ok (.ldc 69, 2) := by decide +kernel
theorem dX4_kindOf_54 : decode cX4_kindOf 54 = .ok (.ireturn, 1) := by decide +kernel
theorem dX1_leastN_0 : decode cX1_leastN 0 = .ok (.iload_n 0, 1) := by decide +kernel
theorem dX1_leastN_1 : decode cX1_leastN 1 = .ok (.ifCond .eq 8, 3) := by decide +kernel
theorem dX1_leastN_4 : decode cX1_leastN 4 = .ok (.iload_n 0, 1) := by decide +kernel
theorem dX1_leastN_5 : decode cX1_leastN 5 = .ok (.iconst 1, 1) := by decide +kernel
theorem dX1_leastN_6 : decode cX1_leastN 6 = .ok (.if_icmp .ne 7, 3) := by decide +kernel
theorem dX1_leastN_9 : decode cX1_leastN 9 = .ok (.iconst 0, 1) := by decide +kernel
theorem dX1_leastN_10 : decode cX1_leastN 10 = .ok (.goto 4, 3) := by decide +kernel
theorem dX1_leastN_13 : decode cX1_leastN 13 = .ok (.iconst 1, 1) := by decide +kernel
theorem dX1_leastN_14 : decode cX1_leastN 14 = .ok (.ireturn, 1) := by decide +kernel
theorem dX1_greatestN_0 : decode cX1_greatestN 0 = .ok (.iload_n 0, 1) := by decide +kernel
theorem dX1_greatestN_1 : decode cX1_greatestN 1 = .ok (.ifCond .eq 8, 3) := by decide +kernel
theorem dX1_greatestN_4 : decode cX1_greatestN 4 = .ok (.iload_n 0, 1) := by decide +kernel
theorem dX1_greatestN_5 : decode cX1_greatestN 5 = .ok (.iconst 1, 1) := by decide +kernel
theorem dX1_greatestN_6 : decode cX1_greatestN 6 = .ok (.if_icmp .ne 8, 3) := by decide +kernel
theorem dX1_greatestN_9 : decode cX1_greatestN 9 = .ok (.bipush 99, 2) := by decide +kernel
theorem dX1_greatestN_11 : decode cX1_greatestN 11 = .ok (.goto 6, 3) := by decide +kernel
theorem dX1_greatestN_14 : decode cX1_greatestN 14 = .ok (.sipush 365, 3) := by decide +kernel
theorem dX1_greatestN_17 : decode cX1_greatestN 17 = .ok (.ireturn, 1) := by decide +kernel
theorem dX1_tellFeast_0 : decode cX1_tellFeast 0 = .ok (.aload_n 0, 1) := by decide +kernel
theorem dX1_tellFeast_1 : decode cX1_tellFeast 1 = .ok (.getfield 48, 3) := by decide +kernel
theorem dX1_tellFeast_4 : decode cX1_tellFeast 4 = .ok (.bipush 12, 2) := by decide +kernel
theorem dX1_tellFeast_6 : decode cX1_tellFeast 6 = .ok (.if_icmp .lt 4, 3) := by decide +kernel
theorem dX1_tellFeast_9 : decode cX1_tellFeast 9 = .ok (.return_, 1) := by decide +kernel
theorem dX1_tellFeast_10 : decode cX1_tellFeast 10 = .ok (.aload_n 0, 1) := by decide +kernel
theorem dX1_tellFeast_11 : decode cX1_tellFeast 11 = .ok (.getfield 48, 3) := by decide +kernel
theorem dX1_tellFeast_14 : decode cX1_tellFeast 14 = .ok (.iconst 4, 1) := by decide +kernel
theorem dX1_tellFeast_15 : decode cX1_tellFeast 15 = .ok (.imul, 1) := by decide +kernel
theorem dX1_tellFeast_16 : decode cX1_tellFeast 16 = .ok (.istore 5, 2) := by decide +kernel
theorem dX1_tellFeast_18 : decode cX1_tellFeast 18 = .ok (.aload_n 0, 1) := by decide +kernel
theorem dX1_tellFeast_19 : decode cX1_tellFeast 19 = .ok (.getfield 15, 3) := by decide +kernel
theorem dX1_tellFeast_22 : decode cX1_tellFeast 22 = .ok (.iload 5, 2) := by decide +kernel
theorem dX1_tellFeast_24 : decode cX1_tellFeast 24 = .ok (.iconst 0, 1) := by decide +kernel
theorem dX1_tellFeast_25 : decode cX1_tellFeast 25 = .ok (.iadd, 1) := by decide +kernel
theorem dX1_tellFeast_26 : decode cX1_tellFeast 26 = .ok (.iload_n 1, 1) := by decide +kernel
theorem dX1_tellFeast_27 : decode cX1_tellFeast 27 = .ok (.iastore, 1) := by decide +kernel
theorem dX1_tellFeast_28 : decode cX1_tellFeast 28 = .ok (.aload_n 0, 1) := by decide +kernel
theorem dX1_tellFeast_29 : decode cX1_tellFeast 29 = .ok (.getfield 15, 3) := by decide +kernel
theorem dX1_tellFeast_32 : decode cX1_tellFeast 32 = .ok (.iload 5, 2) := by decide +kernel
theorem dX1_tellFeast_34 : decode cX1_tellFeast 34 = .ok (.iconst 1, 1) := by decide +kernel
theorem dX1_tellFeast_35 : decode cX1_tellFeast 35 = .ok (.iadd, 1) := by decide +kernel
theorem dX1_tellFeast_36 : decode cX1_tellFeast 36 = .ok (.iload_n 2, 1) := by decide +kernel
theorem dX1_tellFeast_37 : decode cX1_tellFeast 37 = .ok (.iastore, 1) := by decide +kernel
theorem dX1_tellFeast_38 : decode cX1_tellFeast 38 = .ok (.aload_n 0, 1) := by decide +kernel
theorem dX1_tellFeast_39 : decode cX1_tellFeast 39 = .ok (.getfield 15, 3) := by decide +kernel
theorem dX1_tellFeast_42 : decode cX1_tellFeast 42 = .ok (.iload 5, 2) := by decide +kernel
theorem dX1_tellFeast_44 : decode cX1_tellFeast 44 = .ok (.iconst 2, 1) := by decide +kernel
theorem dX1_tellFeast_45 : decode cX1_tellFeast 45 = .ok (.iadd, 1) := by decide +kernel
theorem dX1_tellFeast_46 : decode cX1_tellFeast 46 = .ok (.iload_n 3, 1) := by decide +kernel
theorem dX1_tellFeast_47 : decode cX1_tellFeast 47 = .ok (.iastore, 1) := by decide +kernel
theorem dX1_tellFeast_48 : decode cX1_tellFeast 48 = .ok (.aload_n 0, 1) := by decide +kernel
theorem dX1_tellFeast_49 : decode cX1_tellFeast 49 = .ok (.getfield 15, 3) := by decide +kernel
theorem dX1_tellFeast_52 : decode cX1_tellFeast 52 = .ok (.iload 5, 2) := by decide +kernel
theorem dX1_tellFeast_54 : decode cX1_tellFeast 54 = .ok (.iconst 3, 1) := by decide +kernel
theorem dX1_tellFeast_55 : decode cX1_tellFeast 55 = .ok (.iadd, 1) := by decide +kernel
theorem dX1_tellFeast_56 : decode cX1_tellFeast 56 = .ok (.iload 4, 2) := by decide +kernel
theorem dX1_tellFeast_58 : decode cX1_tellFeast 58 = .ok (.iastore, 1) := by decide +kernel
theorem dX1_tellFeast_59 : decode cX1_tellFeast 59 = .ok (.aload_n 0, 1) := by decide +kernel
theorem dX1_tellFeast_60 : decode cX1_tellFeast 60 = .ok (.dup, 1) := by decide +kernel
theorem dX1_tellFeast_61 : decode cX1_tellFeast 61 = .ok (.getfield 48, 3) := by decide +kernel
theorem dX1_tellFeast_64 : decode cX1_tellFeast 64 = .ok (.iconst 1, 1) := by decide +kernel
theorem dX1_tellFeast_65 : decode cX1_tellFeast 65 = .ok (.iadd, 1) := by decide +kernel
theorem dX1_tellFeast_66 : decode cX1_tellFeast 66 = .ok (.putfield 48, 3) := by decide +kernel
theorem dX1_tellFeast_69 : decode cX1_tellFeast 69 = .ok (.return_, 1) := by decide +kernel
theorem dX4_oneFeast_0 : decode cX4_oneFeast 0 = .ok (.aload_n 0, 1) := by decide +kernel
theorem dX4_oneFeast_1 : decode cX4_oneFeast 1 = .ok (.dup, 1) := by decide +kernel
theorem dX4_oneFeast_2 : decode cX4_oneFeast 2 = .ok (.getfield 19, 3) := by decide +kernel
theorem dX4_oneFeast_5 : decode cX4_oneFeast 5 = .ok (.iconst 1, 1) := by decide +kernel
theorem dX4_oneFeast_6 : decode cX4_oneFeast 6 = .ok (.iadd, 1) := by decide +kernel
theorem dX4_oneFeast_7 : decode cX4_oneFeast 7 = .ok (.putfield 19, 3) := by decide +kernel
theorem dX4_oneFeast_10 : decode cX4_oneFeast 10 = .ok (.aload_n 0, 1) := by decide +kernel
theorem dX4_oneFeast_11 : decode cX4_oneFeast 11 = .ok (.iload_n 1, 1) := by decide +kernel
theorem dX4_oneFeast_12 : decode cX4_oneFeast 12 = .ok (.invokestatic 78, 3) := by decide +kernel
theorem dX4_oneFeast_15 : decode cX4_oneFeast 15 = .ok (.iload_n 1, 1) := by decide +kernel
theorem dX4_oneFeast_16 : decode cX4_oneFeast 16 = .ok (.invokestatic 81, 3) := by decide +kernel
theorem dX4_oneFeast_19 : decode cX4_oneFeast 19 = .ok (.bipush 44, 2) := by decide +kernel
theorem dX4_oneFeast_21 : decode cX4_oneFeast 21 = .ok (.invokevirtual 84, 3) := by decide +kernel
theorem dX4_oneFeast_24 : decode cX4_oneFeast 24 = .ok (.ifCond .ne 5, 3) := by decide +kernel
theorem dX4_oneFeast_27 : decode cX4_oneFeast 27 = .ok (.iconst 0, 1) := by decide +kernel
theorem dX4_oneFeast_28 : decode cX4_oneFeast 28 = .ok (.ireturn, 1) := by decide +kernel
theorem dX4_oneFeast_29 : decode cX4_oneFeast 29 = .ok (.aload_n 0, 1) := by decide +kernel
theorem dX4_oneFeast_30 : decode cX4_oneFeast 30 = .ok (.getfield 88, 3) := by decide +kernel
theorem dX4_oneFeast_33 : decode cX4_oneFeast 33 = .ok (.istore_n 2, 1) := by decide +kernel
theorem dX4_oneFeast_34 : decode cX4_oneFeast 34 = .ok (.aload_n 0, 1) := by decide +kernel
theorem dX4_oneFeast_35 : decode cX4_oneFeast 35 = .ok (.iconst 1, 1) := by decide +kernel
theorem dX4_oneFeast_36 : decode cX4_oneFeast 36 = .ok (.iconst 5, 1) := by decide +kernel
theorem dX4_oneFeast_37 : decode cX4_oneFeast 37 = .ok (.bipush 44, 2) := by decide +kernel
theorem dX4_oneFeast_39 : decode cX4_oneFeast 39 = .ok (.invokevirtual 84, 3) := by decide +kernel
theorem dX4_oneFeast_42 : decode cX4_oneFeast 42 = .ok (.ifCond .ne 5, 3) := by decide +kernel
theorem dX4_oneFeast_45 : decode cX4_oneFeast 45 = .ok (.iconst 0, 1) := by decide +kernel
theorem dX4_oneFeast_46 : decode cX4_oneFeast 46 = .ok (.ireturn, 1) := by decide +kernel
theorem dX4_oneFeast_47 : decode cX4_oneFeast 47 = .ok (.aload_n 0, 1) := by decide +kernel
theorem dX4_oneFeast_48 : decode cX4_oneFeast 48 = .ok (.getfield 88, 3) := by decide +kernel
theorem dX4_oneFeast_51 : decode cX4_oneFeast 51 = .ok (.istore_n 3, 1) := by decide +kernel
theorem dX4_oneFeast_52 : decode cX4_oneFeast 52 = .ok (.aload_n 0, 1) := by decide +kernel
theorem dX4_oneFeast_53 : decode cX4_oneFeast 53 = .ok (.iconst 1, 1) := by decide +kernel
theorem dX4_oneFeast_54 : decode cX4_oneFeast 54 = .ok (.bipush 6, 2) := by decide +kernel
theorem dX4_oneFeast_56 : decode cX4_oneFeast 56 = .ok (.bipush 59, 2) := by decide +kernel
theorem dX4_oneFeast_58 : decode cX4_oneFeast 58 = .ok (.invokevirtual 84, 3) := by decide +kernel
theorem dX4_oneFeast_61 : decode cX4_oneFeast 61 = .ok (.ifCond .ne 5, 3) := by decide +kernel
theorem dX4_oneFeast_64 : decode cX4_oneFeast 64 = .ok (.iconst 0, 1) := by decide +kernel
theorem dX4_oneFeast_65 : decode cX4_oneFeast 65 = .ok (.ireturn, 1) := by decide +kernel
theorem dX4_oneFeast_66 : decode cX4_oneFeast 66 = .ok (.aload_n 0, 1) := by decide +kernel
theorem dX4_oneFeast_67 : decode cX4_oneFeast 67 = .ok (.getfield 15, 3) := by decide +kernel
theorem dX4_oneFeast_70 : decode cX4_oneFeast 70 = .ok (.iload_n 1, 1) := by decide +kernel
theorem dX4_oneFeast_71 : decode cX4_oneFeast 71 = .ok (.iload_n 2, 1) := by decide +kernel
theorem dX4_oneFeast_72 : decode cX4_oneFeast 72 = .ok (.iload_n 3, 1) := by decide +kernel
theorem dX4_oneFeast_73 : decode cX4_oneFeast 73 = .ok (.aload_n 0, 1) := by decide +kernel
theorem dX4_oneFeast_74 : decode cX4_oneFeast 74 = .ok (.getfield 88, 3) := by decide +kernel
theorem dX4_oneFeast_77 : decode cX4_oneFeast 77 = .ok (.invokevirtual 91, 3) := by decide +kernel
theorem dX4_oneFeast_80 : decode cX4_oneFeast 80 = .ok (.iconst 1, 1) := by decide +kernel
theorem dX4_oneFeast_81 : decode cX4_oneFeast 81 = .ok (.ireturn, 1) := by decide +kernel
theorem dX4_feasts_0 : decode cX4_feasts 0 = .ok (.iconst 0, 1) := by decide +kernel
theorem dX4_feasts_1 : decode cX4_feasts 1 = .ok (.istore_n 1, 1) := by decide +kernel
theorem dX4_feasts_2 : decode cX4_feasts 2 = .ok (.iload_n 1, 1) := by decide +kernel
theorem dX4_feasts_3 : decode cX4_feasts 3 = .ok (.bipush 12, 2) := by decide +kernel
theorem dX4_feasts_5 : decode cX4_feasts 5 = .ok (.if_icmp .gt 60, 3) := by decide +kernel
theorem dX4_feasts_8 : decode cX4_feasts 8 = .ok (.aload_n 0, 1) := by decide +kernel
theorem dX4_feasts_9 : decode cX4_feasts 9 = .ok (.getfield 9, 3) := by decide +kernel
theorem dX4_feasts_12 : decode cX4_feasts 12 = .ok (.aload_n 0, 1) := by decide +kernel
theorem dX4_feasts_13 : decode cX4_feasts 13 = .ok (.getfield 19, 3) := by decide +kernel
theorem dX4_feasts_16 : decode cX4_feasts 16 = .ok (.invokevirtual 61, 3) := by decide +kernel
theorem dX4_feasts_19 : decode cX4_feasts 19 = .ok (.invokestatic 66, 3) := by decide +kernel
theorem dX4_feasts_22 : decode cX4_feasts 22 = .ok (.istore_n 2, 1) := by decide +kernel
theorem dX4_feasts_23 : decode cX4_feasts 23 = .ok (.iload_n 2, 1) := by decide +kernel
theorem dX4_feasts_24 : decode cX4_feasts 24 = .ok (.ldc 69, 2) := by decide +kernel
theorem dX4_feasts_26 : decode cX4_feasts 26 = .ok (.if_icmp .ne 5, 3) := by decide +kernel
theorem dX4_feasts_29 : decode cX4_feasts 29 = .ok (.iconst 1, 1) := by decide +kernel
theorem dX4_feasts_30 : decode cX4_feasts 30 = .ok (.ireturn, 1) := by decide +kernel
theorem dX4_feasts_31 : decode cX4_feasts 31 = .ok (.aload_n 0, 1) := by decide +kernel
theorem dX4_feasts_32 : decode cX4_feasts 32 = .ok (.getfield 15, 3) := by decide +kernel
theorem dX4_feasts_35 : decode cX4_feasts 35 = .ok (.getfield 70, 3) := by decide +kernel
theorem dX4_feasts_38 : decode cX4_feasts 38 = .ok (.bipush 12, 2) := by decide +kernel
theorem dX4_feasts_40 : decode cX4_feasts 40 = .ok (.if_icmp .lt 9, 3) := by decide +kernel
theorem dX4_feasts_43 : decode cX4_feasts 43 = .ok (.aload_n 0, 1) := by decide +kernel
theorem dX4_feasts_44 : decode cX4_feasts 44 = .ok (.iconst 3, 1) := by decide +kernel
theorem dX4_feasts_45 : decode cX4_feasts 45 = .ok (.invokevirtual 72, 3) := by decide +kernel
theorem dX4_feasts_48 : decode cX4_feasts 48 = .ok (.ireturn, 1) := by decide +kernel
theorem dX4_feasts_49 : decode cX4_feasts 49 = .ok (.aload_n 0, 1) := by decide +kernel
theorem dX4_feasts_50 : decode cX4_feasts 50 = .ok (.iload_n 2, 1) := by decide +kernel
theorem dX4_feasts_51 : decode cX4_feasts 51 = .ok (.invokevirtual 75, 3) := by decide +kernel
theorem dX4_feasts_54 : decode cX4_feasts 54 = .ok (.ifCond .ne 5, 3) := by decide +kernel
theorem dX4_feasts_57 : decode cX4_feasts 57 = .ok (.iconst 0, 1) := by decide +kernel
theorem dX4_feasts_58 : decode cX4_feasts 58 = .ok (.ireturn, 1) := by decide +kernel
theorem dX4_feasts_59 : decode cX4_feasts 59 = .ok (.iinc 1 1, 3) := by decide +kernel
theorem dX4_feasts_62 : decode cX4_feasts 62 = .ok (.goto (-60), 3) := by decide +kernel
theorem dX4_feasts_65 : decode cX4_feasts 65 = .ok (.iconst 1, 1) := by decide +kernel
theorem dX4_feasts_66 : decode cX4_feasts 66 = .ok (.ireturn, 1) := by decide +kernel
theorem dX1_tellSeason_0 : decode cX1_tellSeason 0 = .ok (.aload_n 0, 1) := by decide +kernel
theorem dX1_tellSeason_1 : decode cX1_tellSeason 1 = .ok (.getfield 52, 3) := by decide +kernel
theorem dX1_tellSeason_4 : decode cX1_tellSeason 4 = .ok (.iconst 4, 1) := by decide +kernel
theorem dX1_tellSeason_5 : decode cX1_tellSeason 5 = .ok (.if_icmp .lt 4, 3) := by decide +kernel
theorem dX1_tellSeason_8 : decode cX1_tellSeason 8 = .ok (.return_, 1) := by decide +kernel
theorem dX1_tellSeason_9 : decode cX1_tellSeason 9 = .ok (.aload_n 0, 1) := by decide +kernel
theorem dX1_tellSeason_10 : decode cX1_tellSeason 10 = .ok (.getfield 18, 3) := by decide +kernel
theorem dX1_tellSeason_13 : decode cX1_tellSeason 13 = .ok (.aload_n 0, 1) := by decide +kernel
theorem dX1_tellSeason_14 : decode cX1_tellSeason 14 = .ok (.getfield 52, 3) := by decide +kernel
theorem dX1_tellSeason_17 : decode cX1_tellSeason 17 = .ok (.iload_n 1, 1) := by decide +kernel
theorem dX1_tellSeason_18 : decode cX1_tellSeason 18 = .ok (.iastore, 1) := by decide +kernel
theorem dX1_tellSeason_19 : decode cX1_tellSeason 19 = .ok (.aload_n 0, 1) := by decide +kernel
theorem dX1_tellSeason_20 : decode cX1_tellSeason 20 = .ok (.getfield 21, 3) := by decide +kernel
theorem dX1_tellSeason_23 : decode cX1_tellSeason 23 = .ok (.aload_n 0, 1) := by decide +kernel
theorem dX1_tellSeason_24 : decode cX1_tellSeason 24 = .ok (.getfield 52, 3) := by decide +kernel
theorem dX1_tellSeason_27 : decode cX1_tellSeason 27 = .ok (.iload_n 2, 1) := by decide +kernel
theorem dX1_tellSeason_28 : decode cX1_tellSeason 28 = .ok (.iastore, 1) := by decide +kernel
theorem dX1_tellSeason_29 : decode cX1_tellSeason 29 = .ok (.aload_n 0, 1) := by decide +kernel
theorem dX1_tellSeason_30 : decode cX1_tellSeason 30 = .ok (.getfield 24, 3) := by decide +kernel
theorem dX1_tellSeason_33 : decode cX1_tellSeason 33 = .ok (.aload_n 0, 1) := by decide +kernel
theorem dX1_tellSeason_34 : decode cX1_tellSeason 34 = .ok (.getfield 52, 3) := by decide +kernel
theorem dX1_tellSeason_37 : decode cX1_tellSeason 37 = .ok (.iload_n 3, 1) := by decide +kernel
theorem dX1_tellSeason_38 : decode cX1_tellSeason 38 = .ok (.iastore, 1) := by decide +kernel
theorem dX1_tellSeason_39 : decode cX1_tellSeason 39 = .ok (.aload_n 0, 1) := by decide +kernel
theorem dX1_tellSeason_40 : decode cX1_tellSeason 40 = .ok (.dup, 1) := by decide +kernel
theorem dX1_tellSeason_41 : decode cX1_tellSeason 41 = .ok (.getfield 52, 3) := by decide +kernel
theorem dX1_tellSeason_44 : decode cX1_tellSeason 44 = .ok (.iconst 1, 1) := by decide +kernel
theorem dX1_tellSeason_45 : decode cX1_tellSeason 45 = .ok (.iadd, 1) := by decide +kernel
theorem dX1_tellSeason_46 : decode cX1_tellSeason 46 = .ok (.putfield 52, 3) := by decide +kernel
theorem dX1_tellSeason_49 : decode cX1_tellSeason 49 = .ok (.return_, 1) := by decide +kernel
theorem dX4_oneSeason_0 : decode cX4_oneSeason 0 = .ok (.aload_n 0, 1) := by decide +kernel
theorem dX4_oneSeason_1 : decode cX4_oneSeason 1 = .ok (.dup, 1) := by decide +kernel
theorem dX4_oneSeason_2 : decode cX4_oneSeason 2 = .ok (.getfield 19, 3) := by decide +kernel
theorem dX4_oneSeason_5 : decode cX4_oneSeason 5 = .ok (.iconst 1, 1) := by decide +kernel
theorem dX4_oneSeason_6 : decode cX4_oneSeason 6 = .ok (.iadd, 1) := by decide +kernel
theorem dX4_oneSeason_7 : decode cX4_oneSeason 7 = .ok (.putfield 19, 3) := by decide +kernel
theorem dX4_oneSeason_10 : decode cX4_oneSeason 10 = .ok (.aload_n 0, 1) := by decide +kernel
theorem dX4_oneSeason_11 : decode cX4_oneSeason 11 = .ok (.iconst 0, 1) := by decide +kernel
theorem dX4_oneSeason_12 : decode cX4_oneSeason 12 = .ok (.aload_n 0, 1) := by decide +kernel
theorem dX4_oneSeason_13 : decode cX4_oneSeason 13 = .ok (.getfield 15, 3) := by decide +kernel
theorem dX4_oneSeason_16 : decode cX4_oneSeason 16 = .ok (.getfield 70, 3) := by decide +kernel
theorem dX4_oneSeason_19 : decode cX4_oneSeason 19 = .ok (.iconst 1, 1) := by decide +kernel
theorem dX4_oneSeason_20 : decode cX4_oneSeason 20 = .ok (.isub, 1) := by decide +kernel
theorem dX4_oneSeason_21 : decode cX4_oneSeason 21 = .ok (.bipush 44, 2) := by decide +kernel
theorem dX4_oneSeason_23 : decode cX4_oneSeason 23 = .ok (.invokevirtual 84, 3) := by decide +kernel
theorem dX4_oneSeason_26 : decode cX4_oneSeason 26 = .ok (.ifCond .ne 5, 3) := by decide +kernel
theorem dX4_oneSeason_29 : decode cX4_oneSeason 29 = .ok (.iconst 0, 1) := by decide +kernel
theorem dX4_oneSeason_30 : decode cX4_oneSeason 30 = .ok (.ireturn, 1) := by decide +kernel
theorem dX4_oneSeason_31 : decode cX4_oneSeason 31 = .ok (.aload_n 0, 1) := by decide +kernel
theorem dX4_oneSeason_32 : decode cX4_oneSeason 32 = .ok (.getfield 88, 3) := by decide +kernel
theorem dX4_oneSeason_35 : decode cX4_oneSeason 35 = .ok (.istore_n 1, 1) := by decide +kernel
theorem dX4_oneSeason_36 : decode cX4_oneSeason 36 = .ok (.aload_n 0, 1) := by decide +kernel
theorem dX4_oneSeason_37 : decode cX4_oneSeason 37 = .ok (.getfield 19, 3) := by decide +kernel
theorem dX4_oneSeason_40 : decode cX4_oneSeason 40 = .ok (.istore_n 2, 1) := by decide +kernel
theorem dX4_oneSeason_41 : decode cX4_oneSeason 41 = .ok (.aload_n 0, 1) := by decide +kernel
theorem dX4_oneSeason_42 : decode cX4_oneSeason 42 = .ok (.iconst 0, 1) := by decide +kernel
theorem dX4_oneSeason_43 : decode cX4_oneSeason 43 = .ok (.aload_n 0, 1) := by decide +kernel
theorem dX4_oneSeason_44 : decode cX4_oneSeason 44 = .ok (.getfield 15, 3) := by decide +kernel
theorem dX4_oneSeason_47 : decode cX4_oneSeason 47 = .ok (.getfield 70, 3) := by decide +kernel
theorem dX4_oneSeason_50 : decode cX4_oneSeason 50 = .ok (.iconst 1, 1) := by decide +kernel
theorem dX4_oneSeason_51 : decode cX4_oneSeason 51 = .ok (.isub, 1) := by decide +kernel
theorem dX4_oneSeason_52 : decode cX4_oneSeason 52 = .ok (.invokevirtual 100, 3) := by decide +kernel
theorem dX4_oneSeason_55 : decode cX4_oneSeason 55 = .ok (.ifCond .ne 5, 3) := by decide +kernel
theorem dX4_oneSeason_58 : decode cX4_oneSeason 58 = .ok (.iconst 0, 1) := by decide +kernel
theorem dX4_oneSeason_59 : decode cX4_oneSeason 59 = .ok (.ireturn, 1) := by decide +kernel
theorem dX4_oneSeason_60 : decode cX4_oneSeason 60 = .ok (.aload_n 0, 1) := by decide +kernel
theorem dX4_oneSeason_61 : decode cX4_oneSeason 61 = .ok (.getfield 88, 3) := by decide +kernel
theorem dX4_oneSeason_64 : decode cX4_oneSeason 64 = .ok (.istore_n 3, 1) := by decide +kernel
theorem dX4_oneSeason_65 : decode cX4_oneSeason 65 = .ok (.iload_n 3, 1) := by decide +kernel
theorem dX4_oneSeason_66 : decode cX4_oneSeason 66 = .ok (.iload_n 1, 1) := by decide +kernel
theorem dX4_oneSeason_67 : decode cX4_oneSeason 67 = .ok (.if_icmp .ne 14, 3) := by decide +kernel
theorem dX4_oneSeason_70 : decode cX4_oneSeason 70 = .ok (.aload_n 0, 1) := by decide +kernel
theorem dX4_oneSeason_71 : decode cX4_oneSeason 71 = .ok (.iload_n 2, 1) := by decide +kernel
theorem dX4_oneSeason_72 : decode cX4_oneSeason 72 = .ok (.putfield 19, 3) := by decide +kernel
theorem dX4_oneSeason_75 : decode cX4_oneSeason 75 = .ok (.aload_n 0, 1) := by decide +kernel
theorem dX4_oneSeason_76 : decode cX4_oneSeason 76 = .ok (.iconst 2, 1) := by decide +kernel
theorem dX4_oneSeason_77 : decode cX4_oneSeason 77 = .ok (.invokevirtual 72, 3) := by decide +kernel
theorem dX4_oneSeason_80 : decode cX4_oneSeason 80 = .ok (.ireturn, 1) := by decide +kernel
theorem dX4_oneSeason_81 : decode cX4_oneSeason 81 = .ok (.aload_n 0, 1) := by decide +kernel
theorem dX4_oneSeason_82 : decode cX4_oneSeason 82 = .ok (.bipush 44, 2) := by decide +kernel
theorem dX4_oneSeason_84 : decode cX4_oneSeason 84 = .ok (.invokevirtual 53, 3) := by decide +kernel
theorem dX4_oneSeason_87 : decode cX4_oneSeason 87 = .ok (.ifCond .eq 15, 3) := by decide +kernel
theorem dX4_oneSeason_90 : decode cX4_oneSeason 90 = .ok (.aload_n 0, 1) := by decide +kernel
theorem dX4_oneSeason_91 : decode cX4_oneSeason 91 = .ok (.iconst 1, 1) := by decide +kernel
theorem dX4_oneSeason_92 : decode cX4_oneSeason 92 = .ok (.bipush 6, 2) := by decide +kernel
theorem dX4_oneSeason_94 : decode cX4_oneSeason 94 = .ok (.bipush 59, 2) := by decide +kernel
theorem dX4_oneSeason_96 : decode cX4_oneSeason 96 = .ok (.invokevirtual 84, 3) := by decide +kernel
theorem dX4_oneSeason_99 : decode cX4_oneSeason 99 = .ok (.ifCond .ne 5, 3) := by decide +kernel
theorem dX4_oneSeason_102 : decode cX4_oneSeason 102 = .ok (.iconst 0, 1) := by decide +kernel
theorem dX4_oneSeason_103 : decode cX4_oneSeason 103 = .ok (.ireturn, 1) := by decide +kernel
theorem dX4_oneSeason_104 : decode cX4_oneSeason 104 = .ok (.aload_n 0, 1) := by decide +kernel
theorem dX4_oneSeason_105 : decode cX4_oneSeason 105 = .ok (.getfield 15, 3) := by decide +kernel
theorem dX4_oneSeason_108 : decode cX4_oneSeason 108 = .ok (.iload_n 1, 1) := by decide +kernel
theorem dX4_oneSeason_109 : decode cX4_oneSeason 109 = .ok (.iload_n 3, 1) := by decide +kernel
theorem dX4_oneSeason_110 : decode cX4_oneSeason 110 = .ok (.aload_n 0, 1) := by decide +kernel
theorem dX4_oneSeason_111 : decode cX4_oneSeason 111 = .ok (.getfield 88, 3) := by decide +kernel
theorem dX4_oneSeason_114 : decode cX4_oneSeason 114 = .ok (.invokevirtual 103, 3) := by decide +kernel
theorem dX4_oneSeason_117 : decode cX4_oneSeason 117 = .ok (.iconst 1, 1) := by decide +kernel
theorem dX4_oneSeason_118 : decode cX4_oneSeason 118 = .ok (.ireturn, 1) := by decide +kernel
theorem dX4_seasons_0 : decode cX4_seasons 0 = .ok (.iconst 0, 1) := by decide +kernel
theorem dX4_seasons_1 : decode cX4_seasons 1 = .ok (.istore_n 1, 1) := by decide +kernel
theorem dX4_seasons_2 : decode cX4_seasons 2 = .ok (.iload_n 1, 1) := by decide +kernel
theorem dX4_seasons_3 : decode cX4_seasons 3 = .ok (.iconst 4, 1) := by decide +kernel
theorem dX4_seasons_4 : decode cX4_seasons 4 = .ok (.if_icmp .gt 53, 3) := by decide +kernel
theorem dX4_seasons_7 : decode cX4_seasons 7 = .ok (.aload_n 0, 1) := by decide +kernel
theorem dX4_seasons_8 : decode cX4_seasons 8 = .ok (.getfield 9, 3) := by decide +kernel
theorem dX4_seasons_11 : decode cX4_seasons 11 = .ok (.aload_n 0, 1) := by decide +kernel
theorem dX4_seasons_12 : decode cX4_seasons 12 = .ok (.getfield 19, 3) := by decide +kernel
theorem dX4_seasons_15 : decode cX4_seasons 15 = .ok (.invokevirtual 61, 3) := by decide +kernel
theorem dX4_seasons_18 : decode cX4_seasons 18 = .ok (.bipush 122, 2) := by decide +kernel
theorem dX4_seasons_20 : decode cX4_seasons 20 = .ok (.if_icmp .eq 5, 3) := by decide +kernel
theorem dX4_seasons_23 : decode cX4_seasons 23 = .ok (.iconst 1, 1) := by decide +kernel
theorem dX4_seasons_24 : decode cX4_seasons 24 = .ok (.ireturn, 1) := by decide +kernel
theorem dX4_seasons_25 : decode cX4_seasons 25 = .ok (.aload_n 0, 1) := by decide +kernel
theorem dX4_seasons_26 : decode cX4_seasons 26 = .ok (.getfield 15, 3) := by decide +kernel
theorem dX4_seasons_29 : decode cX4_seasons 29 = .ok (.getfield 95, 3) := by decide +kernel
theorem dX4_seasons_32 : decode cX4_seasons 32 = .ok (.iconst 4, 1) := by decide +kernel
theorem dX4_seasons_33 : decode cX4_seasons 33 = .ok (.if_icmp .lt 9, 3) := by decide +kernel
theorem dX4_seasons_36 : decode cX4_seasons 36 = .ok (.aload_n 0, 1) := by decide +kernel
theorem dX4_seasons_37 : decode cX4_seasons 37 = .ok (.iconst 3, 1) := by decide +kernel
theorem dX4_seasons_38 : decode cX4_seasons 38 = .ok (.invokevirtual 72, 3) := by decide +kernel
theorem dX4_seasons_41 : decode cX4_seasons 41 = .ok (.ireturn, 1) := by decide +kernel
theorem dX4_seasons_42 : decode cX4_seasons 42 = .ok (.aload_n 0, 1) := by decide +kernel
theorem dX4_seasons_43 : decode cX4_seasons 43 = .ok (.invokevirtual 97, 3) := by decide +kernel
theorem dX4_seasons_46 : decode cX4_seasons 46 = .ok (.ifCond .ne 5, 3) := by decide +kernel
theorem dX4_seasons_49 : decode cX4_seasons 49 = .ok (.iconst 0, 1) := by decide +kernel
theorem dX4_seasons_50 : decode cX4_seasons 50 = .ok (.ireturn, 1) := by decide +kernel
theorem dX4_seasons_51 : decode cX4_seasons 51 = .ok (.iinc 1 1, 3) := by decide +kernel
theorem dX4_seasons_54 : decode cX4_seasons 54 = .ok (.goto (-52), 3) := by decide +kernel
theorem dX4_seasons_57 : decode cX4_seasons 57 = .ok (.iconst 1, 1) := by decide +kernel
theorem dX4_seasons_58 : decode cX4_seasons 58 = .ok (.ireturn, 1) := by decide +kernel
theorem dX4_psalter_0 : decode cX4_psalter 0 = .ok (.aload_n 0, 1) := by decide +kernel
theorem dX4_psalter_1 : decode cX4_psalter 1 = .ok (.bipush 112, 2) := by decide +kernel
theorem dX4_psalter_3 : decode cX4_psalter 3 = .ok (.invokevirtual 53, 3) := by decide +kernel
theorem dX4_psalter_6 : decode cX4_psalter 6 = .ok (.ifCond .eq 27, 3) := by decide +kernel
theorem dX4_psalter_9 : decode cX4_psalter 9 = .ok (.aload_n 0, 1) := by decide +kernel
theorem dX4_psalter_10 : decode cX4_psalter 10 = .ok (.iconst 3, 1) := by decide +kernel
theorem dX4_psalter_11 : decode cX4_psalter 11 = .ok (.bipush 44, 2) := by decide +kernel
theorem dX4_psalter_13 : decode cX4_psalter 13 = .ok (.invokevirtual 57, 3) := by decide +kernel
theorem dX4_psalter_16 : decode cX4_psalter 16 = .ok (.ifCond .eq 17, 3) := by decide +kernel
theorem dX4_psalter_19 : decode cX4_psalter 19 = .ok (.aload_n 0, 1) := by decide +kernel
theorem dX4_psalter_20 : decode cX4_psalter 20 = .ok (.iconst 4, 1) := by decide +kernel
theorem dX4_psalter_21 : decode cX4_psalter 21 = .ok (.bipush 59, 2) := by decide +kernel
theorem dX4_psalter_23 : decode cX4_psalter 23 = .ok (.invokevirtual 57, 3) := by decide +kernel
theorem dX4_psalter_26 : decode cX4_psalter 26 = .ok (.ifCond .eq 7, 3) := by decide +kernel
theorem dX4_psalter_29 : decode cX4_psalter 29 = .ok (.iconst 1, 1) := by decide +kernel
theorem dX4_psalter_30 : decode cX4_psalter 30 = .ok (.goto 4, 3) := by decide +kernel
theorem dX4_psalter_33 : decode cX4_psalter 33 = .ok (.iconst 0, 1) := by decide +kernel
theorem dX4_psalter_34 : decode cX4_psalter 34 = .ok (.ireturn, 1) := by decide +kernel
end
section
/-! FeastRota.within (None, None, None) -/
def fX7_within (a0 : Int32) (a1 : Int32) (a2 : Int32) : Option Bool := if a0 < a1 then some false else if a2 < a0 then some false else some true
theorem tX7_within {l : Launch} {G : fr_G} {M0 : fr_M} {a0 : Int32} {a1 : Int32} {a2 : Int32} {rz : Bool} (h : fX7_within a0 a1 a2 = some rz) : fr_Met l G YX7_within [.int a0, .int a1, .int a2] M0 (some (.int (fr_b rz))) M0 := by
  refine fr_met (pad := List.replicate 0 none) (by decide) (Nat.le_of_ble_eq_true rfl) (fun _ h => List.eq_of_mem_replicate h) ⟨rfl, rfl⟩ (fun K F hG hL E => ?_)
  subst hG; subst hL
  rw [fX7_within] at h
  show fr_V YX7_within K 0 [some (.int a0), some (.int a1), some (.int a2)] [] M0
  refine fr_iload_n (q := 1) F dX7_within_0 rfl rfl ?_
  refine fr_iload_n (q := 2) F dX7_within_1 rfl rfl ?_
  refine fr_icmp_gt (q := 5) (tgt := 14) F dX7_within_2 (by decide) rfl (fun hc1 => ?_) (fun hc1 => ?_)
  · rw [if_pos hc1] at h
    refine fr_iconst (q := 15) (v := 0) F dX7_within_14 rfl (by decide) ?_
    cases h
    exact fr_zret F E rfl dX7_within_15
  · rw [if_neg hc1] at h
    refine fr_iload_n (q := 6) F dX7_within_5 rfl rfl ?_
    refine fr_iload_n (q := 7) F dX7_within_6 rfl rfl ?_
    refine fr_icmp_gt (q := 10) (tgt := 14) F dX7_within_7 (by decide) rfl (fun hc2 => ?_) (fun hc2 => ?_)
    · rw [if_pos hc2] at h
      refine fr_iconst (q := 15) (v := 0) F dX7_within_14 rfl (by decide) ?_
      cases h
      exact fr_zret F E rfl dX7_within_15
    · rw [if_neg hc2] at h
      refine fr_iconst (q := 11) (v := 1) F dX7_within_10 rfl (by decide) ?_
      refine fr_goto (tgt := 15) F dX7_within_11 (by decide) ?_
      cases h
      exact fr_zret F E rfl dX7_within_15
/-! FeastRota$Tape.put (1, None) -/
def fX6_put (a1 : Int32) (n0 : fr_N) : Option (Bool × fr_N) := if (n0 1 1) < (160 : Int32) then fr_ck (n0 1 1) 160 (fr_lt (fr_up n0 2 (Int32.toNatClampNeg (n0 1 1)) a1) fun n3 => (fr_lt (fr_up n3 1 1 ((n3 1 1) + (1 : Int32))) fun n5 => (some (true, n5)))) else some (false, n0)
theorem tX6_put {l : Launch} {G : fr_G} {u0 : fr_N} {a1 : Int32} {n0 : fr_N} {rz : Bool} {nz : fr_N} (h : fX6_put a1 n0 = some (rz, nz)) : fr_Met l G YX6_put [.ref 1, .int a1] (n0, u0) (some (.int (fr_b rz))) (nz, u0) := by
  refine fr_met (pad := List.replicate 0 none) (by decide) (Nat.le_of_ble_eq_true rfl) (fun _ h => List.eq_of_mem_replicate h) ⟨rfl, rfl⟩ (fun K F hG hL E => ?_)
  subst hG; subst hL
  rw [fX6_put] at h
  show fr_V YX6_put K 0 [some (.ref 1), some (.int a1)] [] (n0, u0)
  refine fr_aload_n (q := 1) F dX6_put_0 rfl rfl ?_
  refine fr_gfI (q := 4) (x := (n0 1 1)) F dX6_put_1 rfl faRX6_15 (by decide) rfl rfl rfl ?_
  refine fr_sipush (q := 7) (v := 160) F dX6_put_4 rfl (by decide) ?_
  refine fr_icmp_lt (q := 10) (tgt := 12) F dX6_put_7 (by decide) rfl (fun hc1 => ?_) (fun hc1 => ?_)
  · rw [if_pos hc1] at h
    refine fr_aload_n (q := 13) F dX6_put_12 rfl rfl ?_
    refine fr_gfR (q := 16) (j := 2) F dX6_put_13 rfl faRX6_11 (by decide) rfl rfl ?_
    refine fr_aload_n (q := 17) F dX6_put_16 rfl rfl ?_
    refine fr_gfI (q := 20) (x := (n0 1 1)) F dX6_put_17 rfl faRX6_15 (by decide) rfl rfl rfl ?_
    refine fr_iload_n (q := 21) F dX6_put_20 rfl rfl ?_
    obtain ⟨hi2, h⟩ := fr_ck_some h
    obtain ⟨n3, hn4, h⟩ := fr_lt_some h
    refine fr_ias (q := 22) (M' := (n3, u0)) F dX6_put_21 rfl hi2 (by decide) rfl (congrArg (fun z => (z, u0)) hn4) ?_
    refine fr_aload_n (q := 23) F dX6_put_22 rfl rfl ?_
    refine fr_dup (q := 24) F dX6_put_23 rfl rfl ?_
    refine fr_gfI (q := 27) (x := (n3 1 1)) F dX6_put_24 rfl faRX6_15 (by decide) rfl rfl rfl ?_
    refine fr_iconst (q := 28) (v := 1) F dX6_put_27 rfl (by decide) ?_
    refine fr_iadd (q := 29) F dX6_put_28 rfl ?_
    obtain ⟨n5, hn6, h⟩ := fr_lt_some h
    refine fr_pfI (q := 32) (M' := (n5, u0)) F dX6_put_29 rfl fpRX6_15 (by decide) rfl rfl (congrArg (fun z => (z, u0)) hn6) ?_
    refine fr_iconst (q := 33) (v := 1) F dX6_put_32 rfl (by decide) ?_
    cases h
    exact fr_zret F E rfl dX6_put_33
  · rw [if_neg hc1] at h
    refine fr_iconst (q := 11) (v := 0) F dX6_put_10 rfl (by decide) ?_
    cases h
    exact fr_zret F E rfl dX6_put_11
/-! FeastRota.feed (0, None) -/
def fX7_feed (a1 : Int32) (n0 : fr_N) : Option (Int32 × fr_N) := fr_bd (fX7_within a1 (0 : Int32) (255 : Int32)) fun r1 => (if r1 = true then fr_bd2 (fX6_put a1 n0) fun r4 n6 => (if r4 = true then some ((n6 1 1), n6) else some ((-1000003 : Int32), n6)) else some ((-1000001 : Int32), n0))
theorem tX7_feed {l : Launch} {G : fr_G} {u0 : fr_N} {a1 : Int32} {n0 : fr_N} {rz : Int32} {nz : fr_N} (h : fX7_feed a1 n0 = some (rz, nz)) : fr_Met l G YX7_feed [.ref 0, .int a1] (n0, u0) (some (.int rz)) (nz, u0) := by
  refine fr_met (pad := List.replicate 0 none) (by decide) (Nat.le_of_ble_eq_true rfl) (fun _ h => List.eq_of_mem_replicate h) ⟨rfl, rfl⟩ (fun K F hG hL E => ?_)
  subst hG; subst hL
  rw [fX7_feed] at h
  show fr_V YX7_feed K 0 [some (.ref 0), some (.int a1)] [] (n0, u0)
  refine fr_iload_n (q := 1) F dX7_feed_0 rfl rfl ?_
  refine fr_iconst (q := 2) (v := 0) F dX7_feed_1 rfl (by decide) ?_
  refine fr_sipush (q := 5) (v := 255) F dX7_feed_2 rfl (by decide) ?_
  obtain ⟨r1, hr2, h⟩ := fr_bd_some h
  refine fr_callS (q := 8) (M' := (n0, u0)) (rest := []) (st' := [.int (fr_b r1)]) F dX7_feed_5 rfl (tX7_within hr2) mlRX7_68 msX7_within ⟨Nat.le_of_ble_eq_true rfl, Nat.le_of_ble_eq_true rfl⟩ rfl rfl (Nat.le_of_ble_eq_true rfl) rfl ?_
  refine fr_if_neb (q := 11) (tgt := 14) F dX7_feed_8 (by decide) rfl (fun hc3 => ?_) (fun hc3 => ?_)
  · rw [if_pos hc3] at h
    refine fr_aload_n (q := 15) F dX7_feed_14 rfl rfl ?_
    refine fr_gfR (q := 18) (j := 1) F dX7_feed_15 rfl faRX7_23 (by decide) rfl rfl ?_
    refine fr_iload_n (q := 19) F dX7_feed_18 rfl rfl ?_
    obtain ⟨r4, n6, hr5, h⟩ := fr_bd2_some h
    refine fr_callV (q := 22) (M' := (n6, u0)) (rest := []) (st' := [.int (fr_b r4)]) F dX7_feed_19 rfl (tX6_put hr5) mlRX7_73 msX6_put ⟨Nat.le_of_ble_eq_true rfl, Nat.le_of_ble_eq_true rfl⟩ (by decide) rfl rfl rfl (Nat.le_of_ble_eq_true rfl) rfl ?_
    refine fr_if_eqb (q := 25) (tgt := 35) F dX7_feed_22 (by decide) rfl (fun hc7 => ?_) (fun hc7 => ?_)
    · rw [if_neg hc7] at h
      refine fr_ldc (q := 37) F dX7_feed_35 rfl kcRX7_80 ?_
      cases h
      exact fr_iret F E rfl dX7_feed_37
    · rw [if_pos hc7] at h
      refine fr_aload_n (q := 26) F dX7_feed_25 rfl rfl ?_
      refine fr_gfR (q := 29) (j := 1) F dX7_feed_26 rfl faRX7_23 (by decide) rfl rfl ?_
      refine fr_gfI (q := 32) (x := (n6 1 1)) F dX7_feed_29 rfl faRX7_77 (by decide) rfl rfl rfl ?_
      refine fr_goto (tgt := 37) F dX7_feed_32 (by decide) ?_
      cases h
      exact fr_iret F E rfl dX7_feed_37
  · rw [if_neg hc3] at h
    refine fr_ldc (q := 13) F dX7_feed_11 rfl kcRX7_72 ?_
    cases h
    exact fr_iret F E rfl dX7_feed_13
/-! FeastRotaModel.in (None, None, None) -/
def fX8_in (a0 : Int64) (a1 : Int64) (a2 : Int64) : Option Bool := if (lg_cmp a0 a1) < 0 then some false else if 0 < (lg_cmp a0 a2) then some false else some true
theorem tX8_in {l : Launch} {G : fr_G} {M0 : fr_M} {a0 : Int64} {a1 : Int64} {a2 : Int64} {rz : Bool} (h : fX8_in a0 a1 a2 = some rz) : fr_Met l G YX8_in [.long a0, .long a1, .long a2] M0 (some (.int (fr_b rz))) M0 := by
  refine fr_met (pad := List.replicate 0 none) (by decide) (Nat.le_of_ble_eq_true rfl) (fun _ h => List.eq_of_mem_replicate h) ⟨rfl, rfl⟩ (fun K F hG hL E => ?_)
  subst hG; subst hL
  rw [fX8_in] at h
  show fr_V YX8_in K 0 [some (.long a0), none, some (.long a1), none, some (.long a2), none] [] M0
  refine fr_lload_n (q := 1) F dX8_in_0 rfl rfl ?_
  refine fr_lload_n (q := 2) F dX8_in_1 rfl rfl ?_
  refine fr_lcmp (q := 3) F dX8_in_2 rfl ?_
  refine fr_if_lt (q := 6) (tgt := 17) F dX8_in_3 (by decide) rfl (fun hc1 => ?_) (fun hc1 => ?_)
  · rw [if_pos hc1] at h
    refine fr_iconst (q := 18) (v := 0) F dX8_in_17 rfl (by decide) ?_
    cases h
    exact fr_zret F E rfl dX8_in_18
  · rw [if_neg hc1] at h
    refine fr_lload_n (q := 7) F dX8_in_6 rfl rfl ?_
    refine fr_lload (q := 9) F dX8_in_7 rfl rfl ?_
    refine fr_lcmp (q := 10) F dX8_in_9 rfl ?_
    refine fr_if_gt (q := 13) (tgt := 17) F dX8_in_10 (by decide) rfl (fun hc2 => ?_) (fun hc2 => ?_)
    · rw [if_pos hc2] at h
      refine fr_iconst (q := 18) (v := 0) F dX8_in_17 rfl (by decide) ?_
      cases h
      exact fr_zret F E rfl dX8_in_18
    · rw [if_neg hc2] at h
      refine fr_iconst (q := 14) (v := 1) F dX8_in_13 rfl (by decide) ?_
      refine fr_goto (tgt := 18) F dX8_in_14 (by decide) ?_
      cases h
      exact fr_zret F E rfl dX8_in_18
/-! FeastRotaModel.feed (52, None) -/
def fX8_feed (a1 : Int32) (n0 : fr_N) : Option (Int32 × fr_N) := fr_bd (fX8_in (Int32.toInt64 a1) (0 : Int64) (255 : Int64)) fun r1 => (if r1 = true then if (n0 0 7) = (160 : Int32) then some ((-1000003 : Int32), n0) else fr_ck (n0 0 7) 160 (fr_lt (fr_up n0 6 (Int32.toNatClampNeg (n0 0 7)) a1) fun n6 => (fr_lt (fr_up n6 0 7 ((n6 0 7) + (1 : Int32))) fun n8 => (some ((n8 0 7), n8)))) else some ((-1000001 : Int32), n0))
theorem tX8_feed {l : Launch} {G : fr_G} {u0 : fr_N} {a1 : Int32} {n0 : fr_N} {rz : Int32} {nz : fr_N} (h : fX8_feed a1 n0 = some (rz, nz)) : fr_Met l G YX8_feed [.ref 52, .int a1] (u0, n0) (some (.int rz)) (u0, nz) := by
  refine fr_met (pad := List.replicate 0 none) (by decide) (Nat.le_of_ble_eq_true rfl) (fun _ h => List.eq_of_mem_replicate h) ⟨rfl, rfl⟩ (fun K F hG hL E => ?_)
  subst hG; subst hL
  rw [fX8_feed] at h
  show fr_V YX8_feed K 0 [some (.ref 52), some (.int a1)] [] (u0, n0)
  refine fr_iload_n (q := 1) F dX8_feed_0 rfl rfl ?_
  refine fr_i2l (q := 2) F dX8_feed_1 rfl ?_
  refine fr_lconst (q := 3) (v := 0) F dX8_feed_2 rfl (by decide) ?_
  refine fr_ldc2 (q := 6) F dX8_feed_3 rfl klRX8_207 ?_
  obtain ⟨r1, hr2, h⟩ := fr_bd_some h
  refine fr_callS (q := 9) (M' := (u0, n0)) (rest := []) (st' := [.int (fr_b r1)]) F dX8_feed_6 rfl (tX8_in hr2) mlRX8_55 msX8_in ⟨Nat.le_of_ble_eq_true rfl, Nat.le_of_ble_eq_true rfl⟩ rfl rfl (Nat.le_of_ble_eq_true rfl) rfl ?_
  refine fr_if_neb (q := 12) (tgt := 15) F dX8_feed_9 (by decide) rfl (fun hc3 => ?_) (fun hc3 => ?_)
  · rw [if_pos hc3] at h
    refine fr_aload_n (q := 16) F dX8_feed_15 rfl rfl ?_
    refine fr_gfI (q := 19) (x := (n0 0 7)) F dX8_feed_16 rfl faRX8_152 (by decide) rfl rfl rfl ?_
    refine fr_sipush (q := 22) (v := 160) F dX8_feed_19 rfl (by decide) ?_
    refine fr_icmp_ne (q := 25) (tgt := 28) F dX8_feed_22 (by decide) rfl (fun hc4 => ?_) (fun hc4 => ?_)
    · rw [if_neg hc4] at h
      refine fr_aload_n (q := 29) F dX8_feed_28 rfl rfl ?_
      refine fr_gfR (q := 32) (j := 58) F dX8_feed_29 rfl faRX8_26 (by decide) rfl rfl ?_
      refine fr_aload_n (q := 33) F dX8_feed_32 rfl rfl ?_
      refine fr_gfI (q := 36) (x := (n0 0 7)) F dX8_feed_33 rfl faRX8_152 (by decide) rfl rfl rfl ?_
      refine fr_iload_n (q := 37) F dX8_feed_36 rfl rfl ?_
      obtain ⟨hi5, h⟩ := fr_ck_some h
      obtain ⟨n6, hn7, h⟩ := fr_lt_some h
      refine fr_ias (q := 38) (M' := (u0, n6)) F dX8_feed_37 rfl hi5 (by decide) rfl (congrArg (fun z => (u0, z)) hn7) ?_
      refine fr_aload_n (q := 39) F dX8_feed_38 rfl rfl ?_
      refine fr_dup (q := 40) F dX8_feed_39 rfl rfl ?_
      refine fr_gfI (q := 43) (x := (n6 0 7)) F dX8_feed_40 rfl faRX8_152 (by decide) rfl rfl rfl ?_
      refine fr_iconst (q := 44) (v := 1) F dX8_feed_43 rfl (by decide) ?_
      refine fr_iadd (q := 45) F dX8_feed_44 rfl ?_
      obtain ⟨n8, hn9, h⟩ := fr_lt_some h
      refine fr_pfI (q := 48) (M' := (u0, n8)) F dX8_feed_45 rfl fpRX8_152 (by decide) rfl rfl (congrArg (fun z => (u0, z)) hn9) ?_
      refine fr_aload_n (q := 49) F dX8_feed_48 rfl rfl ?_
      refine fr_gfI (q := 52) (x := (n8 0 7)) F dX8_feed_49 rfl faRX8_152 (by decide) rfl rfl rfl ?_
      cases h
      exact fr_iret F E rfl dX8_feed_52
    · rw [if_pos hc4] at h
      refine fr_ldc (q := 27) F dX8_feed_25 rfl kcRX8_210 ?_
      cases h
      exact fr_iret F E rfl dX8_feed_27
  · rw [if_neg hc3] at h
    refine fr_ldc (q := 14) F dX8_feed_12 rfl kcRX8_209 ?_
    cases h
    exact fr_iret F E rfl dX8_feed_14
/-! java/util/Arrays.fill (41, None) -/
def fJ7_fill_53178_41_5 : Nat → Int32 → Int32 → Int32 → fr_N → Option fr_N
  | 0, _, _, _, _ => none
  | k + 1, x1, x2, x3, n0 => if x3 ≤ x2 then some n0 else fr_ck x2 5 (fr_lt (fr_up n0 41 (Int32.toNatClampNeg x2) x1) fun n3 => ((fJ7_fill_53178_41_5 k) x1 (x2 + (1 : Int32)) x3 n3))
def fJ7_fill_53178_41 (a1 : Int32) (n0 : fr_N) : Option fr_N := fJ7_fill_53178_41_5 2000 a1 (0 : Int32) (5 : Int32) n0
theorem tJ7_fill_53178_41_5 {K : fr_K} {u0 : fr_N} {nz : fr_N} (F : fr_F YJ7_fill_53178 K) (E : fr_R YJ7_fill_53178 K none (nz, u0)) : ∀ (k : Nat) (x1 : Int32) (x2 : Int32) (x3 : Int32) (n0 : fr_N), fJ7_fill_53178_41_5 k x1 x2 x3 n0 = some nz → fr_V YJ7_fill_53178 K 5 [some (.ref 41), some (.int x1), some (.int x2), some (.int x3)] [] (n0, u0) := by
  intro k
  induction k with
  | zero =>
    intro x1 x2 x3 n0 h
    rw [fJ7_fill_53178_41_5] at h
    cases h
  | succ k ih =>
    intro x1 x2 x3 n0 h
    rw [fJ7_fill_53178_41_5] at h
    refine fr_iload_n (q := 6) F dJ7_fill_53178_5 rfl rfl ?_
    refine fr_iload_n (q := 7) F dJ7_fill_53178_6 rfl rfl ?_
    refine fr_icmp_ge (q := 10) (tgt := 20) F dJ7_fill_53178_7 (by decide) rfl (fun hc1 => ?_) (fun hc1 => ?_)
    · rw [if_pos hc1] at h
      cases h
      exact fr_vret F E rfl dJ7_fill_53178_20
    · rw [if_neg hc1] at h
      refine fr_aload_n (q := 11) F dJ7_fill_53178_10 rfl rfl ?_
      refine fr_iload_n (q := 12) F dJ7_fill_53178_11 rfl rfl ?_
      refine fr_iload_n (q := 13) F dJ7_fill_53178_12 rfl rfl ?_
      obtain ⟨hi2, h⟩ := fr_ck_some h
      obtain ⟨n3, hn4, h⟩ := fr_lt_some h
      refine fr_ias (q := 14) (M' := (n3, u0)) F dJ7_fill_53178_13 rfl hi2 (by decide) rfl (congrArg (fun z => (z, u0)) hn4) ?_
      refine fr_iinc (q := 17) (v := (x2 + (1 : Int32))) F dJ7_fill_53178_14 rfl rfl rfl (by decide) rfl ?_
      refine fr_goto (tgt := 5) F dJ7_fill_53178_17 (by decide) ?_
      exact fr_wj (ih _ _ _ _ h) ⟨rfl, ⟨rfl, ⟨rfl, ⟨rfl, trivial⟩⟩⟩⟩
theorem tJ7_fill_53178_41 {l : Launch} {G : fr_G} {u0 : fr_N} {a1 : Int32} {n0 : fr_N} {nz : fr_N} (h : fJ7_fill_53178_41 a1 n0 = some nz) : fr_Met l G YJ7_fill_53178 [.ref 41, .int a1] (n0, u0) none (nz, u0) := by
  refine fr_met (pad := List.replicate 2 none) (by decide) (Nat.le_of_ble_eq_true rfl) (fun _ h => List.eq_of_mem_replicate h) ⟨rfl, rfl⟩ (fun K F hG hL E => ?_)
  subst hG; subst hL
  rw [fJ7_fill_53178_41] at h
  show fr_V YJ7_fill_53178 K 0 [some (.ref 41), some (.int a1), none, none] [] (n0, u0)
  refine fr_iconst (q := 1) (v := 0) F dJ7_fill_53178_0 rfl (by decide) ?_
  refine fr_istore_n (q := 2) F dJ7_fill_53178_1 rfl (by decide) rfl ?_
  refine fr_aload_n (q := 3) F dJ7_fill_53178_2 rfl rfl ?_
  refine fr_len (q := 4) (kd := 0) (x := 5) F dJ7_fill_53178_3 rfl (by decide) rfl (by decide) ?_
  refine fr_istore_n (q := 5) F dJ7_fill_53178_4 rfl (by decide) rfl ?_
  exact fr_wj (tJ7_fill_53178_41_5 F E _ _ _ _ _ h) ⟨rfl, ⟨rfl, ⟨rfl, ⟨rfl, trivial⟩⟩⟩⟩
/-! java/util/Arrays.fill (42, None) -/
def fJ7_fill_53178_42_5 : Nat → Int32 → Int32 → Int32 → fr_N → Option fr_N
  | 0, _, _, _, _ => none
  | k + 1, x1, x2, x3, n0 => if x3 ≤ x2 then some n0 else fr_ck x2 5 (fr_lt (fr_up n0 42 (Int32.toNatClampNeg x2) x1) fun n3 => ((fJ7_fill_53178_42_5 k) x1 (x2 + (1 : Int32)) x3 n3))
def fJ7_fill_53178_42 (a1 : Int32) (n0 : fr_N) : Option fr_N := fJ7_fill_53178_42_5 2000 a1 (0 : Int32) (5 : Int32) n0
theorem tJ7_fill_53178_42_5 {K : fr_K} {u0 : fr_N} {nz : fr_N} (F : fr_F YJ7_fill_53178 K) (E : fr_R YJ7_fill_53178 K none (nz, u0)) : ∀ (k : Nat) (x1 : Int32) (x2 : Int32) (x3 : Int32) (n0 : fr_N), fJ7_fill_53178_42_5 k x1 x2 x3 n0 = some nz → fr_V YJ7_fill_53178 K 5 [some (.ref 42), some (.int x1), some (.int x2), some (.int x3)] [] (n0, u0) := by
  intro k
  induction k with
  | zero =>
    intro x1 x2 x3 n0 h
    rw [fJ7_fill_53178_42_5] at h
    cases h
  | succ k ih =>
    intro x1 x2 x3 n0 h
    rw [fJ7_fill_53178_42_5] at h
    refine fr_iload_n (q := 6) F dJ7_fill_53178_5 rfl rfl ?_
    refine fr_iload_n (q := 7) F dJ7_fill_53178_6 rfl rfl ?_
    refine fr_icmp_ge (q := 10) (tgt := 20) F dJ7_fill_53178_7 (by decide) rfl (fun hc1 => ?_) (fun hc1 => ?_)
    · rw [if_pos hc1] at h
      cases h
      exact fr_vret F E rfl dJ7_fill_53178_20
    · rw [if_neg hc1] at h
      refine fr_aload_n (q := 11) F dJ7_fill_53178_10 rfl rfl ?_
      refine fr_iload_n (q := 12) F dJ7_fill_53178_11 rfl rfl ?_
      refine fr_iload_n (q := 13) F dJ7_fill_53178_12 rfl rfl ?_
      obtain ⟨hi2, h⟩ := fr_ck_some h
      obtain ⟨n3, hn4, h⟩ := fr_lt_some h
      refine fr_ias (q := 14) (M' := (n3, u0)) F dJ7_fill_53178_13 rfl hi2 (by decide) rfl (congrArg (fun z => (z, u0)) hn4) ?_
      refine fr_iinc (q := 17) (v := (x2 + (1 : Int32))) F dJ7_fill_53178_14 rfl rfl rfl (by decide) rfl ?_
      refine fr_goto (tgt := 5) F dJ7_fill_53178_17 (by decide) ?_
      exact fr_wj (ih _ _ _ _ h) ⟨rfl, ⟨rfl, ⟨rfl, ⟨rfl, trivial⟩⟩⟩⟩
theorem tJ7_fill_53178_42 {l : Launch} {G : fr_G} {u0 : fr_N} {a1 : Int32} {n0 : fr_N} {nz : fr_N} (h : fJ7_fill_53178_42 a1 n0 = some nz) : fr_Met l G YJ7_fill_53178 [.ref 42, .int a1] (n0, u0) none (nz, u0) := by
  refine fr_met (pad := List.replicate 2 none) (by decide) (Nat.le_of_ble_eq_true rfl) (fun _ h => List.eq_of_mem_replicate h) ⟨rfl, rfl⟩ (fun K F hG hL E => ?_)
  subst hG; subst hL
  rw [fJ7_fill_53178_42] at h
  show fr_V YJ7_fill_53178 K 0 [some (.ref 42), some (.int a1), none, none] [] (n0, u0)
  refine fr_iconst (q := 1) (v := 0) F dJ7_fill_53178_0 rfl (by decide) ?_
  refine fr_istore_n (q := 2) F dJ7_fill_53178_1 rfl (by decide) rfl ?_
  refine fr_aload_n (q := 3) F dJ7_fill_53178_2 rfl rfl ?_
  refine fr_len (q := 4) (kd := 0) (x := 5) F dJ7_fill_53178_3 rfl (by decide) rfl (by decide) ?_
  refine fr_istore_n (q := 5) F dJ7_fill_53178_4 rfl (by decide) rfl ?_
  exact fr_wj (tJ7_fill_53178_42_5 F E _ _ _ _ _ h) ⟨rfl, ⟨rfl, ⟨rfl, ⟨rfl, trivial⟩⟩⟩⟩
/-! FeastRota$Book.empty (35,) -/
def fX1_empty_35 (n0 : fr_N) : Option fr_N := fr_lt (fr_up n0 35 0 (fr_b false)) fun n1 => (fr_lt (fr_up n1 35 1 (0 : Int32)) fun n3 => (fr_lt (fr_up n3 35 2 (0 : Int32)) fun n5 => (fr_lt (fr_up n5 35 3 (0 : Int32)) fun n7 => (fr_bd (fJ7_fill_53178_41 (1 : Int32) n7) fun n11 => (fr_bd (fJ7_fill_53178_42 (0 : Int32) n11) fun n14 => (some n14))))))
theorem tX1_empty_35 {l : Launch} {G : fr_G} {u0 : fr_N} {n0 : fr_N} {nz : fr_N} (h : fX1_empty_35 n0 = some nz) : fr_Met l G YX1_empty [.ref 35] (n0, u0) none (nz, u0) := by
  refine fr_met (pad := List.replicate 0 none) (by decide) (Nat.le_of_ble_eq_true rfl) (fun _ h => List.eq_of_mem_replicate h) ⟨rfl, rfl⟩ (fun K F hG hL E => ?_)
  subst hG; subst hL
  rw [fX1_empty_35] at h
  show fr_V YX1_empty K 0 [some (.ref 35)] [] (n0, u0)
  refine fr_aload_n (q := 1) F dX1_empty_0 rfl rfl ?_
  refine fr_iconst (q := 2) (v := 0) F dX1_empty_1 rfl (by decide) ?_
  obtain ⟨n1, hn2, h⟩ := fr_lt_some h
  refine fr_pfZ (q := 5) (M' := (n1, u0)) (x := false) F dX1_empty_2 rfl fpRX1_44 (by decide) rfl rfl (congrArg (fun z => (z, u0)) hn2) ?_
  refine fr_aload_n (q := 6) F dX1_empty_5 rfl rfl ?_
  refine fr_iconst (q := 7) (v := 0) F dX1_empty_6 rfl (by decide) ?_
  obtain ⟨n3, hn4, h⟩ := fr_lt_some h
  refine fr_pfI (q := 10) (M' := (n3, u0)) F dX1_empty_7 rfl fpRX1_48 (by decide) rfl rfl (congrArg (fun z => (z, u0)) hn4) ?_
  refine fr_aload_n (q := 11) F dX1_empty_10 rfl rfl ?_
  refine fr_iconst (q := 12) (v := 0) F dX1_empty_11 rfl (by decide) ?_
  obtain ⟨n5, hn6, h⟩ := fr_lt_some h
  refine fr_pfI (q := 15) (M' := (n5, u0)) F dX1_empty_12 rfl fpRX1_52 (by decide) rfl rfl (congrArg (fun z => (z, u0)) hn6) ?_
  refine fr_aload_n (q := 16) F dX1_empty_15 rfl rfl ?_
  refine fr_iconst (q := 17) (v := 0) F dX1_empty_16 rfl (by decide) ?_
  obtain ⟨n7, hn8, h⟩ := fr_lt_some h
  refine fr_pfI (q := 20) (M' := (n7, u0)) F dX1_empty_17 rfl fpRX1_55 (by decide) rfl rfl (congrArg (fun z => (z, u0)) hn8) ?_
  refine fr_aload_n (q := 21) F dX1_empty_20 rfl rfl ?_
  refine fr_gfR (q := 24) (j := 41) F dX1_empty_21 rfl faRX1_27 (by decide) rfl rfl ?_
  refine fr_iconst (q := 25) (v := 1) F dX1_empty_24 rfl (by decide) ?_
  obtain ⟨n11, hr10, h⟩ := fr_bd_some h
  refine fr_callS (q := 28) (M' := (n11, u0)) (rest := []) (st' := []) F dX1_empty_25 rfl (tJ7_fill_53178_41 hr10) mlRX1_58 msJ7_fill_53178 ⟨Nat.le_of_ble_eq_true rfl, Nat.le_of_ble_eq_true rfl⟩ rfl rfl (Nat.le_of_ble_eq_true rfl) rfl ?_
  refine fr_aload_n (q := 29) F dX1_empty_28 rfl rfl ?_
  refine fr_gfR (q := 32) (j := 42) F dX1_empty_29 rfl faRX1_30 (by decide) rfl rfl ?_
  refine fr_iconst (q := 33) (v := 0) F dX1_empty_32 rfl (by decide) ?_
  obtain ⟨n14, hr13, h⟩ := fr_bd_some h
  refine fr_callS (q := 36) (M' := (n14, u0)) (rest := []) (st' := []) F dX1_empty_33 rfl (tJ7_fill_53178_42 hr13) mlRX1_58 msJ7_fill_53178 ⟨Nat.le_of_ble_eq_true rfl, Nat.le_of_ble_eq_true rfl⟩ rfl rfl (Nat.le_of_ble_eq_true rfl) rfl ?_
  cases h
  exact fr_vret F E rfl dX1_empty_36
/-! FeastRota$Tape.at (1, None) -/
def fX6_at (a1 : Int32) (n0 : fr_N) : Option Int32 := if a1 < (0 : Int32) then some (-1000000 : Int32) else if (n0 1 1) ≤ a1 then some (-1000000 : Int32) else fr_ck a1 160 (some (n0 2 (Int32.toNatClampNeg a1)))
theorem tX6_at {l : Launch} {G : fr_G} {u0 : fr_N} {a1 : Int32} {n0 : fr_N} {rz : Int32} (h : fX6_at a1 n0 = some rz) : fr_Met l G YX6_at [.ref 1, .int a1] (n0, u0) (some (.int rz)) (n0, u0) := by
  refine fr_met (pad := List.replicate 0 none) (by decide) (Nat.le_of_ble_eq_true rfl) (fun _ h => List.eq_of_mem_replicate h) ⟨rfl, rfl⟩ (fun K F hG hL E => ?_)
  subst hG; subst hL
  rw [fX6_at] at h
  show fr_V YX6_at K 0 [some (.ref 1), some (.int a1)] [] (n0, u0)
  refine fr_iconst (q := 1) (v := 0) F dX6_at_0 rfl (by decide) ?_
  refine fr_iload_n (q := 2) F dX6_at_1 rfl rfl ?_
  refine fr_icmp_gt (q := 5) (tgt := 22) F dX6_at_2 (by decide) rfl (fun hc1 => ?_) (fun hc1 => ?_)
  · rw [if_pos hc1] at h
    refine fr_ldc (q := 24) F dX6_at_22 rfl kcRX6_19 ?_
    cases h
    exact fr_iret F E rfl dX6_at_24
  · rw [if_neg hc1] at h
    refine fr_iload_n (q := 6) F dX6_at_5 rfl rfl ?_
    refine fr_aload_n (q := 7) F dX6_at_6 rfl rfl ?_
    refine fr_gfI (q := 10) (x := (n0 1 1)) F dX6_at_7 rfl faRX6_15 (by decide) rfl rfl rfl ?_
    refine fr_icmp_ge (q := 13) (tgt := 22) F dX6_at_10 (by decide) rfl (fun hc2 => ?_) (fun hc2 => ?_)
    · rw [if_pos hc2] at h
      refine fr_ldc (q := 24) F dX6_at_22 rfl kcRX6_19 ?_
      cases h
      exact fr_iret F E rfl dX6_at_24
    · rw [if_neg hc2] at h
      refine fr_aload_n (q := 14) F dX6_at_13 rfl rfl ?_
      refine fr_gfR (q := 17) (j := 2) F dX6_at_14 rfl faRX6_11 (by decide) rfl rfl ?_
      refine fr_iload_n (q := 18) F dX6_at_17 rfl rfl ?_
      obtain ⟨hi3, h⟩ := fr_ck_some h
      refine fr_ial (q := 19) (x := (n0 2 (Int32.toNatClampNeg a1))) F dX6_at_18 rfl hi3 (by decide) rfl rfl ?_
      refine fr_goto (tgt := 24) F dX6_at_19 (by decide) ?_
      cases h
      exact fr_iret F E rfl dX6_at_24
/-! FeastRota$Reader.fails (34, None) -/
def fX4_fails (a1 : Int32) (n0 : fr_N) : Option (Bool × fr_N) := fr_lt (fr_up n0 34 4 a1) fun n1 => (fr_lt (fr_up n1 34 5 (n1 34 2)) fun n3 => (some (false, n3)))
theorem tX4_fails {l : Launch} {G : fr_G} {u0 : fr_N} {a1 : Int32} {n0 : fr_N} {rz : Bool} {nz : fr_N} (h : fX4_fails a1 n0 = some (rz, nz)) : fr_Met l G YX4_fails [.ref 34, .int a1] (n0, u0) (some (.int (fr_b rz))) (nz, u0) := by
  refine fr_met (pad := List.replicate 0 none) (by decide) (Nat.le_of_ble_eq_true rfl) (fun _ h => List.eq_of_mem_replicate h) ⟨rfl, rfl⟩ (fun K F hG hL E => ?_)
  subst hG; subst hL
  rw [fX4_fails] at h
  show fr_V YX4_fails K 0 [some (.ref 34), some (.int a1)] [] (n0, u0)
  refine fr_aload_n (q := 1) F dX4_fails_0 rfl rfl ?_
  refine fr_iload_n (q := 2) F dX4_fails_1 rfl rfl ?_
  obtain ⟨n1, hn2, h⟩ := fr_lt_some h
  refine fr_pfI (q := 5) (M' := (n1, u0)) F dX4_fails_2 rfl fpRX4_23 (by decide) rfl rfl (congrArg (fun z => (z, u0)) hn2) ?_
  refine fr_aload_n (q := 6) F dX4_fails_5 rfl rfl ?_
  refine fr_aload_n (q := 7) F dX4_fails_6 rfl rfl ?_
  refine fr_gfI (q := 10) (x := (n1 34 2)) F dX4_fails_7 rfl faRX4_19 (by decide) rfl rfl rfl ?_
  obtain ⟨n3, hn4, h⟩ := fr_lt_some h
  refine fr_pfI (q := 13) (M' := (n3, u0)) F dX4_fails_10 rfl fpRX4_26 (by decide) rfl rfl (congrArg (fun z => (z, u0)) hn4) ?_
  refine fr_iconst (q := 14) (v := 0) F dX4_fails_13 rfl (by decide) ?_
  cases h
  exact fr_zret F E rfl dX4_fails_14
/-! FeastRota$Reader.sign (34, None) -/
def fX4_sign (a1 : Int32) (n0 : fr_N) : Option (Bool × fr_N) := fr_bd (fX6_at (n0 34 2) n0) fun r1 => (if r1 = a1 then fr_lt (fr_up n0 34 2 ((n0 34 2) + (1 : Int32))) fun n4 => (some (true, n4)) else fr_bd2 (fX4_fails (1 : Int32) n0) fun r6 n8 => (some (r6, n8)))
theorem tX4_sign {l : Launch} {G : fr_G} {u0 : fr_N} {a1 : Int32} {n0 : fr_N} {rz : Bool} {nz : fr_N} (h : fX4_sign a1 n0 = some (rz, nz)) : fr_Met l G YX4_sign [.ref 34, .int a1] (n0, u0) (some (.int (fr_b rz))) (nz, u0) := by
  refine fr_met (pad := List.replicate 0 none) (by decide) (Nat.le_of_ble_eq_true rfl) (fun _ h => List.eq_of_mem_replicate h) ⟨rfl, rfl⟩ (fun K F hG hL E => ?_)
  subst hG; subst hL
  rw [fX4_sign] at h
  show fr_V YX4_sign K 0 [some (.ref 34), some (.int a1)] [] (n0, u0)
  refine fr_aload_n (q := 1) F dX4_sign_0 rfl rfl ?_
  refine fr_gfR (q := 4) (j := 1) F dX4_sign_1 rfl faRX4_9 (by decide) rfl rfl ?_
  refine fr_aload_n (q := 5) F dX4_sign_4 rfl rfl ?_
  refine fr_gfI (q := 8) (x := (n0 34 2)) F dX4_sign_5 rfl faRX4_19 (by decide) rfl rfl rfl ?_
  obtain ⟨r1, hr2, h⟩ := fr_bd_some h
  refine fr_callV (q := 11) (M' := (n0, u0)) (rest := []) (st' := [.int r1]) F dX4_sign_8 rfl (tX6_at hr2) mlRX4_61 msX6_at ⟨Nat.le_of_ble_eq_true rfl, Nat.le_of_ble_eq_true rfl⟩ (by decide) rfl rfl rfl (Nat.le_of_ble_eq_true rfl) rfl ?_
  refine fr_iload_n (q := 12) F dX4_sign_11 rfl rfl ?_
  refine fr_icmp_eq (q := 15) (tgt := 21) F dX4_sign_12 (by decide) rfl (fun hc3 => ?_) (fun hc3 => ?_)
  · rw [if_pos hc3] at h
    refine fr_aload_n (q := 22) F dX4_sign_21 rfl rfl ?_
    refine fr_dup (q := 23) F dX4_sign_22 rfl rfl ?_
    refine fr_gfI (q := 26) (x := (n0 34 2)) F dX4_sign_23 rfl faRX4_19 (by decide) rfl rfl rfl ?_
    refine fr_iconst (q := 27) (v := 1) F dX4_sign_26 rfl (by decide) ?_
    refine fr_iadd (q := 28) F dX4_sign_27 rfl ?_
    obtain ⟨n4, hn5, h⟩ := fr_lt_some h
    refine fr_pfI (q := 31) (M' := (n4, u0)) F dX4_sign_28 rfl fpRX4_19 (by decide) rfl rfl (congrArg (fun z => (z, u0)) hn5) ?_
    refine fr_iconst (q := 32) (v := 1) F dX4_sign_31 rfl (by decide) ?_
    cases h
    exact fr_zret F E rfl dX4_sign_32
  · rw [if_neg hc3] at h
    refine fr_aload_n (q := 16) F dX4_sign_15 rfl rfl ?_
    refine fr_iconst (q := 17) (v := 1) F dX4_sign_16 rfl (by decide) ?_
    obtain ⟨r6, n8, hr7, h⟩ := fr_bd2_some h
    refine fr_callV (q := 20) (M' := (n8, u0)) (rest := []) (st' := [.int (fr_b r6)]) F dX4_sign_17 rfl (tX4_fails hr7) mlRX4_72 msX4_fails ⟨Nat.le_of_ble_eq_true rfl, Nat.le_of_ble_eq_true rfl⟩ (by decide) rfl rfl rfl (Nat.le_of_ble_eq_true rfl) rfl ?_
    cases h
    exact fr_zret F E rfl dX4_sign_20
/-! FeastRota$Reader.bareNumber (34, None, None) -/
def fX4_bareNumber_72 (n0 : fr_N) : Option (Bool × fr_N) := fr_bd2 (fX4_fails (1 : Int32) n0) fun r1 n3 => (some (r1, n3))
def fX4_bareNumber_63 (x1 : Int32) (x2 : Int32) (x3 : Int32) (x4 : Int32) (n0 : fr_N) : Option (Bool × fr_N) := if x3 = 0 then fX4_bareNumber_72 n0 else if x3 ≤ (3 : Int32) then fr_bd (fX7_within x4 x1 x2) fun r6 => (if r6 = true then fr_lt (fr_up n0 34 3 x4) fun n9 => (fr_lt (fr_up n9 34 2 ((n9 34 2) + x3)) fun n11 => (some (true, n11))) else fr_bd2 (fX4_fails (2 : Int32) n0) fun r13 n15 => (some (r13, n15))) else fX4_bareNumber_72 n0
def fX4_bareNumber_5 : Nat → Int32 → Int32 → Int32 → Int32 → fr_N → Option (Bool × fr_N)
  | 0, _, _, _, _, _ => none
  | k + 1, x1, x2, x3, x4, n0 => if (4 : Int32) ≤ x3 then fX4_bareNumber_63 x1 x2 x3 x4 n0 else fr_bd (fX6_at ((n0 34 2) + x3) n0) fun r17 => (fr_bd (fX7_within r17 (48 : Int32) (57 : Int32)) fun r19 => (if r19 = true then fr_bd (fX6_at ((n0 34 2) + x3) n0) fun r22 => ((fX4_bareNumber_5 k) x1 x2 (x3 + (1 : Int32)) (((x4 * (10 : Int32)) + r22) - (48 : Int32)) n0) else fX4_bareNumber_63 x1 x2 x3 x4 n0))
def fX4_bareNumber (a1 : Int32) (a2 : Int32) (n0 : fr_N) : Option (Bool × fr_N) := fX4_bareNumber_5 2000 a1 a2 (0 : Int32) (0 : Int32) n0
theorem tX4_bareNumber_72 {K : fr_K} {u0 : fr_N} {rz : Bool} {nz : fr_N} (F : fr_F YX4_bareNumber K) (E : fr_R YX4_bareNumber K (some (.int (fr_b rz))) (nz, u0)) {n0 : fr_N} (h : fX4_bareNumber_72 n0 = some (rz, nz)) : fr_V YX4_bareNumber K 72 [some (.ref 34), none, none, none, none] [] (n0, u0) := by
  rw [fX4_bareNumber_72] at h
  refine fr_aload_n (q := 73) F dX4_bareNumber_72 rfl rfl ?_
  refine fr_iconst (q := 74) (v := 1) F dX4_bareNumber_73 rfl (by decide) ?_
  obtain ⟨r1, n3, hr2, h⟩ := fr_bd2_some h
  refine fr_callV (q := 77) (M' := (n3, u0)) (rest := []) (st' := [.int (fr_b r1)]) F dX4_bareNumber_74 rfl (tX4_fails hr2) mlRX4_72 msX4_fails ⟨Nat.le_of_ble_eq_true rfl, Nat.le_of_ble_eq_true rfl⟩ (by decide) rfl rfl rfl (Nat.le_of_ble_eq_true rfl) rfl ?_
  cases h
  exact fr_zret F E rfl dX4_bareNumber_77
theorem tX4_bareNumber_63 {K : fr_K} {u0 : fr_N} {rz : Bool} {nz : fr_N} (F : fr_F YX4_bareNumber K) (E : fr_R YX4_bareNumber K (some (.int (fr_b rz))) (nz, u0)) {x1 : Int32} {x2 : Int32} {x3 : Int32} {x4 : Int32} {n0 : fr_N} (h : fX4_bareNumber_63 x1 x2 x3 x4 n0 = some (rz, nz)) : fr_V YX4_bareNumber K 63 [some (.ref 34), some (.int x1), some (.int x2), some (.int x3), some (.int x4)] [] (n0, u0) := by
  rw [fX4_bareNumber_63] at h
  refine fr_iload_n (q := 64) F dX4_bareNumber_63 rfl rfl ?_
  refine fr_if_eq (q := 67) (tgt := 72) F dX4_bareNumber_64 (by decide) rfl (fun hc4 => ?_) (fun hc4 => ?_)
  · rw [if_pos hc4] at h
    exact fr_wj (tX4_bareNumber_72 F E h) ⟨rfl, trivial⟩
  · rw [if_neg hc4] at h
    refine fr_iload_n (q := 68) F dX4_bareNumber_67 rfl rfl ?_
    refine fr_iconst (q := 69) (v := 3) F dX4_bareNumber_68 rfl (by decide) ?_
    refine fr_icmp_le (q := 72) (tgt := 78) F dX4_bareNumber_69 (by decide) rfl (fun hc5 => ?_) (fun hc5 => ?_)
    · rw [if_pos hc5] at h
      refine fr_iload (q := 80) F dX4_bareNumber_78 rfl rfl ?_
      refine fr_iload_n (q := 81) F dX4_bareNumber_80 rfl rfl ?_
      refine fr_iload_n (q := 82) F dX4_bareNumber_81 rfl rfl ?_
      obtain ⟨r6, hr7, h⟩ := fr_bd_some h
      refine fr_callN (q := 85) (M' := (n0, u0)) (rest := []) (st' := [.int (fr_b r6)]) F dX4_bareNumber_82 rfl (tX7_within hr7) rfl (by decide) msX7_within ⟨Nat.le_of_ble_eq_true rfl, Nat.le_of_ble_eq_true rfl⟩ rfl rfl (Nat.le_of_ble_eq_true rfl) rfl ?_
      refine fr_if_neb (q := 88) (tgt := 94) F dX4_bareNumber_85 (by decide) rfl (fun hc8 => ?_) (fun hc8 => ?_)
      · rw [if_pos hc8] at h
        refine fr_aload_n (q := 95) F dX4_bareNumber_94 rfl rfl ?_
        refine fr_iload (q := 97) F dX4_bareNumber_95 rfl rfl ?_
        obtain ⟨n9, hn10, h⟩ := fr_lt_some h
        refine fr_pfI (q := 100) (M' := (n9, u0)) F dX4_bareNumber_97 rfl fpRX4_88 (by decide) rfl rfl (congrArg (fun z => (z, u0)) hn10) ?_
        refine fr_aload_n (q := 101) F dX4_bareNumber_100 rfl rfl ?_
        refine fr_dup (q := 102) F dX4_bareNumber_101 rfl rfl ?_
        refine fr_gfI (q := 105) (x := (n9 34 2)) F dX4_bareNumber_102 rfl faRX4_19 (by decide) rfl rfl rfl ?_
        refine fr_iload_n (q := 106) F dX4_bareNumber_105 rfl rfl ?_
        refine fr_iadd (q := 107) F dX4_bareNumber_106 rfl ?_
        obtain ⟨n11, hn12, h⟩ := fr_lt_some h
        refine fr_pfI (q := 110) (M' := (n11, u0)) F dX4_bareNumber_107 rfl fpRX4_19 (by decide) rfl rfl (congrArg (fun z => (z, u0)) hn12) ?_
        refine fr_iconst (q := 111) (v := 1) F dX4_bareNumber_110 rfl (by decide) ?_
        cases h
        exact fr_zret F E rfl dX4_bareNumber_111
      · rw [if_neg hc8] at h
        refine fr_aload_n (q := 89) F dX4_bareNumber_88 rfl rfl ?_
        refine fr_iconst (q := 90) (v := 2) F dX4_bareNumber_89 rfl (by decide) ?_
        obtain ⟨r13, n15, hr14, h⟩ := fr_bd2_some h
        refine fr_callV (q := 93) (M' := (n15, u0)) (rest := []) (st' := [.int (fr_b r13)]) F dX4_bareNumber_90 rfl (tX4_fails hr14) mlRX4_72 msX4_fails ⟨Nat.le_of_ble_eq_true rfl, Nat.le_of_ble_eq_true rfl⟩ (by decide) rfl rfl rfl (Nat.le_of_ble_eq_true rfl) rfl ?_
        cases h
        exact fr_zret F E rfl dX4_bareNumber_93
    · rw [if_neg hc5] at h
      exact fr_wj (tX4_bareNumber_72 F E h) ⟨rfl, trivial⟩
theorem tX4_bareNumber_5 {K : fr_K} {u0 : fr_N} {rz : Bool} {nz : fr_N} (F : fr_F YX4_bareNumber K) (E : fr_R YX4_bareNumber K (some (.int (fr_b rz))) (nz, u0)) : ∀ (k : Nat) (x1 : Int32) (x2 : Int32) (x3 : Int32) (x4 : Int32) (n0 : fr_N), fX4_bareNumber_5 k x1 x2 x3 x4 n0 = some (rz, nz) → fr_V YX4_bareNumber K 5 [some (.ref 34), some (.int x1), some (.int x2), some (.int x3), some (.int x4)] [] (n0, u0) := by
  intro k
  induction k with
  | zero =>
    intro x1 x2 x3 x4 n0 h
    rw [fX4_bareNumber_5] at h
    cases h
  | succ k ih =>
    intro x1 x2 x3 x4 n0 h
    rw [fX4_bareNumber_5] at h
    refine fr_iload_n (q := 6) F dX4_bareNumber_5 rfl rfl ?_
    refine fr_iconst (q := 7) (v := 4) F dX4_bareNumber_6 rfl (by decide) ?_
    refine fr_icmp_ge (q := 10) (tgt := 63) F dX4_bareNumber_7 (by decide) rfl (fun hc16 => ?_) (fun hc16 => ?_)
    · rw [if_pos hc16] at h
      exact fr_wj (tX4_bareNumber_63 F E h) ⟨rfl, ⟨rfl, ⟨rfl, ⟨rfl, ⟨rfl, trivial⟩⟩⟩⟩⟩
    · rw [if_neg hc16] at h
      refine fr_aload_n (q := 11) F dX4_bareNumber_10 rfl rfl ?_
      refine fr_gfR (q := 14) (j := 1) F dX4_bareNumber_11 rfl faRX4_9 (by decide) rfl rfl ?_
      refine fr_aload_n (q := 15) F dX4_bareNumber_14 rfl rfl ?_
      refine fr_gfI (q := 18) (x := (n0 34 2)) F dX4_bareNumber_15 rfl faRX4_19 (by decide) rfl rfl rfl ?_
      refine fr_iload_n (q := 19) F dX4_bareNumber_18 rfl rfl ?_
      refine fr_iadd (q := 20) F dX4_bareNumber_19 rfl ?_
      obtain ⟨r17, hr18, h⟩ := fr_bd_some h
      refine fr_callV (q := 23) (M' := (n0, u0)) (rest := []) (st' := [.int r17]) F dX4_bareNumber_20 rfl (tX6_at hr18) mlRX4_61 msX6_at ⟨Nat.le_of_ble_eq_true rfl, Nat.le_of_ble_eq_true rfl⟩ (by decide) rfl rfl rfl (Nat.le_of_ble_eq_true rfl) rfl ?_
      refine fr_bipush (q := 25) (v := 48) F dX4_bareNumber_23 rfl (by decide) ?_
      refine fr_bipush (q := 27) (v := 57) F dX4_bareNumber_25 rfl (by decide) ?_
      obtain ⟨r19, hr20, h⟩ := fr_bd_some h
      refine fr_callN (q := 30) (M' := (n0, u0)) (rest := []) (st' := [.int (fr_b r19)]) F dX4_bareNumber_27 rfl (tX7_within hr20) rfl (by decide) msX7_within ⟨Nat.le_of_ble_eq_true rfl, Nat.le_of_ble_eq_true rfl⟩ rfl rfl (Nat.le_of_ble_eq_true rfl) rfl ?_
      refine fr_if_eqb (q := 33) (tgt := 63) F dX4_bareNumber_30 (by decide) rfl (fun hc21 => ?_) (fun hc21 => ?_)
      · rw [if_neg hc21] at h
        exact fr_wj (tX4_bareNumber_63 F E h) ⟨rfl, ⟨rfl, ⟨rfl, ⟨rfl, ⟨rfl, trivial⟩⟩⟩⟩⟩
      · rw [if_pos hc21] at h
        refine fr_iload (q := 35) F dX4_bareNumber_33 rfl rfl ?_
        refine fr_bipush (q := 37) (v := 10) F dX4_bareNumber_35 rfl (by decide) ?_
        refine fr_imul (q := 38) F dX4_bareNumber_37 rfl ?_
        refine fr_aload_n (q := 39) F dX4_bareNumber_38 rfl rfl ?_
        refine fr_gfR (q := 42) (j := 1) F dX4_bareNumber_39 rfl faRX4_9 (by decide) rfl rfl ?_
        refine fr_aload_n (q := 43) F dX4_bareNumber_42 rfl rfl ?_
        refine fr_gfI (q := 46) (x := (n0 34 2)) F dX4_bareNumber_43 rfl faRX4_19 (by decide) rfl rfl rfl ?_
        refine fr_iload_n (q := 47) F dX4_bareNumber_46 rfl rfl ?_
        refine fr_iadd (q := 48) F dX4_bareNumber_47 rfl ?_
        obtain ⟨r22, hr23, h⟩ := fr_bd_some h
        refine fr_callV (q := 51) (M' := (n0, u0)) (rest := [.int (x4 * (10 : Int32))]) (st' := [.int r22, .int (x4 * (10 : Int32))]) F dX4_bareNumber_48 rfl (tX6_at hr23) mlRX4_61 msX6_at ⟨Nat.le_of_ble_eq_true rfl, Nat.le_of_ble_eq_true rfl⟩ (by decide) rfl rfl rfl (Nat.le_of_ble_eq_true rfl) rfl ?_
        refine fr_iadd (q := 52) F dX4_bareNumber_51 rfl ?_
        refine fr_bipush (q := 54) (v := 48) F dX4_bareNumber_52 rfl (by decide) ?_
        refine fr_isub (q := 55) F dX4_bareNumber_54 rfl ?_
        refine fr_istore (q := 57) F dX4_bareNumber_55 rfl (by decide) rfl ?_
        refine fr_iinc (q := 60) (v := (x3 + (1 : Int32))) F dX4_bareNumber_57 rfl rfl rfl (by decide) rfl ?_
        refine fr_goto (tgt := 5) F dX4_bareNumber_60 (by decide) ?_
        exact fr_wj (ih _ _ _ _ _ h) ⟨rfl, ⟨rfl, ⟨rfl, ⟨rfl, ⟨rfl, trivial⟩⟩⟩⟩⟩
theorem tX4_bareNumber {l : Launch} {G : fr_G} {u0 : fr_N} {a1 : Int32} {a2 : Int32} {n0 : fr_N} {rz : Bool} {nz : fr_N} (h : fX4_bareNumber a1 a2 n0 = some (rz, nz)) : fr_Met l G YX4_bareNumber [.ref 34, .int a1, .int a2] (n0, u0) (some (.int (fr_b rz))) (nz, u0) := by
  refine fr_met (pad := List.replicate 2 none) (by decide) (Nat.le_of_ble_eq_true rfl) (fun _ h => List.eq_of_mem_replicate h) ⟨rfl, rfl⟩ (fun K F hG hL E => ?_)
  subst hG; subst hL
  rw [fX4_bareNumber] at h
  show fr_V YX4_bareNumber K 0 [some (.ref 34), some (.int a1), some (.int a2), none, none] [] (n0, u0)
  refine fr_iconst (q := 1) (v := 0) F dX4_bareNumber_0 rfl (by decide) ?_
  refine fr_istore_n (q := 2) F dX4_bareNumber_1 rfl (by decide) rfl ?_
  refine fr_iconst (q := 3) (v := 0) F dX4_bareNumber_2 rfl (by decide) ?_
  refine fr_istore (q := 5) F dX4_bareNumber_3 rfl (by decide) rfl ?_
  exact fr_wj (tX4_bareNumber_5 F E _ _ _ _ _ _ h) ⟨rfl, ⟨rfl, ⟨rfl, ⟨rfl, ⟨rfl, trivial⟩⟩⟩⟩⟩
/-! FeastRota$Reader.number (34, None, None, None) -/
def fX4_number (a1 : Int32) (a2 : Int32) (a3 : Int32) (n0 : fr_N) : Option (Bool × fr_N) := fr_bd2 (fX4_bareNumber a1 a2 n0) fun r1 n3 => (if r1 = true then fr_bd2 (fX4_sign a3 n3) fun r5 n7 => (if r5 = true then some (true, n7) else some (false, n7)) else some (false, n3))
theorem tX4_number {l : Launch} {G : fr_G} {u0 : fr_N} {a1 : Int32} {a2 : Int32} {a3 : Int32} {n0 : fr_N} {rz : Bool} {nz : fr_N} (h : fX4_number a1 a2 a3 n0 = some (rz, nz)) : fr_Met l G YX4_number [.ref 34, .int a1, .int a2, .int a3] (n0, u0) (some (.int (fr_b rz))) (nz, u0) := by
  refine fr_met (pad := List.replicate 0 none) (by decide) (Nat.le_of_ble_eq_true rfl) (fun _ h => List.eq_of_mem_replicate h) ⟨rfl, rfl⟩ (fun K F hG hL E => ?_)
  subst hG; subst hL
  rw [fX4_number] at h
  show fr_V YX4_number K 0 [some (.ref 34), some (.int a1), some (.int a2), some (.int a3)] [] (n0, u0)
  refine fr_aload_n (q := 1) F dX4_number_0 rfl rfl ?_
  refine fr_iload_n (q := 2) F dX4_number_1 rfl rfl ?_
  refine fr_iload_n (q := 3) F dX4_number_2 rfl rfl ?_
  obtain ⟨r1, n3, hr2, h⟩ := fr_bd2_some h
  refine fr_callV (q := 6) (M' := (n3, u0)) (rest := []) (st' := [.int (fr_b r1)]) F dX4_number_3 rfl (tX4_bareNumber hr2) mlRX4_100 msX4_bareNumber ⟨Nat.le_of_ble_eq_true rfl, Nat.le_of_ble_eq_true rfl⟩ (by decide) rfl rfl rfl (Nat.le_of_ble_eq_true rfl) rfl ?_
  refine fr_if_eqb (q := 9) (tgt := 21) F dX4_number_6 (by decide) rfl (fun hc4 => ?_) (fun hc4 => ?_)
  · rw [if_neg hc4] at h
    refine fr_iconst (q := 22) (v := 0) F dX4_number_21 rfl (by decide) ?_
    cases h
    exact fr_zret F E rfl dX4_number_22
  · rw [if_pos hc4] at h
    refine fr_aload_n (q := 10) F dX4_number_9 rfl rfl ?_
    refine fr_iload_n (q := 11) F dX4_number_10 rfl rfl ?_
    obtain ⟨r5, n7, hr6, h⟩ := fr_bd2_some h
    refine fr_callV (q := 14) (M' := (n7, u0)) (rest := []) (st' := [.int (fr_b r5)]) F dX4_number_11 rfl (tX4_sign hr6) mlRX4_53 msX4_sign ⟨Nat.le_of_ble_eq_true rfl, Nat.le_of_ble_eq_true rfl⟩ (by decide) rfl rfl rfl (Nat.le_of_ble_eq_true rfl) rfl ?_
    refine fr_if_eqb (q := 17) (tgt := 21) F dX4_number_14 (by decide) rfl (fun hc8 => ?_) (fun hc8 => ?_)
    · rw [if_neg hc8] at h
      refine fr_iconst (q := 22) (v := 0) F dX4_number_21 rfl (by decide) ?_
      cases h
      exact fr_zret F E rfl dX4_number_22
    · rw [if_pos hc8] at h
      refine fr_iconst (q := 18) (v := 1) F dX4_number_17 rfl (by decide) ?_
      refine fr_goto (tgt := 22) F dX4_number_18 (by decide) ?_
      cases h
      exact fr_zret F E rfl dX4_number_22
/-! FeastRota$Reader.lawNumber (34, None, None) -/
def fX4_lawNumber (a1 : Int32) (a2 : Int32) (n0 : fr_N) : Option (Bool × fr_N) := fr_bd (fX7_within a1 (0 : Int32) (5 : Int32)) fun r1 => (if r1 = true then fr_ck a1 6 (fr_ck a1 6 (fr_bd2 (fX4_number (fr_tb1 (Int32.toNatClampNeg a1)) (fr_tb2 (Int32.toNatClampNeg a1)) a2 n0) fun r6 n8 => (if r6 = true then fr_ck a1 6 (fr_lt (fr_up n8 36 (Int32.toNatClampNeg a1) (n8 34 3)) fun n11 => (some (true, n11))) else some (false, n8)))) else some (false, n0))
theorem tX4_lawNumber {l : Launch} {G : fr_G} {u0 : fr_N} {a1 : Int32} {a2 : Int32} {n0 : fr_N} {rz : Bool} {nz : fr_N} (h : fX4_lawNumber a1 a2 n0 = some (rz, nz)) : fr_Met l G YX4_lawNumber [.ref 34, .int a1, .int a2] (n0, u0) (some (.int (fr_b rz))) (nz, u0) := by
  refine fr_met (pad := List.replicate 0 none) (by decide) (Nat.le_of_ble_eq_true rfl) (fun _ h => List.eq_of_mem_replicate h) ⟨rfl, rfl⟩ (fun K F hG hL E => ?_)
  subst hG; subst hL
  rw [fX4_lawNumber] at h
  show fr_V YX4_lawNumber K 0 [some (.ref 34), some (.int a1), some (.int a2)] [] (n0, u0)
  refine fr_iload_n (q := 1) F dX4_lawNumber_0 rfl rfl ?_
  refine fr_iconst (q := 2) (v := 0) F dX4_lawNumber_1 rfl (by decide) ?_
  refine fr_iconst (q := 3) (v := 5) F dX4_lawNumber_2 rfl (by decide) ?_
  obtain ⟨r1, hr2, h⟩ := fr_bd_some h
  refine fr_callN (q := 6) (M' := (n0, u0)) (rest := []) (st' := [.int (fr_b r1)]) F dX4_lawNumber_3 rfl (tX7_within hr2) rfl (by decide) msX7_within ⟨Nat.le_of_ble_eq_true rfl, Nat.le_of_ble_eq_true rfl⟩ rfl rfl (Nat.le_of_ble_eq_true rfl) rfl ?_
  refine fr_if_eqb (q := 9) (tgt := 27) F dX4_lawNumber_6 (by decide) rfl (fun hc3 => ?_) (fun hc3 => ?_)
  · rw [if_neg hc3] at h
    refine fr_iconst (q := 28) (v := 0) F dX4_lawNumber_27 rfl (by decide) ?_
    cases h
    exact fr_zret F E rfl dX4_lawNumber_28
  · rw [if_pos hc3] at h
    refine fr_aload_n (q := 10) F dX4_lawNumber_9 rfl rfl ?_
    refine fr_gsN (q := 13) (k := 0) (j := 67) F dX4_lawNumber_10 rfl (by decide) (by decide) rfl ?_
    refine fr_iload_n (q := 14) F dX4_lawNumber_13 rfl rfl ?_
    obtain ⟨hi4, h⟩ := fr_ck_some h
    refine fr_tal (q := 15) (k := 0) (x := (fr_tb1 (Int32.toNatClampNeg a1))) F dX4_lawNumber_14 rfl hi4 (by decide) rfl rfl ?_
    refine fr_gsN (q := 18) (k := 1) (j := 68) F dX4_lawNumber_15 rfl (by decide) (by decide) rfl ?_
    refine fr_iload_n (q := 19) F dX4_lawNumber_18 rfl rfl ?_
    obtain ⟨hi5, h⟩ := fr_ck_some h
    refine fr_tal (q := 20) (k := 1) (x := (fr_tb2 (Int32.toNatClampNeg a1))) F dX4_lawNumber_19 rfl hi5 (by decide) rfl rfl ?_
    refine fr_iload_n (q := 21) F dX4_lawNumber_20 rfl rfl ?_
    obtain ⟨r6, n8, hr7, h⟩ := fr_bd2_some h
    refine fr_callV (q := 24) (M' := (n8, u0)) (rest := []) (st' := [.int (fr_b r6)]) F dX4_lawNumber_21 rfl (tX4_number hr7) mlRX4_84 msX4_number ⟨Nat.le_of_ble_eq_true rfl, Nat.le_of_ble_eq_true rfl⟩ (by decide) rfl rfl rfl (Nat.le_of_ble_eq_true rfl) rfl ?_
    refine fr_if_neb (q := 27) (tgt := 29) F dX4_lawNumber_24 (by decide) rfl (fun hc9 => ?_) (fun hc9 => ?_)
    · rw [if_pos hc9] at h
      refine fr_aload_n (q := 30) F dX4_lawNumber_29 rfl rfl ?_
      refine fr_gfR (q := 33) (j := 35) F dX4_lawNumber_30 rfl faRX4_15 (by decide) rfl rfl ?_
      refine fr_gfR (q := 36) (j := 36) F dX4_lawNumber_33 rfl faRX4_122 (by decide) rfl rfl ?_
      refine fr_iload_n (q := 37) F dX4_lawNumber_36 rfl rfl ?_
      refine fr_aload_n (q := 38) F dX4_lawNumber_37 rfl rfl ?_
      refine fr_gfI (q := 41) (x := (n8 34 3)) F dX4_lawNumber_38 rfl faRX4_88 (by decide) rfl rfl rfl ?_
      obtain ⟨hi10, h⟩ := fr_ck_some h
      obtain ⟨n11, hn12, h⟩ := fr_lt_some h
      refine fr_ias (q := 42) (M' := (n11, u0)) F dX4_lawNumber_41 rfl hi10 (by decide) rfl (congrArg (fun z => (z, u0)) hn12) ?_
      refine fr_iconst (q := 43) (v := 1) F dX4_lawNumber_42 rfl (by decide) ?_
      cases h
      exact fr_zret F E rfl dX4_lawNumber_43
    · rw [if_neg hc9] at h
      refine fr_iconst (q := 28) (v := 0) F dX4_lawNumber_27 rfl (by decide) ?_
      cases h
      exact fr_zret F E rfl dX4_lawNumber_28
/-! FeastRota$Reader.head (34,) -/
def fX4_head (n0 : fr_N) : Option (Bool × fr_N) := fr_bd2 (fX4_sign (107 : Int32) n0) fun r1 n3 => (if r1 = true then fr_bd2 (fX4_lawNumber (0 : Int32) (44 : Int32) n3) fun r5 n7 => (if r5 = true then fr_bd2 (fX4_lawNumber (1 : Int32) (44 : Int32) n7) fun r9 n11 => (if r9 = true then fr_bd2 (fX4_lawNumber (2 : Int32) (59 : Int32) n11) fun r13 n15 => (if r13 = true then some (true, n15) else some (false, n15)) else some (false, n11)) else some (false, n7)) else some (false, n3))
theorem tX4_head {l : Launch} {G : fr_G} {u0 : fr_N} {n0 : fr_N} {rz : Bool} {nz : fr_N} (h : fX4_head n0 = some (rz, nz)) : fr_Met l G YX4_head [.ref 34] (n0, u0) (some (.int (fr_b rz))) (nz, u0) := by
  refine fr_met (pad := List.replicate 0 none) (by decide) (Nat.le_of_ble_eq_true rfl) (fun _ h => List.eq_of_mem_replicate h) ⟨rfl, rfl⟩ (fun K F hG hL E => ?_)
  subst hG; subst hL
  rw [fX4_head] at h
  show fr_V YX4_head K 0 [some (.ref 34)] [] (n0, u0)
  refine fr_aload_n (q := 1) F dX4_head_0 rfl rfl ?_
  refine fr_bipush (q := 3) (v := 107) F dX4_head_1 rfl (by decide) ?_
  obtain ⟨r1, n3, hr2, h⟩ := fr_bd2_some h
  refine fr_callV (q := 6) (M' := (n3, u0)) (rest := []) (st' := [.int (fr_b r1)]) F dX4_head_3 rfl (tX4_sign hr2) mlRX4_53 msX4_sign ⟨Nat.le_of_ble_eq_true rfl, Nat.le_of_ble_eq_true rfl⟩ (by decide) rfl rfl rfl (Nat.le_of_ble_eq_true rfl) rfl ?_
  refine fr_if_eqb (q := 9) (tgt := 43) F dX4_head_6 (by decide) rfl (fun hc4 => ?_) (fun hc4 => ?_)
  · rw [if_neg hc4] at h
    refine fr_iconst (q := 44) (v := 0) F dX4_head_43 rfl (by decide) ?_
    cases h
    exact fr_zret F E rfl dX4_head_44
  · rw [if_pos hc4] at h
    refine fr_aload_n (q := 10) F dX4_head_9 rfl rfl ?_
    refine fr_iconst (q := 11) (v := 0) F dX4_head_10 rfl (by decide) ?_
    refine fr_bipush (q := 13) (v := 44) F dX4_head_11 rfl (by decide) ?_
    obtain ⟨r5, n7, hr6, h⟩ := fr_bd2_some h
    refine fr_callV (q := 16) (M' := (n7, u0)) (rest := []) (st' := [.int (fr_b r5)]) F dX4_head_13 rfl (tX4_lawNumber hr6) mlRX4_57 msX4_lawNumber ⟨Nat.le_of_ble_eq_true rfl, Nat.le_of_ble_eq_true rfl⟩ (by decide) rfl rfl rfl (Nat.le_of_ble_eq_true rfl) rfl ?_
    refine fr_if_eqb (q := 19) (tgt := 43) F dX4_head_16 (by decide) rfl (fun hc8 => ?_) (fun hc8 => ?_)
    · rw [if_neg hc8] at h
      refine fr_iconst (q := 44) (v := 0) F dX4_head_43 rfl (by decide) ?_
      cases h
      exact fr_zret F E rfl dX4_head_44
    · rw [if_pos hc8] at h
      refine fr_aload_n (q := 20) F dX4_head_19 rfl rfl ?_
      refine fr_iconst (q := 21) (v := 1) F dX4_head_20 rfl (by decide) ?_
      refine fr_bipush (q := 23) (v := 44) F dX4_head_21 rfl (by decide) ?_
      obtain ⟨r9, n11, hr10, h⟩ := fr_bd2_some h
      refine fr_callV (q := 26) (M' := (n11, u0)) (rest := []) (st' := [.int (fr_b r9)]) F dX4_head_23 rfl (tX4_lawNumber hr10) mlRX4_57 msX4_lawNumber ⟨Nat.le_of_ble_eq_true rfl, Nat.le_of_ble_eq_true rfl⟩ (by decide) rfl rfl rfl (Nat.le_of_ble_eq_true rfl) rfl ?_
      refine fr_if_eqb (q := 29) (tgt := 43) F dX4_head_26 (by decide) rfl (fun hc12 => ?_) (fun hc12 => ?_)
      · rw [if_neg hc12] at h
        refine fr_iconst (q := 44) (v := 0) F dX4_head_43 rfl (by decide) ?_
        cases h
        exact fr_zret F E rfl dX4_head_44
      · rw [if_pos hc12] at h
        refine fr_aload_n (q := 30) F dX4_head_29 rfl rfl ?_
        refine fr_iconst (q := 31) (v := 2) F dX4_head_30 rfl (by decide) ?_
        refine fr_bipush (q := 33) (v := 59) F dX4_head_31 rfl (by decide) ?_
        obtain ⟨r13, n15, hr14, h⟩ := fr_bd2_some h
        refine fr_callV (q := 36) (M' := (n15, u0)) (rest := []) (st' := [.int (fr_b r13)]) F dX4_head_33 rfl (tX4_lawNumber hr14) mlRX4_57 msX4_lawNumber ⟨Nat.le_of_ble_eq_true rfl, Nat.le_of_ble_eq_true rfl⟩ (by decide) rfl rfl rfl (Nat.le_of_ble_eq_true rfl) rfl ?_
        refine fr_if_eqb (q := 39) (tgt := 43) F dX4_head_36 (by decide) rfl (fun hc16 => ?_) (fun hc16 => ?_)
        · rw [if_neg hc16] at h
          refine fr_iconst (q := 44) (v := 0) F dX4_head_43 rfl (by decide) ?_
          cases h
          exact fr_zret F E rfl dX4_head_44
        · rw [if_pos hc16] at h
          refine fr_iconst (q := 40) (v := 1) F dX4_head_39 rfl (by decide) ?_
          refine fr_goto (tgt := 44) F dX4_head_40 (by decide) ?_
          cases h
          exact fr_zret F E rfl dX4_head_44
/-! FeastRota$Reader.kindOf (None,) -/
def fX4_kindOf (a0 : Int32) : Option Int32 := if a0 = (98 : Int32) then some (0 : Int32) else (if a0 = (100 : Int32) then some (3 : Int32) else (if a0 = (102 : Int32) then some (1 : Int32) else (if a0 = (110 : Int32) then some (2 : Int32) else (some (-1000000 : Int32)))))
theorem tX4_kindOf {l : Launch} {G : fr_G} {M0 : fr_M} {a0 : Int32} {rz : Int32} (h : fX4_kindOf a0 = some rz) : fr_Met l G YX4_kindOf [.int a0] M0 (some (.int rz)) M0 := by
  refine fr_met (pad := List.replicate 0 none) (by decide) (Nat.le_of_ble_eq_true rfl) (fun _ h => List.eq_of_mem_replicate h) ⟨rfl, rfl⟩ (fun K F hG hL E => ?_)
  subst hG; subst hL
  rw [fX4_kindOf] at h
  show fr_V YX4_kindOf K 0 [some (.int a0)] [] M0
  refine fr_iload_n (q := 1) F dX4_kindOf_0 rfl rfl ?_
  by_cases hc1 : a0 = (98 : Int32)
  · rw [if_pos hc1] at h
    refine fr_lsw (off := 43) (tgt := 44) F dX4_kindOf_1 (by decide) (by rw [hc1]; decide) (by decide) ?_
    refine fr_iconst (q := 45) (v := 0) F dX4_kindOf_44 rfl (by decide) ?_
    cases h
    exact fr_iret F E rfl dX4_kindOf_45
  · rw [if_neg hc1] at h
    by_cases hc2 : a0 = (100 : Int32)
    · rw [if_pos hc2] at h
      refine fr_lsw (off := 49) (tgt := 50) F dX4_kindOf_1 (by decide) (by rw [hc2]; decide) (by decide) ?_
      refine fr_iconst (q := 51) (v := 3) F dX4_kindOf_50 rfl (by decide) ?_
      cases h
      exact fr_iret F E rfl dX4_kindOf_51
    · rw [if_neg hc2] at h
      by_cases hc3 : a0 = (102 : Int32)
      · rw [if_pos hc3] at h
        refine fr_lsw (off := 45) (tgt := 46) F dX4_kindOf_1 (by decide) (by rw [hc3]; decide) (by decide) ?_
        refine fr_iconst (q := 47) (v := 1) F dX4_kindOf_46 rfl (by decide) ?_
        cases h
        exact fr_iret F E rfl dX4_kindOf_47
      · rw [if_neg hc3] at h
        by_cases hc4 : a0 = (110 : Int32)
        · rw [if_pos hc4] at h
          refine fr_lsw (off := 47) (tgt := 48) F dX4_kindOf_1 (by decide) (by rw [hc4]; decide) (by decide) ?_
          refine fr_iconst (q := 49) (v := 2) F dX4_kindOf_48 rfl (by decide) ?_
          cases h
          exact fr_iret F E rfl dX4_kindOf_49
        · rw [if_neg hc4] at h
          refine fr_lsw (off := 51) (tgt := 52) F dX4_kindOf_1 (by decide) (by show Op.lookupswitch.offset [(98, 43), (100, 49), (102, 45), (110, 47)] 51 _ = _; rw [lv_osw hc1 (by decide), lv_osw hc2 (by decide), lv_osw hc3 (by decide), lv_osw hc4 (by decide)]; rfl) (by decide) ?_
          refine fr_ldc (q := 54) F dX4_kindOf_52 rfl kcRX4_69 ?_
          cases h
          exact fr_iret F E rfl dX4_kindOf_54
/-! FeastRota$Book.leastN (None,) -/
def fX1_leastN (a0 : Int32) : Option Int32 := if a0 = 0 then some (0 : Int32) else if a0 = (1 : Int32) then some (0 : Int32) else some (1 : Int32)
theorem tX1_leastN {l : Launch} {G : fr_G} {M0 : fr_M} {a0 : Int32} {rz : Int32} (h : fX1_leastN a0 = some rz) : fr_Met l G YX1_leastN [.int a0] M0 (some (.int rz)) M0 := by
  refine fr_met (pad := List.replicate 0 none) (by decide) (Nat.le_of_ble_eq_true rfl) (fun _ h => List.eq_of_mem_replicate h) ⟨rfl, rfl⟩ (fun K F hG hL E => ?_)
  subst hG; subst hL
  rw [fX1_leastN] at h
  show fr_V YX1_leastN K 0 [some (.int a0)] [] M0
  refine fr_iload_n (q := 1) F dX1_leastN_0 rfl rfl ?_
  refine fr_if_eq (q := 4) (tgt := 9) F dX1_leastN_1 (by decide) rfl (fun hc1 => ?_) (fun hc1 => ?_)
  · rw [if_pos hc1] at h
    refine fr_iconst (q := 10) (v := 0) F dX1_leastN_9 rfl (by decide) ?_
    refine fr_goto (tgt := 14) F dX1_leastN_10 (by decide) ?_
    cases h
    exact fr_iret F E rfl dX1_leastN_14
  · rw [if_neg hc1] at h
    refine fr_iload_n (q := 5) F dX1_leastN_4 rfl rfl ?_
    refine fr_iconst (q := 6) (v := 1) F dX1_leastN_5 rfl (by decide) ?_
    refine fr_icmp_ne (q := 9) (tgt := 13) F dX1_leastN_6 (by decide) rfl (fun hc2 => ?_) (fun hc2 => ?_)
    · rw [if_neg hc2] at h
      refine fr_iconst (q := 14) (v := 1) F dX1_leastN_13 rfl (by decide) ?_
      cases h
      exact fr_iret F E rfl dX1_leastN_14
    · rw [if_pos hc2] at h
      refine fr_iconst (q := 10) (v := 0) F dX1_leastN_9 rfl (by decide) ?_
      refine fr_goto (tgt := 14) F dX1_leastN_10 (by decide) ?_
      cases h
      exact fr_iret F E rfl dX1_leastN_14
/-! FeastRota$Book.greatestN (None,) -/
def fX1_greatestN (a0 : Int32) : Option Int32 := if a0 = 0 then some (99 : Int32) else if a0 = (1 : Int32) then some (99 : Int32) else some (365 : Int32)
theorem tX1_greatestN {l : Launch} {G : fr_G} {M0 : fr_M} {a0 : Int32} {rz : Int32} (h : fX1_greatestN a0 = some rz) : fr_Met l G YX1_greatestN [.int a0] M0 (some (.int rz)) M0 := by
  refine fr_met (pad := List.replicate 0 none) (by decide) (Nat.le_of_ble_eq_true rfl) (fun _ h => List.eq_of_mem_replicate h) ⟨rfl, rfl⟩ (fun K F hG hL E => ?_)
  subst hG; subst hL
  rw [fX1_greatestN] at h
  show fr_V YX1_greatestN K 0 [some (.int a0)] [] M0
  refine fr_iload_n (q := 1) F dX1_greatestN_0 rfl rfl ?_
  refine fr_if_eq (q := 4) (tgt := 9) F dX1_greatestN_1 (by decide) rfl (fun hc1 => ?_) (fun hc1 => ?_)
  · rw [if_pos hc1] at h
    refine fr_bipush (q := 11) (v := 99) F dX1_greatestN_9 rfl (by decide) ?_
    refine fr_goto (tgt := 17) F dX1_greatestN_11 (by decide) ?_
    cases h
    exact fr_iret F E rfl dX1_greatestN_17
  · rw [if_neg hc1] at h
    refine fr_iload_n (q := 5) F dX1_greatestN_4 rfl rfl ?_
    refine fr_iconst (q := 6) (v := 1) F dX1_greatestN_5 rfl (by decide) ?_
    refine fr_icmp_ne (q := 9) (tgt := 14) F dX1_greatestN_6 (by decide) rfl (fun hc2 => ?_) (fun hc2 => ?_)
    · rw [if_neg hc2] at h
      refine fr_sipush (q := 17) (v := 365) F dX1_greatestN_14 rfl (by decide) ?_
      cases h
      exact fr_iret F E rfl dX1_greatestN_17
    · rw [if_pos hc2] at h
      refine fr_bipush (q := 11) (v := 99) F dX1_greatestN_9 rfl (by decide) ?_
      refine fr_goto (tgt := 17) F dX1_greatestN_11 (by decide) ?_
      cases h
      exact fr_iret F E rfl dX1_greatestN_17
/-! FeastRota$Book.tellFeast (35, None, None, None, None) -/
def fX1_tellFeast_35 (a1 : Int32) (a2 : Int32) (a3 : Int32) (a4 : Int32) (n0 : fr_N) : Option fr_N := if (n0 35 1) < (12 : Int32) then fr_ck (((n0 35 1) * (4 : Int32)) + (0 : Int32)) 48 (fr_lt (fr_up n0 37 (Int32.toNatClampNeg (((n0 35 1) * (4 : Int32)) + (0 : Int32))) a1) fun n3 => (fr_ck (((n0 35 1) * (4 : Int32)) + (1 : Int32)) 48 (fr_lt (fr_up n3 37 (Int32.toNatClampNeg (((n0 35 1) * (4 : Int32)) + (1 : Int32))) a2) fun n6 => (fr_ck (((n0 35 1) * (4 : Int32)) + (2 : Int32)) 48 (fr_lt (fr_up n6 37 (Int32.toNatClampNeg (((n0 35 1) * (4 : Int32)) + (2 : Int32))) a3) fun n9 => (fr_ck (((n0 35 1) * (4 : Int32)) + (3 : Int32)) 48 (fr_lt (fr_up n9 37 (Int32.toNatClampNeg (((n0 35 1) * (4 : Int32)) + (3 : Int32))) a4) fun n12 => (fr_lt (fr_up n12 35 1 ((n12 35 1) + (1 : Int32))) fun n14 => (some n14))))))))) else some n0
theorem tX1_tellFeast_35 {l : Launch} {G : fr_G} {u0 : fr_N} {a1 : Int32} {a2 : Int32} {a3 : Int32} {a4 : Int32} {n0 : fr_N} {nz : fr_N} (h : fX1_tellFeast_35 a1 a2 a3 a4 n0 = some nz) : fr_Met l G YX1_tellFeast [.ref 35, .int a1, .int a2, .int a3, .int a4] (n0, u0) none (nz, u0) := by
  refine fr_met (pad := List.replicate 1 none) (by decide) (Nat.le_of_ble_eq_true rfl) (fun _ h => List.eq_of_mem_replicate h) ⟨rfl, rfl⟩ (fun K F hG hL E => ?_)
  subst hG; subst hL
  rw [fX1_tellFeast_35] at h
  show fr_V YX1_tellFeast K 0 [some (.ref 35), some (.int a1), some (.int a2), some (.int a3), some (.int a4), none] [] (n0, u0)
  refine fr_aload_n (q := 1) F dX1_tellFeast_0 rfl rfl ?_
  refine fr_gfI (q := 4) (x := (n0 35 1)) F dX1_tellFeast_1 rfl faRX1_48 (by decide) rfl rfl rfl ?_
  refine fr_bipush (q := 6) (v := 12) F dX1_tellFeast_4 rfl (by decide) ?_
  refine fr_icmp_lt (q := 9) (tgt := 10) F dX1_tellFeast_6 (by decide) rfl (fun hc1 => ?_) (fun hc1 => ?_)
  · rw [if_pos hc1] at h
    refine fr_aload_n (q := 11) F dX1_tellFeast_10 rfl rfl ?_
    refine fr_gfI (q := 14) (x := (n0 35 1)) F dX1_tellFeast_11 rfl faRX1_48 (by decide) rfl rfl rfl ?_
    refine fr_iconst (q := 15) (v := 4) F dX1_tellFeast_14 rfl (by decide) ?_
    refine fr_imul (q := 16) F dX1_tellFeast_15 rfl ?_
    refine fr_istore (q := 18) F dX1_tellFeast_16 rfl (by decide) rfl ?_
    refine fr_aload_n (q := 19) F dX1_tellFeast_18 rfl rfl ?_
    refine fr_gfR (q := 22) (j := 37) F dX1_tellFeast_19 rfl faRX1_15 (by decide) rfl rfl ?_
    refine fr_iload (q := 24) F dX1_tellFeast_22 rfl rfl ?_
    refine fr_iconst (q := 25) (v := 0) F dX1_tellFeast_24 rfl (by decide) ?_
    refine fr_iadd (q := 26) F dX1_tellFeast_25 rfl ?_
    refine fr_iload_n (q := 27) F dX1_tellFeast_26 rfl rfl ?_
    obtain ⟨hi2, h⟩ := fr_ck_some h
    obtain ⟨n3, hn4, h⟩ := fr_lt_some h
    refine fr_ias (q := 28) (M' := (n3, u0)) F dX1_tellFeast_27 rfl hi2 (by decide) rfl (congrArg (fun z => (z, u0)) hn4) ?_
    refine fr_aload_n (q := 29) F dX1_tellFeast_28 rfl rfl ?_
    refine fr_gfR (q := 32) (j := 37) F dX1_tellFeast_29 rfl faRX1_15 (by decide) rfl rfl ?_
    refine fr_iload (q := 34) F dX1_tellFeast_32 rfl rfl ?_
    refine fr_iconst (q := 35) (v := 1) F dX1_tellFeast_34 rfl (by decide) ?_
    refine fr_iadd (q := 36) F dX1_tellFeast_35 rfl ?_
    refine fr_iload_n (q := 37) F dX1_tellFeast_36 rfl rfl ?_
    obtain ⟨hi5, h⟩ := fr_ck_some h
    obtain ⟨n6, hn7, h⟩ := fr_lt_some h
    refine fr_ias (q := 38) (M' := (n6, u0)) F dX1_tellFeast_37 rfl hi5 (by decide) rfl (congrArg (fun z => (z, u0)) hn7) ?_
    refine fr_aload_n (q := 39) F dX1_tellFeast_38 rfl rfl ?_
    refine fr_gfR (q := 42) (j := 37) F dX1_tellFeast_39 rfl faRX1_15 (by decide) rfl rfl ?_
    refine fr_iload (q := 44) F dX1_tellFeast_42 rfl rfl ?_
    refine fr_iconst (q := 45) (v := 2) F dX1_tellFeast_44 rfl (by decide) ?_
    refine fr_iadd (q := 46) F dX1_tellFeast_45 rfl ?_
    refine fr_iload_n (q := 47) F dX1_tellFeast_46 rfl rfl ?_
    obtain ⟨hi8, h⟩ := fr_ck_some h
    obtain ⟨n9, hn10, h⟩ := fr_lt_some h
    refine fr_ias (q := 48) (M' := (n9, u0)) F dX1_tellFeast_47 rfl hi8 (by decide) rfl (congrArg (fun z => (z, u0)) hn10) ?_
    refine fr_aload_n (q := 49) F dX1_tellFeast_48 rfl rfl ?_
    refine fr_gfR (q := 52) (j := 37) F dX1_tellFeast_49 rfl faRX1_15 (by decide) rfl rfl ?_
    refine fr_iload (q := 54) F dX1_tellFeast_52 rfl rfl ?_
    refine fr_iconst (q := 55) (v := 3) F dX1_tellFeast_54 rfl (by decide) ?_
    refine fr_iadd (q := 56) F dX1_tellFeast_55 rfl ?_
    refine fr_iload (q := 58) F dX1_tellFeast_56 rfl rfl ?_
    obtain ⟨hi11, h⟩ := fr_ck_some h
    obtain ⟨n12, hn13, h⟩ := fr_lt_some h
    refine fr_ias (q := 59) (M' := (n12, u0)) F dX1_tellFeast_58 rfl hi11 (by decide) rfl (congrArg (fun z => (z, u0)) hn13) ?_
    refine fr_aload_n (q := 60) F dX1_tellFeast_59 rfl rfl ?_
    refine fr_dup (q := 61) F dX1_tellFeast_60 rfl rfl ?_
    refine fr_gfI (q := 64) (x := (n12 35 1)) F dX1_tellFeast_61 rfl faRX1_48 (by decide) rfl rfl rfl ?_
    refine fr_iconst (q := 65) (v := 1) F dX1_tellFeast_64 rfl (by decide) ?_
    refine fr_iadd (q := 66) F dX1_tellFeast_65 rfl ?_
    obtain ⟨n14, hn15, h⟩ := fr_lt_some h
    refine fr_pfI (q := 69) (M' := (n14, u0)) F dX1_tellFeast_66 rfl fpRX1_48 (by decide) rfl rfl (congrArg (fun z => (z, u0)) hn15) ?_
    cases h
    exact fr_vret F E rfl dX1_tellFeast_69
  · rw [if_neg hc1] at h
    cases h
    exact fr_vret F E rfl dX1_tellFeast_9
/-! FeastRota$Reader.oneFeast (34, None) -/
def fX4_oneFeast (a1 : Int32) (n0 : fr_N) : Option (Bool × fr_N) := fr_lt (fr_up n0 34 2 ((n0 34 2) + (1 : Int32))) fun n1 => (fr_bd (fX1_leastN a1) fun r3 => (fr_bd (fX1_greatestN a1) fun r5 => (fr_bd2 (fX4_number r3 r5 (44 : Int32) n1) fun r7 n9 => (if r7 = true then fr_bd2 (fX4_number (1 : Int32) (5 : Int32) (44 : Int32) n9) fun r11 n13 => (if r11 = true then fr_bd2 (fX4_number (1 : Int32) (6 : Int32) (59 : Int32) n13) fun r15 n17 => (if r15 = true then fr_bd (fX1_tellFeast_35 a1 (n9 34 3) (n13 34 3) (n17 34 3) n17) fun n21 => (some (true, n21)) else some (false, n17)) else some (false, n13)) else some (false, n9)))))
theorem tX4_oneFeast {l : Launch} {G : fr_G} {u0 : fr_N} {a1 : Int32} {n0 : fr_N} {rz : Bool} {nz : fr_N} (h : fX4_oneFeast a1 n0 = some (rz, nz)) : fr_Met l G YX4_oneFeast [.ref 34, .int a1] (n0, u0) (some (.int (fr_b rz))) (nz, u0) := by
  refine fr_met (pad := List.replicate 2 none) (by decide) (Nat.le_of_ble_eq_true rfl) (fun _ h => List.eq_of_mem_replicate h) ⟨rfl, rfl⟩ (fun K F hG hL E => ?_)
  subst hG; subst hL
  rw [fX4_oneFeast] at h
  show fr_V YX4_oneFeast K 0 [some (.ref 34), some (.int a1), none, none] [] (n0, u0)
  refine fr_aload_n (q := 1) F dX4_oneFeast_0 rfl rfl ?_
  refine fr_dup (q := 2) F dX4_oneFeast_1 rfl rfl ?_
  refine fr_gfI (q := 5) (x := (n0 34 2)) F dX4_oneFeast_2 rfl faRX4_19 (by decide) rfl rfl rfl ?_
  refine fr_iconst (q := 6) (v := 1) F dX4_oneFeast_5 rfl (by decide) ?_
  refine fr_iadd (q := 7) F dX4_oneFeast_6 rfl ?_
  obtain ⟨n1, hn2, h⟩ := fr_lt_some h
  refine fr_pfI (q := 10) (M' := (n1, u0)) F dX4_oneFeast_7 rfl fpRX4_19 (by decide) rfl rfl (congrArg (fun z => (z, u0)) hn2) ?_
  refine fr_aload_n (q := 11) F dX4_oneFeast_10 rfl rfl ?_
  refine fr_iload_n (q := 12) F dX4_oneFeast_11 rfl rfl ?_
  obtain ⟨r3, hr4, h⟩ := fr_bd_some h
  refine fr_callS (q := 15) (M' := (n1, u0)) (rest := [.ref 34]) (st' := [.int r3, .ref 34]) F dX4_oneFeast_12 rfl (tX1_leastN hr4) mlRX4_78 msX1_leastN ⟨Nat.le_of_ble_eq_true rfl, Nat.le_of_ble_eq_true rfl⟩ rfl rfl (Nat.le_of_ble_eq_true rfl) rfl ?_
  refine fr_iload_n (q := 16) F dX4_oneFeast_15 rfl rfl ?_
  obtain ⟨r5, hr6, h⟩ := fr_bd_some h
  refine fr_callS (q := 19) (M' := (n1, u0)) (rest := [.int r3, .ref 34]) (st' := [.int r5, .int r3, .ref 34]) F dX4_oneFeast_16 rfl (tX1_greatestN hr6) mlRX4_81 msX1_greatestN ⟨Nat.le_of_ble_eq_true rfl, Nat.le_of_ble_eq_true rfl⟩ rfl rfl (Nat.le_of_ble_eq_true rfl) rfl ?_
  refine fr_bipush (q := 21) (v := 44) F dX4_oneFeast_19 rfl (by decide) ?_
  obtain ⟨r7, n9, hr8, h⟩ := fr_bd2_some h
  refine fr_callV (q := 24) (M' := (n9, u0)) (rest := []) (st' := [.int (fr_b r7)]) F dX4_oneFeast_21 rfl (tX4_number hr8) mlRX4_84 msX4_number ⟨Nat.le_of_ble_eq_true rfl, Nat.le_of_ble_eq_true rfl⟩ (by decide) rfl rfl rfl (Nat.le_of_ble_eq_true rfl) rfl ?_
  refine fr_if_neb (q := 27) (tgt := 29) F dX4_oneFeast_24 (by decide) rfl (fun hc10 => ?_) (fun hc10 => ?_)
  · rw [if_pos hc10] at h
    refine fr_aload_n (q := 30) F dX4_oneFeast_29 rfl rfl ?_
    refine fr_gfI (q := 33) (x := (n9 34 3)) F dX4_oneFeast_30 rfl faRX4_88 (by decide) rfl rfl rfl ?_
    refine fr_istore_n (q := 34) F dX4_oneFeast_33 rfl (by decide) rfl ?_
    refine fr_aload_n (q := 35) F dX4_oneFeast_34 rfl rfl ?_
    refine fr_iconst (q := 36) (v := 1) F dX4_oneFeast_35 rfl (by decide) ?_
    refine fr_iconst (q := 37) (v := 5) F dX4_oneFeast_36 rfl (by decide) ?_
    refine fr_bipush (q := 39) (v := 44) F dX4_oneFeast_37 rfl (by decide) ?_
    obtain ⟨r11, n13, hr12, h⟩ := fr_bd2_some h
    refine fr_callV (q := 42) (M' := (n13, u0)) (rest := []) (st' := [.int (fr_b r11)]) F dX4_oneFeast_39 rfl (tX4_number hr12) mlRX4_84 msX4_number ⟨Nat.le_of_ble_eq_true rfl, Nat.le_of_ble_eq_true rfl⟩ (by decide) rfl rfl rfl (Nat.le_of_ble_eq_true rfl) rfl ?_
    refine fr_if_neb (q := 45) (tgt := 47) F dX4_oneFeast_42 (by decide) rfl (fun hc14 => ?_) (fun hc14 => ?_)
    · rw [if_pos hc14] at h
      refine fr_aload_n (q := 48) F dX4_oneFeast_47 rfl rfl ?_
      refine fr_gfI (q := 51) (x := (n13 34 3)) F dX4_oneFeast_48 rfl faRX4_88 (by decide) rfl rfl rfl ?_
      refine fr_istore_n (q := 52) F dX4_oneFeast_51 rfl (by decide) rfl ?_
      refine fr_aload_n (q := 53) F dX4_oneFeast_52 rfl rfl ?_
      refine fr_iconst (q := 54) (v := 1) F dX4_oneFeast_53 rfl (by decide) ?_
      refine fr_bipush (q := 56) (v := 6) F dX4_oneFeast_54 rfl (by decide) ?_
      refine fr_bipush (q := 58) (v := 59) F dX4_oneFeast_56 rfl (by decide) ?_
      obtain ⟨r15, n17, hr16, h⟩ := fr_bd2_some h
      refine fr_callV (q := 61) (M' := (n17, u0)) (rest := []) (st' := [.int (fr_b r15)]) F dX4_oneFeast_58 rfl (tX4_number hr16) mlRX4_84 msX4_number ⟨Nat.le_of_ble_eq_true rfl, Nat.le_of_ble_eq_true rfl⟩ (by decide) rfl rfl rfl (Nat.le_of_ble_eq_true rfl) rfl ?_
      refine fr_if_neb (q := 64) (tgt := 66) F dX4_oneFeast_61 (by decide) rfl (fun hc18 => ?_) (fun hc18 => ?_)
      · rw [if_pos hc18] at h
        refine fr_aload_n (q := 67) F dX4_oneFeast_66 rfl rfl ?_
        refine fr_gfR (q := 70) (j := 35) F dX4_oneFeast_67 rfl faRX4_15 (by decide) rfl rfl ?_
        refine fr_iload_n (q := 71) F dX4_oneFeast_70 rfl rfl ?_
        refine fr_iload_n (q := 72) F dX4_oneFeast_71 rfl rfl ?_
        refine fr_iload_n (q := 73) F dX4_oneFeast_72 rfl rfl ?_
        refine fr_aload_n (q := 74) F dX4_oneFeast_73 rfl rfl ?_
        refine fr_gfI (q := 77) (x := (n17 34 3)) F dX4_oneFeast_74 rfl faRX4_88 (by decide) rfl rfl rfl ?_
        obtain ⟨n21, hr20, h⟩ := fr_bd_some h
        refine fr_callV (q := 80) (M' := (n21, u0)) (rest := []) (st' := []) F dX4_oneFeast_77 rfl (tX1_tellFeast_35 hr20) mlRX4_91 msX1_tellFeast ⟨Nat.le_of_ble_eq_true rfl, Nat.le_of_ble_eq_true rfl⟩ (by decide) rfl rfl rfl (Nat.le_of_ble_eq_true rfl) rfl ?_
        refine fr_iconst (q := 81) (v := 1) F dX4_oneFeast_80 rfl (by decide) ?_
        cases h
        exact fr_zret F E rfl dX4_oneFeast_81
      · rw [if_neg hc18] at h
        refine fr_iconst (q := 65) (v := 0) F dX4_oneFeast_64 rfl (by decide) ?_
        cases h
        exact fr_zret F E rfl dX4_oneFeast_65
    · rw [if_neg hc14] at h
      refine fr_iconst (q := 46) (v := 0) F dX4_oneFeast_45 rfl (by decide) ?_
      cases h
      exact fr_zret F E rfl dX4_oneFeast_46
  · rw [if_neg hc10] at h
    refine fr_iconst (q := 28) (v := 0) F dX4_oneFeast_27 rfl (by decide) ?_
    cases h
    exact fr_zret F E rfl dX4_oneFeast_28
/-! FeastRota$Reader.feasts (34,) -/
def fX4_feasts_2 : Nat → Int32 → fr_N → Option (Bool × fr_N)
  | 0, _, _ => none
  | k + 1, x1, n0 => if (12 : Int32) < x1 then some (true, n0) else fr_bd (fX6_at (n0 34 2) n0) fun r2 => (fr_bd (fX4_kindOf r2) fun r4 => (if r4 = (-1000000 : Int32) then some (true, n0) else if (n0 35 1) < (12 : Int32) then fr_bd2 (fX4_oneFeast r4 n0) fun r8 n10 => (if r8 = true then (fX4_feasts_2 k) (x1 + (1 : Int32)) n10 else some (false, n10)) else fr_bd2 (fX4_fails (3 : Int32) n0) fun r12 n14 => (some (r12, n14))))
def fX4_feasts (n0 : fr_N) : Option (Bool × fr_N) := fX4_feasts_2 2000 (0 : Int32) n0
theorem tX4_feasts_2 {K : fr_K} {u0 : fr_N} {rz : Bool} {nz : fr_N} (F : fr_F YX4_feasts K) (E : fr_R YX4_feasts K (some (.int (fr_b rz))) (nz, u0)) : ∀ (k : Nat) (x1 : Int32) (n0 : fr_N), fX4_feasts_2 k x1 n0 = some (rz, nz) → fr_V YX4_feasts K 2 [some (.ref 34), some (.int x1), none] [] (n0, u0) := by
  intro k
  induction k with
  | zero =>
    intro x1 n0 h
    rw [fX4_feasts_2] at h
    cases h
  | succ k ih =>
    intro x1 n0 h
    rw [fX4_feasts_2] at h
    refine fr_iload_n (q := 3) F dX4_feasts_2 rfl rfl ?_
    refine fr_bipush (q := 5) (v := 12) F dX4_feasts_3 rfl (by decide) ?_
    refine fr_icmp_gt (q := 8) (tgt := 65) F dX4_feasts_5 (by decide) rfl (fun hc1 => ?_) (fun hc1 => ?_)
    · rw [if_pos hc1] at h
      refine fr_iconst (q := 66) (v := 1) F dX4_feasts_65 rfl (by decide) ?_
      cases h
      exact fr_zret F E rfl dX4_feasts_66
    · rw [if_neg hc1] at h
      refine fr_aload_n (q := 9) F dX4_feasts_8 rfl rfl ?_
      refine fr_gfR (q := 12) (j := 1) F dX4_feasts_9 rfl faRX4_9 (by decide) rfl rfl ?_
      refine fr_aload_n (q := 13) F dX4_feasts_12 rfl rfl ?_
      refine fr_gfI (q := 16) (x := (n0 34 2)) F dX4_feasts_13 rfl faRX4_19 (by decide) rfl rfl rfl ?_
      obtain ⟨r2, hr3, h⟩ := fr_bd_some h
      refine fr_callV (q := 19) (M' := (n0, u0)) (rest := []) (st' := [.int r2]) F dX4_feasts_16 rfl (tX6_at hr3) mlRX4_61 msX6_at ⟨Nat.le_of_ble_eq_true rfl, Nat.le_of_ble_eq_true rfl⟩ (by decide) rfl rfl rfl (Nat.le_of_ble_eq_true rfl) rfl ?_
      obtain ⟨r4, hr5, h⟩ := fr_bd_some h
      refine fr_callS (q := 22) (M' := (n0, u0)) (rest := []) (st' := [.int r4]) F dX4_feasts_19 rfl (tX4_kindOf hr5) mlRX4_66 msX4_kindOf ⟨Nat.le_of_ble_eq_true rfl, Nat.le_of_ble_eq_true rfl⟩ rfl rfl (Nat.le_of_ble_eq_true rfl) rfl ?_
      refine fr_istore_n (q := 23) F dX4_feasts_22 rfl (by decide) rfl ?_
      refine fr_iload_n (q := 24) F dX4_feasts_23 rfl rfl ?_
      refine fr_ldc (q := 26) F dX4_feasts_24 rfl kcRX4_69 ?_
      refine fr_icmp_ne (q := 29) (tgt := 31) F dX4_feasts_26 (by decide) rfl (fun hc6 => ?_) (fun hc6 => ?_)
      · rw [if_neg hc6] at h
        refine fr_aload_n (q := 32) F dX4_feasts_31 rfl rfl ?_
        refine fr_gfR (q := 35) (j := 35) F dX4_feasts_32 rfl faRX4_15 (by decide) rfl rfl ?_
        refine fr_gfI (q := 38) (x := (n0 35 1)) F dX4_feasts_35 rfl faRX4_70 (by decide) rfl rfl rfl ?_
        refine fr_bipush (q := 40) (v := 12) F dX4_feasts_38 rfl (by decide) ?_
        refine fr_icmp_lt (q := 43) (tgt := 49) F dX4_feasts_40 (by decide) rfl (fun hc7 => ?_) (fun hc7 => ?_)
        · rw [if_pos hc7] at h
          refine fr_aload_n (q := 50) F dX4_feasts_49 rfl rfl ?_
          refine fr_iload_n (q := 51) F dX4_feasts_50 rfl rfl ?_
          obtain ⟨r8, n10, hr9, h⟩ := fr_bd2_some h
          refine fr_callV (q := 54) (M' := (n10, u0)) (rest := []) (st' := [.int (fr_b r8)]) F dX4_feasts_51 rfl (tX4_oneFeast hr9) mlRX4_75 msX4_oneFeast ⟨Nat.le_of_ble_eq_true rfl, Nat.le_of_ble_eq_true rfl⟩ (by decide) rfl rfl rfl (Nat.le_of_ble_eq_true rfl) rfl ?_
          refine fr_if_neb (q := 57) (tgt := 59) F dX4_feasts_54 (by decide) rfl (fun hc11 => ?_) (fun hc11 => ?_)
          · rw [if_pos hc11] at h
            refine fr_iinc (q := 62) (v := (x1 + (1 : Int32))) F dX4_feasts_59 rfl rfl rfl (by decide) rfl ?_
            refine fr_goto (tgt := 2) F dX4_feasts_62 (by decide) ?_
            exact fr_wj (ih _ _ h) ⟨rfl, ⟨rfl, trivial⟩⟩
          · rw [if_neg hc11] at h
            refine fr_iconst (q := 58) (v := 0) F dX4_feasts_57 rfl (by decide) ?_
            cases h
            exact fr_zret F E rfl dX4_feasts_58
        · rw [if_neg hc7] at h
          refine fr_aload_n (q := 44) F dX4_feasts_43 rfl rfl ?_
          refine fr_iconst (q := 45) (v := 3) F dX4_feasts_44 rfl (by decide) ?_
          obtain ⟨r12, n14, hr13, h⟩ := fr_bd2_some h
          refine fr_callV (q := 48) (M' := (n14, u0)) (rest := []) (st' := [.int (fr_b r12)]) F dX4_feasts_45 rfl (tX4_fails hr13) mlRX4_72 msX4_fails ⟨Nat.le_of_ble_eq_true rfl, Nat.le_of_ble_eq_true rfl⟩ (by decide) rfl rfl rfl (Nat.le_of_ble_eq_true rfl) rfl ?_
          cases h
          exact fr_zret F E rfl dX4_feasts_48
      · rw [if_pos hc6] at h
        refine fr_iconst (q := 30) (v := 1) F dX4_feasts_29 rfl (by decide) ?_
        cases h
        exact fr_zret F E rfl dX4_feasts_30
theorem tX4_feasts {l : Launch} {G : fr_G} {u0 : fr_N} {n0 : fr_N} {rz : Bool} {nz : fr_N} (h : fX4_feasts n0 = some (rz, nz)) : fr_Met l G YX4_feasts [.ref 34] (n0, u0) (some (.int (fr_b rz))) (nz, u0) := by
  refine fr_met (pad := List.replicate 2 none) (by decide) (Nat.le_of_ble_eq_true rfl) (fun _ h => List.eq_of_mem_replicate h) ⟨rfl, rfl⟩ (fun K F hG hL E => ?_)
  subst hG; subst hL
  rw [fX4_feasts] at h
  show fr_V YX4_feasts K 0 [some (.ref 34), none, none] [] (n0, u0)
  refine fr_iconst (q := 1) (v := 0) F dX4_feasts_0 rfl (by decide) ?_
  refine fr_istore_n (q := 2) F dX4_feasts_1 rfl (by decide) rfl ?_
  exact fr_wj (tX4_feasts_2 F E _ _ _ h) ⟨rfl, ⟨rfl, trivial⟩⟩
/-! FeastRota$Book.tellSeason (35, None, None, None) -/
def fX1_tellSeason_35 (a1 : Int32) (a2 : Int32) (a3 : Int32) (n0 : fr_N) : Option fr_N := if (n0 35 2) < (4 : Int32) then fr_ck (n0 35 2) 4 (fr_lt (fr_up n0 38 (Int32.toNatClampNeg (n0 35 2)) a1) fun n3 => (fr_ck (n3 35 2) 4 (fr_lt (fr_up n3 39 (Int32.toNatClampNeg (n3 35 2)) a2) fun n6 => (fr_ck (n6 35 2) 4 (fr_lt (fr_up n6 40 (Int32.toNatClampNeg (n6 35 2)) a3) fun n9 => (fr_lt (fr_up n9 35 2 ((n9 35 2) + (1 : Int32))) fun n11 => (some n11))))))) else some n0
theorem tX1_tellSeason_35 {l : Launch} {G : fr_G} {u0 : fr_N} {a1 : Int32} {a2 : Int32} {a3 : Int32} {n0 : fr_N} {nz : fr_N} (h : fX1_tellSeason_35 a1 a2 a3 n0 = some nz) : fr_Met l G YX1_tellSeason [.ref 35, .int a1, .int a2, .int a3] (n0, u0) none (nz, u0) := by
  refine fr_met (pad := List.replicate 0 none) (by decide) (Nat.le_of_ble_eq_true rfl) (fun _ h => List.eq_of_mem_replicate h) ⟨rfl, rfl⟩ (fun K F hG hL E => ?_)
  subst hG; subst hL
  rw [fX1_tellSeason_35] at h
  show fr_V YX1_tellSeason K 0 [some (.ref 35), some (.int a1), some (.int a2), some (.int a3)] [] (n0, u0)
  refine fr_aload_n (q := 1) F dX1_tellSeason_0 rfl rfl ?_
  refine fr_gfI (q := 4) (x := (n0 35 2)) F dX1_tellSeason_1 rfl faRX1_52 (by decide) rfl rfl rfl ?_
  refine fr_iconst (q := 5) (v := 4) F dX1_tellSeason_4 rfl (by decide) ?_
  refine fr_icmp_lt (q := 8) (tgt := 9) F dX1_tellSeason_5 (by decide) rfl (fun hc1 => ?_) (fun hc1 => ?_)
  · rw [if_pos hc1] at h
    refine fr_aload_n (q := 10) F dX1_tellSeason_9 rfl rfl ?_
    refine fr_gfR (q := 13) (j := 38) F dX1_tellSeason_10 rfl faRX1_18 (by decide) rfl rfl ?_
    refine fr_aload_n (q := 14) F dX1_tellSeason_13 rfl rfl ?_
    refine fr_gfI (q := 17) (x := (n0 35 2)) F dX1_tellSeason_14 rfl faRX1_52 (by decide) rfl rfl rfl ?_
    refine fr_iload_n (q := 18) F dX1_tellSeason_17 rfl rfl ?_
    obtain ⟨hi2, h⟩ := fr_ck_some h
    obtain ⟨n3, hn4, h⟩ := fr_lt_some h
    refine fr_ias (q := 19) (M' := (n3, u0)) F dX1_tellSeason_18 rfl hi2 (by decide) rfl (congrArg (fun z => (z, u0)) hn4) ?_
    refine fr_aload_n (q := 20) F dX1_tellSeason_19 rfl rfl ?_
    refine fr_gfR (q := 23) (j := 39) F dX1_tellSeason_20 rfl faRX1_21 (by decide) rfl rfl ?_
    refine fr_aload_n (q := 24) F dX1_tellSeason_23 rfl rfl ?_
    refine fr_gfI (q := 27) (x := (n3 35 2)) F dX1_tellSeason_24 rfl faRX1_52 (by decide) rfl rfl rfl ?_
    refine fr_iload_n (q := 28) F dX1_tellSeason_27 rfl rfl ?_
    obtain ⟨hi5, h⟩ := fr_ck_some h
    obtain ⟨n6, hn7, h⟩ := fr_lt_some h
    refine fr_ias (q := 29) (M' := (n6, u0)) F dX1_tellSeason_28 rfl hi5 (by decide) rfl (congrArg (fun z => (z, u0)) hn7) ?_
    refine fr_aload_n (q := 30) F dX1_tellSeason_29 rfl rfl ?_
    refine fr_gfR (q := 33) (j := 40) F dX1_tellSeason_30 rfl faRX1_24 (by decide) rfl rfl ?_
    refine fr_aload_n (q := 34) F dX1_tellSeason_33 rfl rfl ?_
    refine fr_gfI (q := 37) (x := (n6 35 2)) F dX1_tellSeason_34 rfl faRX1_52 (by decide) rfl rfl rfl ?_
    refine fr_iload_n (q := 38) F dX1_tellSeason_37 rfl rfl ?_
    obtain ⟨hi8, h⟩ := fr_ck_some h
    obtain ⟨n9, hn10, h⟩ := fr_lt_some h
    refine fr_ias (q := 39) (M' := (n9, u0)) F dX1_tellSeason_38 rfl hi8 (by decide) rfl (congrArg (fun z => (z, u0)) hn10) ?_
    refine fr_aload_n (q := 40) F dX1_tellSeason_39 rfl rfl ?_
    refine fr_dup (q := 41) F dX1_tellSeason_40 rfl rfl ?_
    refine fr_gfI (q := 44) (x := (n9 35 2)) F dX1_tellSeason_41 rfl faRX1_52 (by decide) rfl rfl rfl ?_
    refine fr_iconst (q := 45) (v := 1) F dX1_tellSeason_44 rfl (by decide) ?_
    refine fr_iadd (q := 46) F dX1_tellSeason_45 rfl ?_
    obtain ⟨n11, hn12, h⟩ := fr_lt_some h
    refine fr_pfI (q := 49) (M' := (n11, u0)) F dX1_tellSeason_46 rfl fpRX1_52 (by decide) rfl rfl (congrArg (fun z => (z, u0)) hn12) ?_
    cases h
    exact fr_vret F E rfl dX1_tellSeason_49
  · rw [if_neg hc1] at h
    cases h
    exact fr_vret F E rfl dX1_tellSeason_8
/-! FeastRota$Reader.oneSeason (34,) -/
def fX4_oneSeason (n0 : fr_N) : Option (Bool × fr_N) := fr_lt (fr_up n0 34 2 ((n0 34 2) + (1 : Int32))) fun n1 => (fr_bd2 (fX4_number (0 : Int32) ((n1 35 1) - (1 : Int32)) (44 : Int32) n1) fun r3 n5 => (if r3 = true then fr_bd2 (fX4_bareNumber (0 : Int32) ((n5 35 1) - (1 : Int32)) n5) fun r7 n9 => (if r7 = true then if (n9 34 3) = (n5 34 3) then fr_lt (fr_up n9 34 2 (n5 34 2)) fun n23 => (fr_bd2 (fX4_fails (2 : Int32) n23) fun r25 n27 => (some (r25, n27))) else fr_bd2 (fX4_sign (44 : Int32) n9) fun r12 n14 => (if r12 = true then fr_bd2 (fX4_number (1 : Int32) (6 : Int32) (59 : Int32) n14) fun r16 n18 => (if r16 = true then fr_bd (fX1_tellSeason_35 (n5 34 3) (n9 34 3) (n18 34 3) n18) fun n22 => (some (true, n22)) else some (false, n18)) else some (false, n14)) else some (false, n9)) else some (false, n5)))
theorem tX4_oneSeason {l : Launch} {G : fr_G} {u0 : fr_N} {n0 : fr_N} {rz : Bool} {nz : fr_N} (h : fX4_oneSeason n0 = some (rz, nz)) : fr_Met l G YX4_oneSeason [.ref 34] (n0, u0) (some (.int (fr_b rz))) (nz, u0) := by
  refine fr_met (pad := List.replicate 3 none) (by decide) (Nat.le_of_ble_eq_true rfl) (fun _ h => List.eq_of_mem_replicate h) ⟨rfl, rfl⟩ (fun K F hG hL E => ?_)
  subst hG; subst hL
  rw [fX4_oneSeason] at h
  show fr_V YX4_oneSeason K 0 [some (.ref 34), none, none, none] [] (n0, u0)
  refine fr_aload_n (q := 1) F dX4_oneSeason_0 rfl rfl ?_
  refine fr_dup (q := 2) F dX4_oneSeason_1 rfl rfl ?_
  refine fr_gfI (q := 5) (x := (n0 34 2)) F dX4_oneSeason_2 rfl faRX4_19 (by decide) rfl rfl rfl ?_
  refine fr_iconst (q := 6) (v := 1) F dX4_oneSeason_5 rfl (by decide) ?_
  refine fr_iadd (q := 7) F dX4_oneSeason_6 rfl ?_
  obtain ⟨n1, hn2, h⟩ := fr_lt_some h
  refine fr_pfI (q := 10) (M' := (n1, u0)) F dX4_oneSeason_7 rfl fpRX4_19 (by decide) rfl rfl (congrArg (fun z => (z, u0)) hn2) ?_
  refine fr_aload_n (q := 11) F dX4_oneSeason_10 rfl rfl ?_
  refine fr_iconst (q := 12) (v := 0) F dX4_oneSeason_11 rfl (by decide) ?_
  refine fr_aload_n (q := 13) F dX4_oneSeason_12 rfl rfl ?_
  refine fr_gfR (q := 16) (j := 35) F dX4_oneSeason_13 rfl faRX4_15 (by decide) rfl rfl ?_
  refine fr_gfI (q := 19) (x := (n1 35 1)) F dX4_oneSeason_16 rfl faRX4_70 (by decide) rfl rfl rfl ?_
  refine fr_iconst (q := 20) (v := 1) F dX4_oneSeason_19 rfl (by decide) ?_
  refine fr_isub (q := 21) F dX4_oneSeason_20 rfl ?_
  refine fr_bipush (q := 23) (v := 44) F dX4_oneSeason_21 rfl (by decide) ?_
  obtain ⟨r3, n5, hr4, h⟩ := fr_bd2_some h
  refine fr_callV (q := 26) (M' := (n5, u0)) (rest := []) (st' := [.int (fr_b r3)]) F dX4_oneSeason_23 rfl (tX4_number hr4) mlRX4_84 msX4_number ⟨Nat.le_of_ble_eq_true rfl, Nat.le_of_ble_eq_true rfl⟩ (by decide) rfl rfl rfl (Nat.le_of_ble_eq_true rfl) rfl ?_
  refine fr_if_neb (q := 29) (tgt := 31) F dX4_oneSeason_26 (by decide) rfl (fun hc6 => ?_) (fun hc6 => ?_)
  · rw [if_pos hc6] at h
    refine fr_aload_n (q := 32) F dX4_oneSeason_31 rfl rfl ?_
    refine fr_gfI (q := 35) (x := (n5 34 3)) F dX4_oneSeason_32 rfl faRX4_88 (by decide) rfl rfl rfl ?_
    refine fr_istore_n (q := 36) F dX4_oneSeason_35 rfl (by decide) rfl ?_
    refine fr_aload_n (q := 37) F dX4_oneSeason_36 rfl rfl ?_
    refine fr_gfI (q := 40) (x := (n5 34 2)) F dX4_oneSeason_37 rfl faRX4_19 (by decide) rfl rfl rfl ?_
    refine fr_istore_n (q := 41) F dX4_oneSeason_40 rfl (by decide) rfl ?_
    refine fr_aload_n (q := 42) F dX4_oneSeason_41 rfl rfl ?_
    refine fr_iconst (q := 43) (v := 0) F dX4_oneSeason_42 rfl (by decide) ?_
    refine fr_aload_n (q := 44) F dX4_oneSeason_43 rfl rfl ?_
    refine fr_gfR (q := 47) (j := 35) F dX4_oneSeason_44 rfl faRX4_15 (by decide) rfl rfl ?_
    refine fr_gfI (q := 50) (x := (n5 35 1)) F dX4_oneSeason_47 rfl faRX4_70 (by decide) rfl rfl rfl ?_
    refine fr_iconst (q := 51) (v := 1) F dX4_oneSeason_50 rfl (by decide) ?_
    refine fr_isub (q := 52) F dX4_oneSeason_51 rfl ?_
    obtain ⟨r7, n9, hr8, h⟩ := fr_bd2_some h
    refine fr_callV (q := 55) (M' := (n9, u0)) (rest := []) (st' := [.int (fr_b r7)]) F dX4_oneSeason_52 rfl (tX4_bareNumber hr8) mlRX4_100 msX4_bareNumber ⟨Nat.le_of_ble_eq_true rfl, Nat.le_of_ble_eq_true rfl⟩ (by decide) rfl rfl rfl (Nat.le_of_ble_eq_true rfl) rfl ?_
    refine fr_if_neb (q := 58) (tgt := 60) F dX4_oneSeason_55 (by decide) rfl (fun hc10 => ?_) (fun hc10 => ?_)
    · rw [if_pos hc10] at h
      refine fr_aload_n (q := 61) F dX4_oneSeason_60 rfl rfl ?_
      refine fr_gfI (q := 64) (x := (n9 34 3)) F dX4_oneSeason_61 rfl faRX4_88 (by decide) rfl rfl rfl ?_
      refine fr_istore_n (q := 65) F dX4_oneSeason_64 rfl (by decide) rfl ?_
      refine fr_iload_n (q := 66) F dX4_oneSeason_65 rfl rfl ?_
      refine fr_iload_n (q := 67) F dX4_oneSeason_66 rfl rfl ?_
      refine fr_icmp_ne (q := 70) (tgt := 81) F dX4_oneSeason_67 (by decide) rfl (fun hc11 => ?_) (fun hc11 => ?_)
      · rw [if_neg hc11] at h
        refine fr_aload_n (q := 82) F dX4_oneSeason_81 rfl rfl ?_
        refine fr_bipush (q := 84) (v := 44) F dX4_oneSeason_82 rfl (by decide) ?_
        obtain ⟨r12, n14, hr13, h⟩ := fr_bd2_some h
        refine fr_callV (q := 87) (M' := (n14, u0)) (rest := []) (st' := [.int (fr_b r12)]) F dX4_oneSeason_84 rfl (tX4_sign hr13) mlRX4_53 msX4_sign ⟨Nat.le_of_ble_eq_true rfl, Nat.le_of_ble_eq_true rfl⟩ (by decide) rfl rfl rfl (Nat.le_of_ble_eq_true rfl) rfl ?_
        refine fr_if_eqb (q := 90) (tgt := 102) F dX4_oneSeason_87 (by decide) rfl (fun hc15 => ?_) (fun hc15 => ?_)
        · rw [if_neg hc15] at h
          refine fr_iconst (q := 103) (v := 0) F dX4_oneSeason_102 rfl (by decide) ?_
          cases h
          exact fr_zret F E rfl dX4_oneSeason_103
        · rw [if_pos hc15] at h
          refine fr_aload_n (q := 91) F dX4_oneSeason_90 rfl rfl ?_
          refine fr_iconst (q := 92) (v := 1) F dX4_oneSeason_91 rfl (by decide) ?_
          refine fr_bipush (q := 94) (v := 6) F dX4_oneSeason_92 rfl (by decide) ?_
          refine fr_bipush (q := 96) (v := 59) F dX4_oneSeason_94 rfl (by decide) ?_
          obtain ⟨r16, n18, hr17, h⟩ := fr_bd2_some h
          refine fr_callV (q := 99) (M' := (n18, u0)) (rest := []) (st' := [.int (fr_b r16)]) F dX4_oneSeason_96 rfl (tX4_number hr17) mlRX4_84 msX4_number ⟨Nat.le_of_ble_eq_true rfl, Nat.le_of_ble_eq_true rfl⟩ (by decide) rfl rfl rfl (Nat.le_of_ble_eq_true rfl) rfl ?_
          refine fr_if_neb (q := 102) (tgt := 104) F dX4_oneSeason_99 (by decide) rfl (fun hc19 => ?_) (fun hc19 => ?_)
          · rw [if_pos hc19] at h
            refine fr_aload_n (q := 105) F dX4_oneSeason_104 rfl rfl ?_
            refine fr_gfR (q := 108) (j := 35) F dX4_oneSeason_105 rfl faRX4_15 (by decide) rfl rfl ?_
            refine fr_iload_n (q := 109) F dX4_oneSeason_108 rfl rfl ?_
            refine fr_iload_n (q := 110) F dX4_oneSeason_109 rfl rfl ?_
            refine fr_aload_n (q := 111) F dX4_oneSeason_110 rfl rfl ?_
            refine fr_gfI (q := 114) (x := (n18 34 3)) F dX4_oneSeason_111 rfl faRX4_88 (by decide) rfl rfl rfl ?_
            obtain ⟨n22, hr21, h⟩ := fr_bd_some h
            refine fr_callV (q := 117) (M' := (n22, u0)) (rest := []) (st' := []) F dX4_oneSeason_114 rfl (tX1_tellSeason_35 hr21) mlRX4_103 msX1_tellSeason ⟨Nat.le_of_ble_eq_true rfl, Nat.le_of_ble_eq_true rfl⟩ (by decide) rfl rfl rfl (Nat.le_of_ble_eq_true rfl) rfl ?_
            refine fr_iconst (q := 118) (v := 1) F dX4_oneSeason_117 rfl (by decide) ?_
            cases h
            exact fr_zret F E rfl dX4_oneSeason_118
          · rw [if_neg hc19] at h
            refine fr_iconst (q := 103) (v := 0) F dX4_oneSeason_102 rfl (by decide) ?_
            cases h
            exact fr_zret F E rfl dX4_oneSeason_103
      · rw [if_pos hc11] at h
        refine fr_aload_n (q := 71) F dX4_oneSeason_70 rfl rfl ?_
        refine fr_iload_n (q := 72) F dX4_oneSeason_71 rfl rfl ?_
        obtain ⟨n23, hn24, h⟩ := fr_lt_some h
        refine fr_pfI (q := 75) (M' := (n23, u0)) F dX4_oneSeason_72 rfl fpRX4_19 (by decide) rfl rfl (congrArg (fun z => (z, u0)) hn24) ?_
        refine fr_aload_n (q := 76) F dX4_oneSeason_75 rfl rfl ?_
        refine fr_iconst (q := 77) (v := 2) F dX4_oneSeason_76 rfl (by decide) ?_
        obtain ⟨r25, n27, hr26, h⟩ := fr_bd2_some h
        refine fr_callV (q := 80) (M' := (n27, u0)) (rest := []) (st' := [.int (fr_b r25)]) F dX4_oneSeason_77 rfl (tX4_fails hr26) mlRX4_72 msX4_fails ⟨Nat.le_of_ble_eq_true rfl, Nat.le_of_ble_eq_true rfl⟩ (by decide) rfl rfl rfl (Nat.le_of_ble_eq_true rfl) rfl ?_
        cases h
        exact fr_zret F E rfl dX4_oneSeason_80
    · rw [if_neg hc10] at h
      refine fr_iconst (q := 59) (v := 0) F dX4_oneSeason_58 rfl (by decide) ?_
      cases h
      exact fr_zret F E rfl dX4_oneSeason_59
  · rw [if_neg hc6] at h
    refine fr_iconst (q := 30) (v := 0) F dX4_oneSeason_29 rfl (by decide) ?_
    cases h
    exact fr_zret F E rfl dX4_oneSeason_30
/-! FeastRota$Reader.seasons (34,) -/
def fX4_seasons_2 : Nat → Int32 → fr_N → Option (Bool × fr_N)
  | 0, _, _ => none
  | k + 1, x1, n0 => if (4 : Int32) < x1 then some (true, n0) else fr_bd (fX6_at (n0 34 2) n0) fun r2 => (if r2 = (122 : Int32) then if (n0 35 2) < (4 : Int32) then fr_bd2 (fX4_oneSeason n0) fun r6 n8 => (if r6 = true then (fX4_seasons_2 k) (x1 + (1 : Int32)) n8 else some (false, n8)) else fr_bd2 (fX4_fails (3 : Int32) n0) fun r10 n12 => (some (r10, n12)) else some (true, n0))
def fX4_seasons (n0 : fr_N) : Option (Bool × fr_N) := fX4_seasons_2 2000 (0 : Int32) n0
theorem tX4_seasons_2 {K : fr_K} {u0 : fr_N} {rz : Bool} {nz : fr_N} (F : fr_F YX4_seasons K) (E : fr_R YX4_seasons K (some (.int (fr_b rz))) (nz, u0)) : ∀ (k : Nat) (x1 : Int32) (n0 : fr_N), fX4_seasons_2 k x1 n0 = some (rz, nz) → fr_V YX4_seasons K 2 [some (.ref 34), some (.int x1)] [] (n0, u0) := by
  intro k
  induction k with
  | zero =>
    intro x1 n0 h
    rw [fX4_seasons_2] at h
    cases h
  | succ k ih =>
    intro x1 n0 h
    rw [fX4_seasons_2] at h
    refine fr_iload_n (q := 3) F dX4_seasons_2 rfl rfl ?_
    refine fr_iconst (q := 4) (v := 4) F dX4_seasons_3 rfl (by decide) ?_
    refine fr_icmp_gt (q := 7) (tgt := 57) F dX4_seasons_4 (by decide) rfl (fun hc1 => ?_) (fun hc1 => ?_)
    · rw [if_pos hc1] at h
      refine fr_iconst (q := 58) (v := 1) F dX4_seasons_57 rfl (by decide) ?_
      cases h
      exact fr_zret F E rfl dX4_seasons_58
    · rw [if_neg hc1] at h
      refine fr_aload_n (q := 8) F dX4_seasons_7 rfl rfl ?_
      refine fr_gfR (q := 11) (j := 1) F dX4_seasons_8 rfl faRX4_9 (by decide) rfl rfl ?_
      refine fr_aload_n (q := 12) F dX4_seasons_11 rfl rfl ?_
      refine fr_gfI (q := 15) (x := (n0 34 2)) F dX4_seasons_12 rfl faRX4_19 (by decide) rfl rfl rfl ?_
      obtain ⟨r2, hr3, h⟩ := fr_bd_some h
      refine fr_callV (q := 18) (M' := (n0, u0)) (rest := []) (st' := [.int r2]) F dX4_seasons_15 rfl (tX6_at hr3) mlRX4_61 msX6_at ⟨Nat.le_of_ble_eq_true rfl, Nat.le_of_ble_eq_true rfl⟩ (by decide) rfl rfl rfl (Nat.le_of_ble_eq_true rfl) rfl ?_
      refine fr_bipush (q := 20) (v := 122) F dX4_seasons_18 rfl (by decide) ?_
      refine fr_icmp_eq (q := 23) (tgt := 25) F dX4_seasons_20 (by decide) rfl (fun hc4 => ?_) (fun hc4 => ?_)
      · rw [if_pos hc4] at h
        refine fr_aload_n (q := 26) F dX4_seasons_25 rfl rfl ?_
        refine fr_gfR (q := 29) (j := 35) F dX4_seasons_26 rfl faRX4_15 (by decide) rfl rfl ?_
        refine fr_gfI (q := 32) (x := (n0 35 2)) F dX4_seasons_29 rfl faRX4_95 (by decide) rfl rfl rfl ?_
        refine fr_iconst (q := 33) (v := 4) F dX4_seasons_32 rfl (by decide) ?_
        refine fr_icmp_lt (q := 36) (tgt := 42) F dX4_seasons_33 (by decide) rfl (fun hc5 => ?_) (fun hc5 => ?_)
        · rw [if_pos hc5] at h
          refine fr_aload_n (q := 43) F dX4_seasons_42 rfl rfl ?_
          obtain ⟨r6, n8, hr7, h⟩ := fr_bd2_some h
          refine fr_callV (q := 46) (M' := (n8, u0)) (rest := []) (st' := [.int (fr_b r6)]) F dX4_seasons_43 rfl (tX4_oneSeason hr7) mlRX4_97 msX4_oneSeason ⟨Nat.le_of_ble_eq_true rfl, Nat.le_of_ble_eq_true rfl⟩ (by decide) rfl rfl rfl (Nat.le_of_ble_eq_true rfl) rfl ?_
          refine fr_if_neb (q := 49) (tgt := 51) F dX4_seasons_46 (by decide) rfl (fun hc9 => ?_) (fun hc9 => ?_)
          · rw [if_pos hc9] at h
            refine fr_iinc (q := 54) (v := (x1 + (1 : Int32))) F dX4_seasons_51 rfl rfl rfl (by decide) rfl ?_
            refine fr_goto (tgt := 2) F dX4_seasons_54 (by decide) ?_
            exact fr_wj (ih _ _ h) ⟨rfl, ⟨rfl, trivial⟩⟩
          · rw [if_neg hc9] at h
            refine fr_iconst (q := 50) (v := 0) F dX4_seasons_49 rfl (by decide) ?_
            cases h
            exact fr_zret F E rfl dX4_seasons_50
        · rw [if_neg hc5] at h
          refine fr_aload_n (q := 37) F dX4_seasons_36 rfl rfl ?_
          refine fr_iconst (q := 38) (v := 3) F dX4_seasons_37 rfl (by decide) ?_
          obtain ⟨r10, n12, hr11, h⟩ := fr_bd2_some h
          refine fr_callV (q := 41) (M' := (n12, u0)) (rest := []) (st' := [.int (fr_b r10)]) F dX4_seasons_38 rfl (tX4_fails hr11) mlRX4_72 msX4_fails ⟨Nat.le_of_ble_eq_true rfl, Nat.le_of_ble_eq_true rfl⟩ (by decide) rfl rfl rfl (Nat.le_of_ble_eq_true rfl) rfl ?_
          cases h
          exact fr_zret F E rfl dX4_seasons_41
      · rw [if_neg hc4] at h
        refine fr_iconst (q := 24) (v := 1) F dX4_seasons_23 rfl (by decide) ?_
        cases h
        exact fr_zret F E rfl dX4_seasons_24
theorem tX4_seasons {l : Launch} {G : fr_G} {u0 : fr_N} {n0 : fr_N} {rz : Bool} {nz : fr_N} (h : fX4_seasons n0 = some (rz, nz)) : fr_Met l G YX4_seasons [.ref 34] (n0, u0) (some (.int (fr_b rz))) (nz, u0) := by
  refine fr_met (pad := List.replicate 1 none) (by decide) (Nat.le_of_ble_eq_true rfl) (fun _ h => List.eq_of_mem_replicate h) ⟨rfl, rfl⟩ (fun K F hG hL E => ?_)
  subst hG; subst hL
  rw [fX4_seasons] at h
  show fr_V YX4_seasons K 0 [some (.ref 34), none] [] (n0, u0)
  refine fr_iconst (q := 1) (v := 0) F dX4_seasons_0 rfl (by decide) ?_
  refine fr_istore_n (q := 2) F dX4_seasons_1 rfl (by decide) rfl ?_
  exact fr_wj (tX4_seasons_2 F E _ _ _ h) ⟨rfl, ⟨rfl, trivial⟩⟩
/-! FeastRota$Reader.psalter (34,) -/
def fX4_psalter (n0 : fr_N) : Option (Bool × fr_N) := fr_bd2 (fX4_sign (112 : Int32) n0) fun r1 n3 => (if r1 = true then fr_bd2 (fX4_lawNumber (3 : Int32) (44 : Int32) n3) fun r5 n7 => (if r5 = true then fr_bd2 (fX4_lawNumber (4 : Int32) (59 : Int32) n7) fun r9 n11 => (if r9 = true then some (true, n11) else some (false, n11)) else some (false, n7)) else some (false, n3))
theorem tX4_psalter {l : Launch} {G : fr_G} {u0 : fr_N} {n0 : fr_N} {rz : Bool} {nz : fr_N} (h : fX4_psalter n0 = some (rz, nz)) : fr_Met l G YX4_psalter [.ref 34] (n0, u0) (some (.int (fr_b rz))) (nz, u0) := by
  refine fr_met (pad := List.replicate 0 none) (by decide) (Nat.le_of_ble_eq_true rfl) (fun _ h => List.eq_of_mem_replicate h) ⟨rfl, rfl⟩ (fun K F hG hL E => ?_)
  subst hG; subst hL
  rw [fX4_psalter] at h
  show fr_V YX4_psalter K 0 [some (.ref 34)] [] (n0, u0)
  refine fr_aload_n (q := 1) F dX4_psalter_0 rfl rfl ?_
  refine fr_bipush (q := 3) (v := 112) F dX4_psalter_1 rfl (by decide) ?_
  obtain ⟨r1, n3, hr2, h⟩ := fr_bd2_some h
  refine fr_callV (q := 6) (M' := (n3, u0)) (rest := []) (st' := [.int (fr_b r1)]) F dX4_psalter_3 rfl (tX4_sign hr2) mlRX4_53 msX4_sign ⟨Nat.le_of_ble_eq_true rfl, Nat.le_of_ble_eq_true rfl⟩ (by decide) rfl rfl rfl (Nat.le_of_ble_eq_true rfl) rfl ?_
  refine fr_if_eqb (q := 9) (tgt := 33) F dX4_psalter_6 (by decide) rfl (fun hc4 => ?_) (fun hc4 => ?_)
  · rw [if_neg hc4] at h
    refine fr_iconst (q := 34) (v := 0) F dX4_psalter_33 rfl (by decide) ?_
    cases h
    exact fr_zret F E rfl dX4_psalter_34
  · rw [if_pos hc4] at h
    refine fr_aload_n (q := 10) F dX4_psalter_9 rfl rfl ?_
    refine fr_iconst (q := 11) (v := 3) F dX4_psalter_10 rfl (by decide) ?_
    refine fr_bipush (q := 13) (v := 44) F dX4_psalter_11 rfl (by decide) ?_
    obtain ⟨r5, n7, hr6, h⟩ := fr_bd2_some h
    refine fr_callV (q := 16) (M' := (n7, u0)) (rest := []) (st' := [.int (fr_b r5)]) F dX4_psalter_13 rfl (tX4_lawNumber hr6) mlRX4_57 msX4_lawNumber ⟨Nat.le_of_ble_eq_true rfl, Nat.le_of_ble_eq_true rfl⟩ (by decide) rfl rfl rfl (Nat.le_of_ble_eq_true rfl) rfl ?_
    refine fr_if_eqb (q := 19) (tgt := 33) F dX4_psalter_16 (by decide) rfl (fun hc8 => ?_) (fun hc8 => ?_)
    · rw [if_neg hc8] at h
      refine fr_iconst (q := 34) (v := 0) F dX4_psalter_33 rfl (by decide) ?_
      cases h
      exact fr_zret F E rfl dX4_psalter_34
    · rw [if_pos hc8] at h
      refine fr_aload_n (q := 20) F dX4_psalter_19 rfl rfl ?_
      refine fr_iconst (q := 21) (v := 4) F dX4_psalter_20 rfl (by decide) ?_
      refine fr_bipush (q := 23) (v := 59) F dX4_psalter_21 rfl (by decide) ?_
      obtain ⟨r9, n11, hr10, h⟩ := fr_bd2_some h
      refine fr_callV (q := 26) (M' := (n11, u0)) (rest := []) (st' := [.int (fr_b r9)]) F dX4_psalter_23 rfl (tX4_lawNumber hr10) mlRX4_57 msX4_lawNumber ⟨Nat.le_of_ble_eq_true rfl, Nat.le_of_ble_eq_true rfl⟩ (by decide) rfl rfl rfl (Nat.le_of_ble_eq_true rfl) rfl ?_
      refine fr_if_eqb (q := 29) (tgt := 33) F dX4_psalter_26 (by decide) rfl (fun hc12 => ?_) (fun hc12 => ?_)
      · rw [if_neg hc12] at h
        refine fr_iconst (q := 34) (v := 0) F dX4_psalter_33 rfl (by decide) ?_
        cases h
        exact fr_zret F E rfl dX4_psalter_34
      · rw [if_pos hc12] at h
        refine fr_iconst (q := 30) (v := 1) F dX4_psalter_29 rfl (by decide) ?_
        refine fr_goto (tgt := 34) F dX4_psalter_30 (by decide) ?_
        cases h
        exact fr_zret F E rfl dX4_psalter_34
end
