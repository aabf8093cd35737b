section
-- ===== PART A: goes FIRST, ahead of the names: the tables' words, and 'selects' of the private methods out of them =====
/-- a private method of a class that the tables say can be made, by its rows of tables_1 -/
def lw_okq (q : MethodName × Nat) : Prop := (q.1.cls ≠ "java/lang/invoke/MethodHandle" ∧ q.1.cls ≠ "java/lang/invoke/VarHandle") ∧ Cond.instantiable q.1.cls q.2 ∈ tables_1 ∧ Cond.privateMethod q.1 ∈ tables_1 ∧ Cond.instanceMethod q.1 ∈ tables_1
theorem lw_p0 : lw_okq (⟨"FeastRota$Reader", "head", "()Z"⟩, 6) := ⟨⟨by decide +kernel, by decide +kernel⟩, List.mem_of_getElem? (i := 157) (by decide +kernel), List.mem_of_getElem? (i := 295) (by decide +kernel), List.mem_of_getElem? (i := 296) (by decide +kernel)⟩
theorem lw_p1 : lw_okq (⟨"FeastRota$Reader", "sign", "(I)Z"⟩, 6) := ⟨⟨by decide +kernel, by decide +kernel⟩, List.mem_of_getElem? (i := 157) (by decide +kernel), List.mem_of_getElem? (i := 299) (by decide +kernel), List.mem_of_getElem? (i := 300) (by decide +kernel)⟩
theorem lw_p2 : lw_okq (⟨"FeastRota$Reader", "fails", "(I)Z"⟩, 6) := ⟨⟨by decide +kernel, by decide +kernel⟩, List.mem_of_getElem? (i := 157) (by decide +kernel), List.mem_of_getElem? (i := 308) (by decide +kernel), List.mem_of_getElem? (i := 309) (by decide +kernel)⟩
theorem lw_p3 : lw_okq (⟨"FeastRota$Reader", "lawNumber", "(II)Z"⟩, 6) := ⟨⟨by decide +kernel, by decide +kernel⟩, List.mem_of_getElem? (i := 157) (by decide +kernel), List.mem_of_getElem? (i := 312) (by decide +kernel), List.mem_of_getElem? (i := 313) (by decide +kernel)⟩
theorem lw_p4 : lw_okq (⟨"FeastRota$Reader", "number", "(III)Z"⟩, 6) := ⟨⟨by decide +kernel, by decide +kernel⟩, List.mem_of_getElem? (i := 157) (by decide +kernel), List.mem_of_getElem? (i := 321) (by decide +kernel), List.mem_of_getElem? (i := 322) (by decide +kernel)⟩
theorem lw_p5 : lw_okq (⟨"FeastRota$Reader", "bareNumber", "(II)Z"⟩, 6) := ⟨⟨by decide +kernel, by decide +kernel⟩, List.mem_of_getElem? (i := 157) (by decide +kernel), List.mem_of_getElem? (i := 325) (by decide +kernel), List.mem_of_getElem? (i := 326) (by decide +kernel)⟩
theorem lw_p6 : lw_okq (⟨"FeastRota$Reader", "feasts", "()Z"⟩, 6) := ⟨⟨by decide +kernel, by decide +kernel⟩, List.mem_of_getElem? (i := 157) (by decide +kernel), List.mem_of_getElem? (i := 329) (by decide +kernel), List.mem_of_getElem? (i := 330) (by decide +kernel)⟩
theorem lw_p7 : lw_okq (⟨"FeastRota$Reader", "oneFeast", "(I)Z"⟩, 6) := ⟨⟨by decide +kernel, by decide +kernel⟩, List.mem_of_getElem? (i := 157) (by decide +kernel), List.mem_of_getElem? (i := 337) (by decide +kernel), List.mem_of_getElem? (i := 338) (by decide +kernel)⟩
theorem lw_p8 : lw_okq (⟨"FeastRota$Reader", "seasons", "()Z"⟩, 6) := ⟨⟨by decide +kernel, by decide +kernel⟩, List.mem_of_getElem? (i := 157) (by decide +kernel), List.mem_of_getElem? (i := 351) (by decide +kernel), List.mem_of_getElem? (i := 352) (by decide +kernel)⟩
theorem lw_p9 : lw_okq (⟨"FeastRota$Reader", "oneSeason", "()Z"⟩, 6) := ⟨⟨by decide +kernel, by decide +kernel⟩, List.mem_of_getElem? (i := 157) (by decide +kernel), List.mem_of_getElem? (i := 355) (by decide +kernel), List.mem_of_getElem? (i := 356) (by decide +kernel)⟩
theorem lw_p10 : lw_okq (⟨"FeastRota$Reader", "psalter", "()Z"⟩, 6) := ⟨⟨by decide +kernel, by decide +kernel⟩, List.mem_of_getElem? (i := 157) (by decide +kernel), List.mem_of_getElem? (i := 363) (by decide +kernel), List.mem_of_getElem? (i := 364) (by decide +kernel)⟩
theorem lw_p11 : lw_okq (⟨"FeastRota$Reader", "choirs", "()Z"⟩, 6) := ⟨⟨by decide +kernel, by decide +kernel⟩, List.mem_of_getElem? (i := 157) (by decide +kernel), List.mem_of_getElem? (i := 367) (by decide +kernel), List.mem_of_getElem? (i := 368) (by decide +kernel)⟩
theorem lw_p12 : lw_okq (⟨"FeastRota$Reader", "end", "()Z"⟩, 6) := ⟨⟨by decide +kernel, by decide +kernel⟩, List.mem_of_getElem? (i := 157) (by decide +kernel), List.mem_of_getElem? (i := 371) (by decide +kernel), List.mem_of_getElem? (i := 372) (by decide +kernel)⟩
theorem lw_p13 : lw_okq (⟨"FeastRota$Acts", "forgetOldest", "()V"⟩, 5) := ⟨⟨by decide +kernel, by decide +kernel⟩, List.mem_of_getElem? (i := 185) (by decide +kernel), List.mem_of_getElem? (i := 423) (by decide +kernel), List.mem_of_getElem? (i := 424) (by decide +kernel)⟩
theorem lw_p14 : lw_okq (⟨"FeastRota$Calendar", "unboundDay", "(II)I"⟩, 4) := ⟨⟨by decide +kernel, by decide +kernel⟩, List.mem_of_getElem? (i := 105) (by decide +kernel), List.mem_of_getElem? (i := 499) (by decide +kernel), List.mem_of_getElem? (i := 500) (by decide +kernel)⟩
theorem lw_p15 : lw_okq (⟨"FeastRota$Plan", "settleAll", "(II)V"⟩, 6) := ⟨⟨by decide +kernel, by decide +kernel⟩, List.mem_of_getElem? (i := 103) (by decide +kernel), List.mem_of_getElem? (i := 505) (by decide +kernel), List.mem_of_getElem? (i := 506) (by decide +kernel)⟩
def lw_privs_1 : List (MethodName × Nat) := [(⟨"FeastRota$Reader", "head", "()Z"⟩, 6), (⟨"FeastRota$Reader", "sign", "(I)Z"⟩, 6), (⟨"FeastRota$Reader", "fails", "(I)Z"⟩, 6), (⟨"FeastRota$Reader", "lawNumber", "(II)Z"⟩, 6), (⟨"FeastRota$Reader", "number", "(III)Z"⟩, 6), (⟨"FeastRota$Reader", "bareNumber", "(II)Z"⟩, 6), (⟨"FeastRota$Reader", "feasts", "()Z"⟩, 6), (⟨"FeastRota$Reader", "oneFeast", "(I)Z"⟩, 6), (⟨"FeastRota$Reader", "seasons", "()Z"⟩, 6), (⟨"FeastRota$Reader", "oneSeason", "()Z"⟩, 6), (⟨"FeastRota$Reader", "psalter", "()Z"⟩, 6), (⟨"FeastRota$Reader", "choirs", "()Z"⟩, 6), (⟨"FeastRota$Reader", "end", "()Z"⟩, 6), (⟨"FeastRota$Acts", "forgetOldest", "()V"⟩, 5), (⟨"FeastRota$Calendar", "unboundDay", "(II)I"⟩, 4), (⟨"FeastRota$Plan", "settleAll", "(II)V"⟩, 6)]
theorem lw_r1 : ∀ q ∈ lw_privs_1, lw_okq q := List.forall_mem_cons.mpr ⟨lw_p0, List.forall_mem_cons.mpr ⟨lw_p1, List.forall_mem_cons.mpr ⟨lw_p2, List.forall_mem_cons.mpr ⟨lw_p3, List.forall_mem_cons.mpr ⟨lw_p4, List.forall_mem_cons.mpr ⟨lw_p5, List.forall_mem_cons.mpr ⟨lw_p6, List.forall_mem_cons.mpr ⟨lw_p7, List.forall_mem_cons.mpr ⟨lw_p8, List.forall_mem_cons.mpr ⟨lw_p9, List.forall_mem_cons.mpr ⟨lw_p10, List.forall_mem_cons.mpr ⟨lw_p11, List.forall_mem_cons.mpr ⟨lw_p12, List.forall_mem_cons.mpr ⟨lw_p13, List.forall_mem_cons.mpr ⟨lw_p14, List.forall_mem_cons.mpr ⟨lw_p15, fun _ h => absurd h List.not_mem_nil⟩⟩⟩⟩⟩⟩⟩⟩⟩⟩⟩⟩⟩⟩⟩⟩
theorem lw_p16 : lw_okq (⟨"FeastRota$Plan", "settle", "(II)V"⟩, 6) := ⟨⟨by decide +kernel, by decide +kernel⟩, List.mem_of_getElem? (i := 103) (by decide +kernel), List.mem_of_getElem? (i := 509) (by decide +kernel), List.mem_of_getElem? (i := 510) (by decide +kernel)⟩
theorem lw_p17 : lw_okq (⟨"FeastRota$Plan", "isFree", "(I)Z"⟩, 6) := ⟨⟨by decide +kernel, by decide +kernel⟩, List.mem_of_getElem? (i := 103) (by decide +kernel), List.mem_of_getElem? (i := 513) (by decide +kernel), List.mem_of_getElem? (i := 514) (by decide +kernel)⟩
theorem lw_p18 : lw_okq (⟨"FeastRota$Plan", "hold", "(III)V"⟩, 6) := ⟨⟨by decide +kernel, by decide +kernel⟩, List.mem_of_getElem? (i := 103) (by decide +kernel), List.mem_of_getElem? (i := 519) (by decide +kernel), List.mem_of_getElem? (i := 520) (by decide +kernel)⟩
theorem lw_p19 : lw_okq (⟨"FeastRota$Plan", "firstFree", "(II)I"⟩, 6) := ⟨⟨by decide +kernel, by decide +kernel⟩, List.mem_of_getElem? (i := 103) (by decide +kernel), List.mem_of_getElem? (i := 526) (by decide +kernel), List.mem_of_getElem? (i := 527) (by decide +kernel)⟩
theorem lw_p20 : lw_okq (⟨"FeastRota$Rota", "dealOut", "(II)V"⟩, 8) := ⟨⟨by decide +kernel, by decide +kernel⟩, List.mem_of_getElem? (i := 208) (by decide +kernel), List.mem_of_getElem? (i := 561) (by decide +kernel), List.mem_of_getElem? (i := 562) (by decide +kernel)⟩
theorem lw_p21 : lw_okq (⟨"FeastRota$Rota", "choose", "(III)I"⟩, 8) := ⟨⟨by decide +kernel, by decide +kernel⟩, List.mem_of_getElem? (i := 208) (by decide +kernel), List.mem_of_getElem? (i := 567) (by decide +kernel), List.mem_of_getElem? (i := 568) (by decide +kernel)⟩
theorem lw_p22 : lw_okq (⟨"FeastRota$Rota", "goesAheadOf", "(III)Z"⟩, 8) := ⟨⟨by decide +kernel, by decide +kernel⟩, List.mem_of_getElem? (i := 208) (by decide +kernel), List.mem_of_getElem? (i := 576) (by decide +kernel), List.mem_of_getElem? (i := 577) (by decide +kernel)⟩
theorem lw_p23 : lw_okq (⟨"FeastRota$Rota", "give", "(I)V"⟩, 8) := ⟨⟨by decide +kernel, by decide +kernel⟩, List.mem_of_getElem? (i := 208) (by decide +kernel), List.mem_of_getElem? (i := 580) (by decide +kernel), List.mem_of_getElem? (i := 581) (by decide +kernel)⟩
theorem lw_p24 : lw_okq (⟨"FeastRota", "isDay", "(II)Z"⟩, 8) := ⟨⟨by decide +kernel, by decide +kernel⟩, List.mem_of_getElem? (i := 14) (by decide +kernel), List.mem_of_getElem? (i := 588) (by decide +kernel), List.mem_of_getElem? (i := 589) (by decide +kernel)⟩
theorem lw_p25 : lw_okq (⟨"FeastRota$Plan", "liesIn", "(III)Z"⟩, 6) := ⟨⟨by decide +kernel, by decide +kernel⟩, List.mem_of_getElem? (i := 103) (by decide +kernel), List.mem_of_getElem? (i := 601) (by decide +kernel), List.mem_of_getElem? (i := 602) (by decide +kernel)⟩
theorem lw_p26 : lw_okq (⟨"FeastRota$Plan", "isHeld", "(I)Z"⟩, 6) := ⟨⟨by decide +kernel, by decide +kernel⟩, List.mem_of_getElem? (i := 103) (by decide +kernel), List.mem_of_getElem? (i := 605) (by decide +kernel), List.mem_of_getElem? (i := 606) (by decide +kernel)⟩
theorem lw_p27 : lw_okq (⟨"FeastRotaModel", "reads", "()V"⟩, 27) := ⟨⟨by decide +kernel, by decide +kernel⟩, List.mem_of_getElem? (i := 707) (by decide +kernel), List.mem_of_getElem? (i := 812) (by decide +kernel), List.mem_of_getElem? (i := 813) (by decide +kernel)⟩
theorem lw_p28 : lw_okq (⟨"FeastRotaModel", "byteAt", "(I)I"⟩, 27) := ⟨⟨by decide +kernel, by decide +kernel⟩, List.mem_of_getElem? (i := 707) (by decide +kernel), List.mem_of_getElem? (i := 816) (by decide +kernel), List.mem_of_getElem? (i := 817) (by decide +kernel)⟩
theorem lw_p29 : lw_okq (⟨"FeastRotaModel", "readsAll", "()V"⟩, 27) := ⟨⟨by decide +kernel, by decide +kernel⟩, List.mem_of_getElem? (i := 707) (by decide +kernel), List.mem_of_getElem? (i := 824) (by decide +kernel), List.mem_of_getElem? (i := 825) (by decide +kernel)⟩
theorem lw_p30 : lw_okq (⟨"FeastRotaModel", "letter", "(I)V"⟩, 27) := ⟨⟨by decide +kernel, by decide +kernel⟩, List.mem_of_getElem? (i := 707) (by decide +kernel), List.mem_of_getElem? (i := 828) (by decide +kernel), List.mem_of_getElem? (i := 829) (by decide +kernel)⟩
theorem lw_p31 : lw_okq (⟨"FeastRotaModel", "isLetter", "(I)Z"⟩, 27) := ⟨⟨by decide +kernel, by decide +kernel⟩, List.mem_of_getElem? (i := 707) (by decide +kernel), List.mem_of_getElem? (i := 832) (by decide +kernel), List.mem_of_getElem? (i := 833) (by decide +kernel)⟩
def lw_privs_2 : List (MethodName × Nat) := [(⟨"FeastRota$Plan", "settle", "(II)V"⟩, 6), (⟨"FeastRota$Plan", "isFree", "(I)Z"⟩, 6), (⟨"FeastRota$Plan", "hold", "(III)V"⟩, 6), (⟨"FeastRota$Plan", "firstFree", "(II)I"⟩, 6), (⟨"FeastRota$Rota", "dealOut", "(II)V"⟩, 8), (⟨"FeastRota$Rota", "choose", "(III)I"⟩, 8), (⟨"FeastRota$Rota", "goesAheadOf", "(III)Z"⟩, 8), (⟨"FeastRota$Rota", "give", "(I)V"⟩, 8), (⟨"FeastRota", "isDay", "(II)Z"⟩, 8), (⟨"FeastRota$Plan", "liesIn", "(III)Z"⟩, 6), (⟨"FeastRota$Plan", "isHeld", "(I)Z"⟩, 6), (⟨"FeastRotaModel", "reads", "()V"⟩, 27), (⟨"FeastRotaModel", "byteAt", "(I)I"⟩, 27), (⟨"FeastRotaModel", "readsAll", "()V"⟩, 27), (⟨"FeastRotaModel", "letter", "(I)V"⟩, 27), (⟨"FeastRotaModel", "isLetter", "(I)Z"⟩, 27)]
theorem lw_r2 : ∀ q ∈ lw_privs_2, lw_okq q := List.forall_mem_cons.mpr ⟨lw_p16, List.forall_mem_cons.mpr ⟨lw_p17, List.forall_mem_cons.mpr ⟨lw_p18, List.forall_mem_cons.mpr ⟨lw_p19, List.forall_mem_cons.mpr ⟨lw_p20, List.forall_mem_cons.mpr ⟨lw_p21, List.forall_mem_cons.mpr ⟨lw_p22, List.forall_mem_cons.mpr ⟨lw_p23, List.forall_mem_cons.mpr ⟨lw_p24, List.forall_mem_cons.mpr ⟨lw_p25, List.forall_mem_cons.mpr ⟨lw_p26, List.forall_mem_cons.mpr ⟨lw_p27, List.forall_mem_cons.mpr ⟨lw_p28, List.forall_mem_cons.mpr ⟨lw_p29, List.forall_mem_cons.mpr ⟨lw_p30, List.forall_mem_cons.mpr ⟨lw_p31, fun _ h => absurd h List.not_mem_nil⟩⟩⟩⟩⟩⟩⟩⟩⟩⟩⟩⟩⟩⟩⟩⟩
theorem lw_p32 : lw_okq (⟨"FeastRotaModel", "bad", "(I)V"⟩, 27) := ⟨⟨by decide +kernel, by decide +kernel⟩, List.mem_of_getElem? (i := 707) (by decide +kernel), List.mem_of_getElem? (i := 836) (by decide +kernel), List.mem_of_getElem? (i := 837) (by decide +kernel)⟩
theorem lw_p33 : lw_okq (⟨"FeastRotaModel", "goesOn", "()V"⟩, 27) := ⟨⟨by decide +kernel, by decide +kernel⟩, List.mem_of_getElem? (i := 707) (by decide +kernel), List.mem_of_getElem? (i := 840) (by decide +kernel), List.mem_of_getElem? (i := 841) (by decide +kernel)⟩
theorem lw_p34 : lw_okq (⟨"FeastRotaModel", "number", "(III)I"⟩, 27) := ⟨⟨by decide +kernel, by decide +kernel⟩, List.mem_of_getElem? (i := 707) (by decide +kernel), List.mem_of_getElem? (i := 844) (by decide +kernel), List.mem_of_getElem? (i := 845) (by decide +kernel)⟩
theorem lw_p35 : lw_okq (⟨"FeastRotaModel", "sort", "()I"⟩, 27) := ⟨⟨by decide +kernel, by decide +kernel⟩, List.mem_of_getElem? (i := 707) (by decide +kernel), List.mem_of_getElem? (i := 848) (by decide +kernel), List.mem_of_getElem? (i := 849) (by decide +kernel)⟩
theorem lw_p36 : lw_okq (⟨"FeastRotaModel", "readsFeast", "()V"⟩, 27) := ⟨⟨by decide +kernel, by decide +kernel⟩, List.mem_of_getElem? (i := 707) (by decide +kernel), List.mem_of_getElem? (i := 853) (by decide +kernel), List.mem_of_getElem? (i := 854) (by decide +kernel)⟩
theorem lw_p37 : lw_okq (⟨"FeastRotaModel", "readsSeason", "()V"⟩, 27) := ⟨⟨by decide +kernel, by decide +kernel⟩, List.mem_of_getElem? (i := 707) (by decide +kernel), List.mem_of_getElem? (i := 860) (by decide +kernel), List.mem_of_getElem? (i := 861) (by decide +kernel)⟩
theorem lw_p38 : lw_okq (⟨"FeastRotaModel", "isFeast", "(I)Z"⟩, 27) := ⟨⟨by decide +kernel, by decide +kernel⟩, List.mem_of_getElem? (i := 707) (by decide +kernel), List.mem_of_getElem? (i := 881) (by decide +kernel), List.mem_of_getElem? (i := 882) (by decide +kernel)⟩
theorem lw_p39 : lw_okq (⟨"FeastRotaModel", "mayBe", "(III)Z"⟩, 27) := ⟨⟨by decide +kernel, by decide +kernel⟩, List.mem_of_getElem? (i := 707) (by decide +kernel), List.mem_of_getElem? (i := 885) (by decide +kernel), List.mem_of_getElem? (i := 886) (by decide +kernel)⟩
theorem lw_p40 : lw_okq (⟨"FeastRotaModel", "of", "(II)I"⟩, 27) := ⟨⟨by decide +kernel, by decide +kernel⟩, List.mem_of_getElem? (i := 707) (by decide +kernel), List.mem_of_getElem? (i := 890) (by decide +kernel), List.mem_of_getElem? (i := 891) (by decide +kernel)⟩
theorem lw_p41 : lw_okq (⟨"FeastRotaModel", "notes", "()V"⟩, 27) := ⟨⟨by decide +kernel, by decide +kernel⟩, List.mem_of_getElem? (i := 707) (by decide +kernel), List.mem_of_getElem? (i := 901) (by decide +kernel), List.mem_of_getElem? (i := 902) (by decide +kernel)⟩
theorem lw_p42 : lw_okq (⟨"FeastRotaModel", "isBook", "()Z"⟩, 27) := ⟨⟨by decide +kernel, by decide +kernel⟩, List.mem_of_getElem? (i := 707) (by decide +kernel), List.mem_of_getElem? (i := 909) (by decide +kernel), List.mem_of_getElem? (i := 910) (by decide +kernel)⟩
theorem lw_p43 : lw_okq (⟨"FeastRotaModel", "isChoir", "(I)Z"⟩, 27) := ⟨⟨by decide +kernel, by decide +kernel⟩, List.mem_of_getElem? (i := 707) (by decide +kernel), List.mem_of_getElem? (i := 929) (by decide +kernel), List.mem_of_getElem? (i := 930) (by decide +kernel)⟩
theorem lw_p44 : lw_okq (⟨"FeastRotaModel", "lays", "(II)V"⟩, 27) := ⟨⟨by decide +kernel, by decide +kernel⟩, List.mem_of_getElem? (i := 707) (by decide +kernel), List.mem_of_getElem? (i := 947) (by decide +kernel), List.mem_of_getElem? (i := 948) (by decide +kernel)⟩
theorem lw_p45 : lw_okq (⟨"FeastRotaModel", "opens", "(I)V"⟩, 27) := ⟨⟨by decide +kernel, by decide +kernel⟩, List.mem_of_getElem? (i := 707) (by decide +kernel), List.mem_of_getElem? (i := 951) (by decide +kernel), List.mem_of_getElem? (i := 952) (by decide +kernel)⟩
theorem lw_p46 : lw_okq (⟨"FeastRotaModel", "isLeap", "(I)Z"⟩, 27) := ⟨⟨by decide +kernel, by decide +kernel⟩, List.mem_of_getElem? (i := 707) (by decide +kernel), List.mem_of_getElem? (i := 955) (by decide +kernel), List.mem_of_getElem? (i := 956) (by decide +kernel)⟩
theorem lw_p47 : lw_okq (⟨"FeastRotaModel", "ownDay", "(II)I"⟩, 27) := ⟨⟨by decide +kernel, by decide +kernel⟩, List.mem_of_getElem? (i := 707) (by decide +kernel), List.mem_of_getElem? (i := 959) (by decide +kernel), List.mem_of_getElem? (i := 960) (by decide +kernel)⟩
def lw_privs_3 : List (MethodName × Nat) := [(⟨"FeastRotaModel", "bad", "(I)V"⟩, 27), (⟨"FeastRotaModel", "goesOn", "()V"⟩, 27), (⟨"FeastRotaModel", "number", "(III)I"⟩, 27), (⟨"FeastRotaModel", "sort", "()I"⟩, 27), (⟨"FeastRotaModel", "readsFeast", "()V"⟩, 27), (⟨"FeastRotaModel", "readsSeason", "()V"⟩, 27), (⟨"FeastRotaModel", "isFeast", "(I)Z"⟩, 27), (⟨"FeastRotaModel", "mayBe", "(III)Z"⟩, 27), (⟨"FeastRotaModel", "of", "(II)I"⟩, 27), (⟨"FeastRotaModel", "notes", "()V"⟩, 27), (⟨"FeastRotaModel", "isBook", "()Z"⟩, 27), (⟨"FeastRotaModel", "isChoir", "(I)Z"⟩, 27), (⟨"FeastRotaModel", "lays", "(II)V"⟩, 27), (⟨"FeastRotaModel", "opens", "(I)V"⟩, 27), (⟨"FeastRotaModel", "isLeap", "(I)Z"⟩, 27), (⟨"FeastRotaModel", "ownDay", "(II)I"⟩, 27)]
theorem lw_r3 : ∀ q ∈ lw_privs_3, lw_okq q := List.forall_mem_cons.mpr ⟨lw_p32, List.forall_mem_cons.mpr ⟨lw_p33, List.forall_mem_cons.mpr ⟨lw_p34, List.forall_mem_cons.mpr ⟨lw_p35, List.forall_mem_cons.mpr ⟨lw_p36, List.forall_mem_cons.mpr ⟨lw_p37, List.forall_mem_cons.mpr ⟨lw_p38, List.forall_mem_cons.mpr ⟨lw_p39, List.forall_mem_cons.mpr ⟨lw_p40, List.forall_mem_cons.mpr ⟨lw_p41, List.forall_mem_cons.mpr ⟨lw_p42, List.forall_mem_cons.mpr ⟨lw_p43, List.forall_mem_cons.mpr ⟨lw_p44, List.forall_mem_cons.mpr ⟨lw_p45, List.forall_mem_cons.mpr ⟨lw_p46, List.forall_mem_cons.mpr ⟨lw_p47, fun _ h => absurd h List.not_mem_nil⟩⟩⟩⟩⟩⟩⟩⟩⟩⟩⟩⟩⟩⟩⟩⟩
theorem lw_p48 : lw_okq (⟨"FeastRotaModel", "dayOfDate", "(II)I"⟩, 27) := ⟨⟨by decide +kernel, by decide +kernel⟩, List.mem_of_getElem? (i := 707) (by decide +kernel), List.mem_of_getElem? (i := 963) (by decide +kernel), List.mem_of_getElem? (i := 964) (by decide +kernel)⟩
theorem lw_p49 : lw_okq (⟨"FeastRotaModel", "sunday", "(I)I"⟩, 27) := ⟨⟨by decide +kernel, by decide +kernel⟩, List.mem_of_getElem? (i := 707) (by decide +kernel), List.mem_of_getElem? (i := 967) (by decide +kernel), List.mem_of_getElem? (i := 968) (by decide +kernel)⟩
theorem lw_p50 : lw_okq (⟨"FeastRotaModel", "weekdayOf", "(I)I"⟩, 27) := ⟨⟨by decide +kernel, by decide +kernel⟩, List.mem_of_getElem? (i := 707) (by decide +kernel), List.mem_of_getElem? (i := 971) (by decide +kernel), List.mem_of_getElem? (i := 972) (by decide +kernel)⟩
theorem lw_p51 : lw_okq (⟨"FeastRotaModel", "spring", "(I)I"⟩, 27) := ⟨⟨by decide +kernel, by decide +kernel⟩, List.mem_of_getElem? (i := 707) (by decide +kernel), List.mem_of_getElem? (i := 975) (by decide +kernel), List.mem_of_getElem? (i := 976) (by decide +kernel)⟩
theorem lw_p52 : lw_okq (⟨"FeastRotaModel", "moon", "(I)I"⟩, 27) := ⟨⟨by decide +kernel, by decide +kernel⟩, List.mem_of_getElem? (i := 707) (by decide +kernel), List.mem_of_getElem? (i := 979) (by decide +kernel), List.mem_of_getElem? (i := 980) (by decide +kernel)⟩
theorem lw_p53 : lw_okq (⟨"FeastRotaModel", "nextFeast", "()I"⟩, 27) := ⟨⟨by decide +kernel, by decide +kernel⟩, List.mem_of_getElem? (i := 707) (by decide +kernel), List.mem_of_getElem? (i := 983) (by decide +kernel), List.mem_of_getElem? (i := 984) (by decide +kernel)⟩
theorem lw_p54 : lw_okq (⟨"FeastRotaModel", "isAhead", "(II)Z"⟩, 27) := ⟨⟨by decide +kernel, by decide +kernel⟩, List.mem_of_getElem? (i := 707) (by decide +kernel), List.mem_of_getElem? (i := 987) (by decide +kernel), List.mem_of_getElem? (i := 988) (by decide +kernel)⟩
theorem lw_p55 : lw_okq (⟨"FeastRotaModel", "comes", "(I)V"⟩, 27) := ⟨⟨by decide +kernel, by decide +kernel⟩, List.mem_of_getElem? (i := 707) (by decide +kernel), List.mem_of_getElem? (i := 991) (by decide +kernel), List.mem_of_getElem? (i := 992) (by decide +kernel)⟩
theorem lw_p56 : lw_okq (⟨"FeastRotaModel", "isFree", "(I)Z"⟩, 27) := ⟨⟨by decide +kernel, by decide +kernel⟩, List.mem_of_getElem? (i := 707) (by decide +kernel), List.mem_of_getElem? (i := 995) (by decide +kernel), List.mem_of_getElem? (i := 996) (by decide +kernel)⟩
theorem lw_p57 : lw_okq (⟨"FeastRotaModel", "holds", "(III)V"⟩, 27) := ⟨⟨by decide +kernel, by decide +kernel⟩, List.mem_of_getElem? (i := 707) (by decide +kernel), List.mem_of_getElem? (i := 999) (by decide +kernel), List.mem_of_getElem? (i := 1000) (by decide +kernel)⟩
theorem lw_p58 : lw_okq (⟨"FeastRotaModel", "freeBehind", "(II)I"⟩, 27) := ⟨⟨by decide +kernel, by decide +kernel⟩, List.mem_of_getElem? (i := 707) (by decide +kernel), List.mem_of_getElem? (i := 1003) (by decide +kernel), List.mem_of_getElem? (i := 1004) (by decide +kernel)⟩
theorem lw_p59 : lw_okq (⟨"FeastRotaModel", "sundays", "()I"⟩, 27) := ⟨⟨by decide +kernel, by decide +kernel⟩, List.mem_of_getElem? (i := 707) (by decide +kernel), List.mem_of_getElem? (i := 1007) (by decide +kernel), List.mem_of_getElem? (i := 1008) (by decide +kernel)⟩
theorem lw_p60 : lw_okq (⟨"FeastRotaModel", "manyHeld", "(Z)I"⟩, 27) := ⟨⟨by decide +kernel, by decide +kernel⟩, List.mem_of_getElem? (i := 707) (by decide +kernel), List.mem_of_getElem? (i := 1011) (by decide +kernel), List.mem_of_getElem? (i := 1012) (by decide +kernel)⟩
theorem lw_p61 : lw_okq (⟨"FeastRotaModel", "isHeld", "(I)Z"⟩, 27) := ⟨⟨by decide +kernel, by decide +kernel⟩, List.mem_of_getElem? (i := 707) (by decide +kernel), List.mem_of_getElem? (i := 1015) (by decide +kernel), List.mem_of_getElem? (i := 1016) (by decide +kernel)⟩
theorem lw_p62 : lw_okq (⟨"FeastRotaModel", "laysRota", "(II)V"⟩, 27) := ⟨⟨by decide +kernel, by decide +kernel⟩, List.mem_of_getElem? (i := 707) (by decide +kernel), List.mem_of_getElem? (i := 1019) (by decide +kernel), List.mem_of_getElem? (i := 1020) (by decide +kernel)⟩
theorem lw_p63 : lw_okq (⟨"FeastRotaModel", "servicesOf", "(I)I"⟩, 27) := ⟨⟨by decide +kernel, by decide +kernel⟩, List.mem_of_getElem? (i := 707) (by decide +kernel), List.mem_of_getElem? (i := 1023) (by decide +kernel), List.mem_of_getElem? (i := 1024) (by decide +kernel)⟩
def lw_privs_4 : List (MethodName × Nat) := [(⟨"FeastRotaModel", "dayOfDate", "(II)I"⟩, 27), (⟨"FeastRotaModel", "sunday", "(I)I"⟩, 27), (⟨"FeastRotaModel", "weekdayOf", "(I)I"⟩, 27), (⟨"FeastRotaModel", "spring", "(I)I"⟩, 27), (⟨"FeastRotaModel", "moon", "(I)I"⟩, 27), (⟨"FeastRotaModel", "nextFeast", "()I"⟩, 27), (⟨"FeastRotaModel", "isAhead", "(II)Z"⟩, 27), (⟨"FeastRotaModel", "comes", "(I)V"⟩, 27), (⟨"FeastRotaModel", "isFree", "(I)Z"⟩, 27), (⟨"FeastRotaModel", "holds", "(III)V"⟩, 27), (⟨"FeastRotaModel", "freeBehind", "(II)I"⟩, 27), (⟨"FeastRotaModel", "sundays", "()I"⟩, 27), (⟨"FeastRotaModel", "manyHeld", "(Z)I"⟩, 27), (⟨"FeastRotaModel", "isHeld", "(I)Z"⟩, 27), (⟨"FeastRotaModel", "laysRota", "(II)V"⟩, 27), (⟨"FeastRotaModel", "servicesOf", "(I)I"⟩, 27)]
theorem lw_r4 : ∀ q ∈ lw_privs_4, lw_okq q := List.forall_mem_cons.mpr ⟨lw_p48, List.forall_mem_cons.mpr ⟨lw_p49, List.forall_mem_cons.mpr ⟨lw_p50, List.forall_mem_cons.mpr ⟨lw_p51, List.forall_mem_cons.mpr ⟨lw_p52, List.forall_mem_cons.mpr ⟨lw_p53, List.forall_mem_cons.mpr ⟨lw_p54, List.forall_mem_cons.mpr ⟨lw_p55, List.forall_mem_cons.mpr ⟨lw_p56, List.forall_mem_cons.mpr ⟨lw_p57, List.forall_mem_cons.mpr ⟨lw_p58, List.forall_mem_cons.mpr ⟨lw_p59, List.forall_mem_cons.mpr ⟨lw_p60, List.forall_mem_cons.mpr ⟨lw_p61, List.forall_mem_cons.mpr ⟨lw_p62, List.forall_mem_cons.mpr ⟨lw_p63, fun _ h => absurd h List.not_mem_nil⟩⟩⟩⟩⟩⟩⟩⟩⟩⟩⟩⟩⟩⟩⟩⟩
theorem lw_p64 : lw_okq (⟨"FeastRotaModel", "rankOf", "(I)I"⟩, 27) := ⟨⟨by decide +kernel, by decide +kernel⟩, List.mem_of_getElem? (i := 707) (by decide +kernel), List.mem_of_getElem? (i := 1027) (by decide +kernel), List.mem_of_getElem? (i := 1028) (by decide +kernel)⟩
theorem lw_p65 : lw_okq (⟨"FeastRotaModel", "choose", "(IIIZ)I"⟩, 27) := ⟨⟨by decide +kernel, by decide +kernel⟩, List.mem_of_getElem? (i := 707) (by decide +kernel), List.mem_of_getElem? (i := 1031) (by decide +kernel), List.mem_of_getElem? (i := 1032) (by decide +kernel)⟩
theorem lw_p66 : lw_okq (⟨"FeastRotaModel", "isAway", "(II)Z"⟩, 27) := ⟨⟨by decide +kernel, by decide +kernel⟩, List.mem_of_getElem? (i := 707) (by decide +kernel), List.mem_of_getElem? (i := 1035) (by decide +kernel), List.mem_of_getElem? (i := 1036) (by decide +kernel)⟩
theorem lw_p67 : lw_okq (⟨"FeastRotaModel", "had", "(II)Z"⟩, 27) := ⟨⟨by decide +kernel, by decide +kernel⟩, List.mem_of_getElem? (i := 707) (by decide +kernel), List.mem_of_getElem? (i := 1039) (by decide +kernel), List.mem_of_getElem? (i := 1040) (by decide +kernel)⟩
theorem lw_p68 : lw_okq (⟨"FeastRotaModel", "isBetter", "(III)Z"⟩, 27) := ⟨⟨by decide +kernel, by decide +kernel⟩, List.mem_of_getElem? (i := 707) (by decide +kernel), List.mem_of_getElem? (i := 1043) (by decide +kernel), List.mem_of_getElem? (i := 1044) (by decide +kernel)⟩
theorem lw_p69 : lw_okq (⟨"FeastRotaModel", "hasDay", "(III)Z"⟩, 27) := ⟨⟨by decide +kernel, by decide +kernel⟩, List.mem_of_getElem? (i := 707) (by decide +kernel), List.mem_of_getElem? (i := 1051) (by decide +kernel), List.mem_of_getElem? (i := 1052) (by decide +kernel)⟩
theorem lw_p70 : lw_okq (⟨"FeastRotaModel", "colourOf", "(I)I"⟩, 27) := ⟨⟨by decide +kernel, by decide +kernel⟩, List.mem_of_getElem? (i := 707) (by decide +kernel), List.mem_of_getElem? (i := 1055) (by decide +kernel), List.mem_of_getElem? (i := 1056) (by decide +kernel)⟩
theorem lw_p71 : lw_okq (⟨"FeastRotaModel", "rememberedOn", "(I)I"⟩, 27) := ⟨⟨by decide +kernel, by decide +kernel⟩, List.mem_of_getElem? (i := 707) (by decide +kernel), List.mem_of_getElem? (i := 1059) (by decide +kernel), List.mem_of_getElem? (i := 1060) (by decide +kernel)⟩
theorem lw_p72 : lw_okq (⟨"FeastRotaModel", "readings", "(I)I"⟩, 27) := ⟨⟨by decide +kernel, by decide +kernel⟩, List.mem_of_getElem? (i := 707) (by decide +kernel), List.mem_of_getElem? (i := 1071) (by decide +kernel), List.mem_of_getElem? (i := 1072) (by decide +kernel)⟩
theorem lw_p73 : lw_okq (⟨"FeastRotaModel", "unfair", "(I)I"⟩, 27) := ⟨⟨by decide +kernel, by decide +kernel⟩, List.mem_of_getElem? (i := 707) (by decide +kernel), List.mem_of_getElem? (i := 1091) (by decide +kernel), List.mem_of_getElem? (i := 1092) (by decide +kernel)⟩
def lw_privs_5 : List (MethodName × Nat) := [(⟨"FeastRotaModel", "rankOf", "(I)I"⟩, 27), (⟨"FeastRotaModel", "choose", "(IIIZ)I"⟩, 27), (⟨"FeastRotaModel", "isAway", "(II)Z"⟩, 27), (⟨"FeastRotaModel", "had", "(II)Z"⟩, 27), (⟨"FeastRotaModel", "isBetter", "(III)Z"⟩, 27), (⟨"FeastRotaModel", "hasDay", "(III)Z"⟩, 27), (⟨"FeastRotaModel", "colourOf", "(I)I"⟩, 27), (⟨"FeastRotaModel", "rememberedOn", "(I)I"⟩, 27), (⟨"FeastRotaModel", "readings", "(I)I"⟩, 27), (⟨"FeastRotaModel", "unfair", "(I)I"⟩, 27)]
theorem lw_r5 : ∀ q ∈ lw_privs_5, lw_okq q := List.forall_mem_cons.mpr ⟨lw_p64, List.forall_mem_cons.mpr ⟨lw_p65, List.forall_mem_cons.mpr ⟨lw_p66, List.forall_mem_cons.mpr ⟨lw_p67, List.forall_mem_cons.mpr ⟨lw_p68, List.forall_mem_cons.mpr ⟨lw_p69, List.forall_mem_cons.mpr ⟨lw_p70, List.forall_mem_cons.mpr ⟨lw_p71, List.forall_mem_cons.mpr ⟨lw_p72, List.forall_mem_cons.mpr ⟨lw_p73, fun _ h => absurd h List.not_mem_nil⟩⟩⟩⟩⟩⟩⟩⟩⟩⟩
def lw_privs : List (MethodName × Nat) := lw_privs_1 ++ (lw_privs_2 ++ (lw_privs_3 ++ (lw_privs_4 ++ (lw_privs_5))))
def lw_tbl : List Cond := k2_sels lw_privs ++ tables_1
theorem lw_privs_ok : ∀ q ∈ lw_privs, lw_okq q := by
  show ∀ q ∈ lw_privs_1 ++ (lw_privs_2 ++ (lw_privs_3 ++ (lw_privs_4 ++ (lw_privs_5)))), lw_okq q
  exact List.forall_mem_append.mpr ⟨lw_r1, List.forall_mem_append.mpr ⟨lw_r2, List.forall_mem_append.mpr ⟨lw_r3, List.forall_mem_append.mpr ⟨lw_r4, lw_r5⟩⟩⟩⟩
end
section
def RX0 : String := "FeastRota$Acts"
def TX0 : u_T := fun k => match k with
  | 0 => ("FeastRota$Acts", "sort", "[I", true)
  | 1 => ("FeastRota$Acts", "index", "[I", true)
  | 2 => ("FeastRota$Acts", "was", "[I", true)
  | 3 => ("FeastRota$Acts", "wasTo", "[I", true)
  | _ => ("FeastRota$Acts", "kept", "I", false)
def tyX0 : Nat → FieldType := fun k => match k with
  | 0 => .array .int
  | 1 => .array .int
  | 2 => .array .int
  | 3 => .array .int
  | _ => .int
abbrev wsX00 : List Cond := u_ws RX0 TX0 5
theorem nmX0 : ∀ a, a < 5 → ∀ b, b < 5 → a ≠ b → (TX0 a).2.1 ≠ (TX0 b).2.1 := by decide +kernel
theorem tyX0_ok : ∀ k, k < 5 → parseFieldDescriptor (TX0 k).2.2.1 = some (tyX0 k) := by decide +kernel
abbrev cX0_init : ByteArray := prog_2_method_1_code
def yX0_init : MethodName := ⟨RX0, "<init>", "()V"⟩
abbrev cX0_keep : ByteArray := prog_2_method_2_code
def yX0_keep : MethodName := ⟨RX0, "keep", "(IIII)V"⟩
abbrev cX0_forgetOldest : ByteArray := prog_2_method_3_code
def yX0_forgetOldest : MethodName := ⟨RX0, "forgetOldest", "()V"⟩
abbrev cX0_takeBackLatest : ByteArray := prog_2_method_4_code
def yX0_takeBackLatest : MethodName := ⟨RX0, "takeBackLatest", "(LFeastRota$Book;)V"⟩
def RX1 : String := "FeastRota$Book"
def TX1 : u_T := fun k => match k with
  | 0 => ("FeastRota$Book", "told", "Z", false)
  | 1 => ("FeastRota$Book", "feasts", "I", false)
  | 2 => ("FeastRota$Book", "seasons", "I", false)
  | 3 => ("FeastRota$Book", "choirs", "I", false)
  | 4 => ("FeastRota$Book", "laws", "[I", true)
  | 5 => ("FeastRota$Book", "marks", "[I", true)
  | 6 => ("FeastRota$Book", "seasonFrom", "[I", true)
  | 7 => ("FeastRota$Book", "seasonTo", "[I", true)
  | 8 => ("FeastRota$Book", "seasonColour", "[I", true)
  | 9 => ("FeastRota$Book", "leaves", "[I", true)
  | _ => ("FeastRota$Book", "returns", "[I", true)
def tyX1 : Nat → FieldType := fun k => match k with
  | 0 => .boolean
  | 1 => .int
  | 2 => .int
  | 3 => .int
  | 4 => .array .int
  | 5 => .array .int
  | 6 => .array .int
  | 7 => .array .int
  | 8 => .array .int
  | 9 => .array .int
  | _ => .array .int
abbrev wsX10 : List Cond := u_ws RX1 TX1 11
theorem nmX1 : ∀ a, a < 11 → ∀ b, b < 11 → a ≠ b → (TX1 a).2.1 ≠ (TX1 b).2.1 := by decide +kernel
theorem tyX1_ok : ∀ k, k < 11 → parseFieldDescriptor (TX1 k).2.2.1 = some (tyX1 k) := by decide +kernel
abbrev cX1_init : ByteArray := prog_3_method_1_code
def yX1_init : MethodName := ⟨RX1, "<init>", "()V"⟩
abbrev cX1_canBe : ByteArray := prog_3_method_2_code
def yX1_canBe : MethodName := ⟨RX1, "canBe", "(IIII)Z"⟩
abbrev cX1_leastN : ByteArray := prog_3_method_3_code
def yX1_leastN : MethodName := ⟨RX1, "leastN", "(I)I"⟩
abbrev cX1_greatestN : ByteArray := prog_3_method_4_code
def yX1_greatestN : MethodName := ⟨RX1, "greatestN", "(I)I"⟩
abbrev cX1_empty : ByteArray := prog_3_method_5_code
def yX1_empty : MethodName := ⟨RX1, "empty", "()V"⟩
abbrev cX1_become : ByteArray := prog_3_method_6_code
def yX1_become : MethodName := ⟨RX1, "become", "(LFeastRota$Book;)V"⟩
abbrev cX1_hasFeast : ByteArray := prog_3_method_7_code
def yX1_hasFeast : MethodName := ⟨RX1, "hasFeast", "(I)Z"⟩
abbrev cX1_hasChoir : ByteArray := prog_3_method_8_code
def yX1_hasChoir : MethodName := ⟨RX1, "hasChoir", "(I)Z"⟩
abbrev cX1_mark : ByteArray := prog_3_method_9_code
def yX1_mark : MethodName := ⟨RX1, "mark", "(II)I"⟩
abbrev cX1_tellFeast : ByteArray := prog_3_method_10_code
def yX1_tellFeast : MethodName := ⟨RX1, "tellFeast", "(IIII)V"⟩
abbrev cX1_tellSeason : ByteArray := prog_3_method_11_code
def yX1_tellSeason : MethodName := ⟨RX1, "tellSeason", "(III)V"⟩
abbrev cX1_isAway : ByteArray := prog_3_method_12_code
def yX1_isAway : MethodName := ⟨RX1, "isAway", "(II)Z"⟩
def RX2 : String := "FeastRota$Calendar"
def TX2 : u_T := fun k => match k with
  | 0 => ("FeastRota$Calendar", "days", "I", false)
  | 1 => ("FeastRota$Calendar", "start", "I", false)
  | 2 => ("FeastRota$Calendar", "moon", "I", false)
  | _ => ("FeastRota$Calendar", "spring", "I", false)
def tyX2 : Nat → FieldType := fun k => match k with
  | 0 => .int
  | 1 => .int
  | 2 => .int
  | _ => .int
abbrev wsX20 : List Cond := u_ws RX2 TX2 4
theorem nmX2 : ∀ a, a < 4 → ∀ b, b < 4 → a ≠ b → (TX2 a).2.1 ≠ (TX2 b).2.1 := by decide +kernel
theorem tyX2_ok : ∀ k, k < 4 → parseFieldDescriptor (TX2 k).2.2.1 = some (tyX2 k) := by decide +kernel
abbrev cX2_init : ByteArray := prog_4_method_1_code
def yX2_init : MethodName := ⟨RX2, "<init>", "()V"⟩
abbrev cX2_daysOf : ByteArray := prog_4_method_2_code
def yX2_daysOf : MethodName := ⟨RX2, "daysOf", "(II)I"⟩
abbrev cX2_leapYearsAhead : ByteArray := prog_4_method_3_code
def yX2_leapYearsAhead : MethodName := ⟨RX2, "leapYearsAhead", "(II)I"⟩
abbrev cX2_turnTo : ByteArray := prog_4_method_4_code
def yX2_turnTo : MethodName := ⟨RX2, "turnTo", "(LFeastRota$Book;I)V"⟩
abbrev cX2_isLeap : ByteArray := prog_4_method_5_code
def yX2_isLeap : MethodName := ⟨RX2, "isLeap", "()Z"⟩
abbrev cX2_weekday : ByteArray := prog_4_method_6_code
def yX2_weekday : MethodName := ⟨RX2, "weekday", "(I)I"⟩
abbrev cX2_dayOfDate : ByteArray := prog_4_method_7_code
def yX2_dayOfDate : MethodName := ⟨RX2, "dayOfDate", "(I)I"⟩
abbrev cX2_dateOfSpring : ByteArray := prog_4_method_8_code
def yX2_dateOfSpring : MethodName := ⟨RX2, "dateOfSpring", "()I"⟩
abbrev cX2_sundayFrom : ByteArray := prog_4_method_9_code
def yX2_sundayFrom : MethodName := ⟨RX2, "sundayFrom", "(I)I"⟩
abbrev cX2_sundays : ByteArray := prog_4_method_10_code
def yX2_sundays : MethodName := ⟨RX2, "sundays", "()I"⟩
abbrev cX2_ownDay : ByteArray := prog_4_method_11_code
def yX2_ownDay : MethodName := ⟨RX2, "ownDay", "(II)I"⟩
abbrev cX2_unboundDay : ByteArray := prog_4_method_12_code
def yX2_unboundDay : MethodName := ⟨RX2, "unboundDay", "(II)I"⟩
def RX3 : String := "FeastRota$Plan"
def TX3 : u_T := fun k => match k with
  | 0 => ("FeastRota$Plan", "book", "LFeastRota$Book;", true)
  | 1 => ("FeastRota$Plan", "calendar", "LFeastRota$Calendar;", true)
  | 2 => ("FeastRota$Plan", "own", "[I", true)
  | 3 => ("FeastRota$Plan", "how", "[I", true)
  | 4 => ("FeastRota$Plan", "on", "[I", true)
  | _ => ("FeastRota$Plan", "feastOn", "[I", true)
def tyX3 : Nat → FieldType := fun k => match k with
  | 0 => .object "FeastRota$Book"
  | 1 => .object "FeastRota$Calendar"
  | 2 => .array .int
  | 3 => .array .int
  | 4 => .array .int
  | _ => .array .int
abbrev wsX30 : List Cond := u_ws RX3 TX3 6
theorem nmX3 : ∀ a, a < 6 → ∀ b, b < 6 → a ≠ b → (TX3 a).2.1 ≠ (TX3 b).2.1 := by decide +kernel
theorem tyX3_ok : ∀ k, k < 6 → parseFieldDescriptor (TX3 k).2.2.1 = some (tyX3 k) := by decide +kernel
abbrev cX3_init : ByteArray := prog_5_method_1_code
def yX3_init : MethodName := ⟨RX3, "<init>", "(LFeastRota$Book;LFeastRota$Calendar;)V"⟩
abbrev cX3_lay : ByteArray := prog_5_method_2_code
def yX3_lay : MethodName := ⟨RX3, "lay", "(II)V"⟩
abbrev cX3_ownDayOf : ByteArray := prog_5_method_3_code
def yX3_ownDayOf : MethodName := ⟨RX3, "ownDayOf", "(I)I"⟩
abbrev cX3_settleAll : ByteArray := prog_5_method_4_code
def yX3_settleAll : MethodName := ⟨RX3, "settleAll", "(II)V"⟩
abbrev cX3_settle : ByteArray := prog_5_method_5_code
def yX3_settle : MethodName := ⟨RX3, "settle", "(II)V"⟩
abbrev cX3_hold : ByteArray := prog_5_method_6_code
def yX3_hold : MethodName := ⟨RX3, "hold", "(III)V"⟩
abbrev cX3_isFree : ByteArray := prog_5_method_7_code
def yX3_isFree : MethodName := ⟨RX3, "isFree", "(I)Z"⟩
abbrev cX3_firstFree : ByteArray := prog_5_method_8_code
def yX3_firstFree : MethodName := ⟨RX3, "firstFree", "(II)I"⟩
abbrev cX3_howMany : ByteArray := prog_5_method_9_code
def yX3_howMany : MethodName := ⟨RX3, "howMany", "(I)I"⟩
abbrev cX3_rememberedOn : ByteArray := prog_5_method_10_code
def yX3_rememberedOn : MethodName := ⟨RX3, "rememberedOn", "(I)I"⟩
abbrev cX3_holderOf : ByteArray := prog_5_method_11_code
def yX3_holderOf : MethodName := ⟨RX3, "holderOf", "(I)I"⟩
abbrev cX3_rankOf : ByteArray := prog_5_method_12_code
def yX3_rankOf : MethodName := ⟨RX3, "rankOf", "(I)I"⟩
abbrev cX3_colourOf : ByteArray := prog_5_method_13_code
def yX3_colourOf : MethodName := ⟨RX3, "colourOf", "(I)I"⟩
abbrev cX3_liesIn : ByteArray := prog_5_method_14_code
def yX3_liesIn : MethodName := ⟨RX3, "liesIn", "(III)Z"⟩
abbrev cX3_isHeld : ByteArray := prog_5_method_15_code
def yX3_isHeld : MethodName := ⟨RX3, "isHeld", "(I)Z"⟩
abbrev cX3_servicesOf : ByteArray := prog_5_method_16_code
def yX3_servicesOf : MethodName := ⟨RX3, "servicesOf", "(I)I"⟩
abbrev cX3_servicesOfAllDays : ByteArray := prog_5_method_17_code
def yX3_servicesOfAllDays : MethodName := ⟨RX3, "servicesOfAllDays", "()I"⟩
abbrev cX3_isReadingDay : ByteArray := prog_5_method_18_code
def yX3_isReadingDay : MethodName := ⟨RX3, "isReadingDay", "(I)Z"⟩
abbrev cX3_readingDays : ByteArray := prog_5_method_19_code
def yX3_readingDays : MethodName := ⟨RX3, "readingDays", "(I)I"⟩
abbrev cX3_dayOfReading : ByteArray := prog_5_method_20_code
def yX3_dayOfReading : MethodName := ⟨RX3, "dayOfReading", "(J)I"⟩
def RX4 : String := "FeastRota$Reader"
def TX4 : u_T := fun k => match k with
  | 0 => ("FeastRota$Reader", "tape", "LFeastRota$Tape;", true)
  | 1 => ("FeastRota$Reader", "draft", "LFeastRota$Book;", true)
  | 2 => ("FeastRota$Reader", "at", "I", false)
  | 3 => ("FeastRota$Reader", "value", "I", false)
  | 4 => ("FeastRota$Reader", "fault", "I", false)
  | _ => ("FeastRota$Reader", "place", "I", false)
def tyX4 : Nat → FieldType := fun k => match k with
  | 0 => .object "FeastRota$Tape"
  | 1 => .object "FeastRota$Book"
  | 2 => .int
  | 3 => .int
  | 4 => .int
  | _ => .int
abbrev wsX40 : List Cond := u_ws RX4 TX4 6
theorem nmX4 : ∀ a, a < 6 → ∀ b, b < 6 → a ≠ b → (TX4 a).2.1 ≠ (TX4 b).2.1 := by decide +kernel
theorem tyX4_ok : ∀ k, k < 6 → parseFieldDescriptor (TX4 k).2.2.1 = some (tyX4 k) := by decide +kernel
abbrev cX4_init : ByteArray := prog_6_method_1_code
def yX4_init : MethodName := ⟨RX4, "<init>", "(LFeastRota$Tape;LFeastRota$Book;)V"⟩
abbrev cX4_readsAll : ByteArray := prog_6_method_2_code
def yX4_readsAll : MethodName := ⟨RX4, "readsAll", "()Z"⟩
abbrev cX4_head : ByteArray := prog_6_method_3_code
def yX4_head : MethodName := ⟨RX4, "head", "()Z"⟩
abbrev cX4_feasts : ByteArray := prog_6_method_4_code
def yX4_feasts : MethodName := ⟨RX4, "feasts", "()Z"⟩
abbrev cX4_oneFeast : ByteArray := prog_6_method_5_code
def yX4_oneFeast : MethodName := ⟨RX4, "oneFeast", "(I)Z"⟩
abbrev cX4_seasons : ByteArray := prog_6_method_6_code
def yX4_seasons : MethodName := ⟨RX4, "seasons", "()Z"⟩
abbrev cX4_oneSeason : ByteArray := prog_6_method_7_code
def yX4_oneSeason : MethodName := ⟨RX4, "oneSeason", "()Z"⟩
abbrev cX4_psalter : ByteArray := prog_6_method_8_code
def yX4_psalter : MethodName := ⟨RX4, "psalter", "()Z"⟩
abbrev cX4_choirs : ByteArray := prog_6_method_9_code
def yX4_choirs : MethodName := ⟨RX4, "choirs", "()Z"⟩
abbrev cX4_end : ByteArray := prog_6_method_10_code
def yX4_end : MethodName := ⟨RX4, "end", "()Z"⟩
abbrev cX4_lawNumber : ByteArray := prog_6_method_11_code
def yX4_lawNumber : MethodName := ⟨RX4, "lawNumber", "(II)Z"⟩
abbrev cX4_number : ByteArray := prog_6_method_12_code
def yX4_number : MethodName := ⟨RX4, "number", "(III)Z"⟩
abbrev cX4_bareNumber : ByteArray := prog_6_method_13_code
def yX4_bareNumber : MethodName := ⟨RX4, "bareNumber", "(II)Z"⟩
abbrev cX4_sign : ByteArray := prog_6_method_14_code
def yX4_sign : MethodName := ⟨RX4, "sign", "(I)Z"⟩
abbrev cX4_fails : ByteArray := prog_6_method_15_code
def yX4_fails : MethodName := ⟨RX4, "fails", "(I)Z"⟩
abbrev cX4_kindOf : ByteArray := prog_6_method_16_code
def yX4_kindOf : MethodName := ⟨RX4, "kindOf", "(I)I"⟩
def RX5 : String := "FeastRota$Rota"
def TX5 : u_T := fun k => match k with
  | 0 => ("FeastRota$Rota", "book", "LFeastRota$Book;", true)
  | 1 => ("FeastRota$Rota", "plan", "LFeastRota$Plan;", true)
  | 2 => ("FeastRota$Rota", "has", "[I", true)
  | 3 => ("FeastRota$Rota", "latest", "[I", true)
  | 4 => ("FeastRota$Rota", "today", "[I", true)
  | 5 => ("FeastRota$Rota", "dealt", "I", false)
  | 6 => ("FeastRota$Rota", "missed", "I", false)
  | _ => ("FeastRota$Rota", "sangToday", "I", false)
def tyX5 : Nat → FieldType := fun k => match k with
  | 0 => .object "FeastRota$Book"
  | 1 => .object "FeastRota$Plan"
  | 2 => .array .int
  | 3 => .array .int
  | 4 => .array .int
  | 5 => .int
  | 6 => .int
  | _ => .int
abbrev wsX50 : List Cond := u_ws RX5 TX5 8
theorem nmX5 : ∀ a, a < 8 → ∀ b, b < 8 → a ≠ b → (TX5 a).2.1 ≠ (TX5 b).2.1 := by decide +kernel
theorem tyX5_ok : ∀ k, k < 8 → parseFieldDescriptor (TX5 k).2.2.1 = some (tyX5 k) := by decide +kernel
abbrev cX5_init : ByteArray := prog_7_method_1_code
def yX5_init : MethodName := ⟨RX5, "<init>", "(LFeastRota$Book;LFeastRota$Plan;)V"⟩
abbrev cX5_go : ByteArray := prog_7_method_2_code
def yX5_go : MethodName := ⟨RX5, "go", "(II)V"⟩
abbrev cX5_dealOut : ByteArray := prog_7_method_3_code
def yX5_dealOut : MethodName := ⟨RX5, "dealOut", "(II)V"⟩
abbrev cX5_choose : ByteArray := prog_7_method_4_code
def yX5_choose : MethodName := ⟨RX5, "choose", "(III)I"⟩
abbrev cX5_goesAheadOf : ByteArray := prog_7_method_5_code
def yX5_goesAheadOf : MethodName := ⟨RX5, "goesAheadOf", "(III)Z"⟩
abbrev cX5_give : ByteArray := prog_7_method_6_code
def yX5_give : MethodName := ⟨RX5, "give", "(I)V"⟩
abbrev cX5_gap : ByteArray := prog_7_method_7_code
def yX5_gap : MethodName := ⟨RX5, "gap", "()I"⟩
def RX6 : String := "FeastRota$Tape"
def TX6 : u_T := fun k => match k with
  | 0 => ("FeastRota$Tape", "bytes", "[I", true)
  | _ => ("FeastRota$Tape", "length", "I", false)
def tyX6 : Nat → FieldType := fun k => match k with
  | 0 => .array .int
  | _ => .int
abbrev wsX60 : List Cond := u_ws RX6 TX6 2
theorem nmX6 : ∀ a, a < 2 → ∀ b, b < 2 → a ≠ b → (TX6 a).2.1 ≠ (TX6 b).2.1 := by decide +kernel
theorem tyX6_ok : ∀ k, k < 2 → parseFieldDescriptor (TX6 k).2.2.1 = some (tyX6 k) := by decide +kernel
abbrev cX6_init : ByteArray := prog_8_method_1_code
def yX6_init : MethodName := ⟨RX6, "<init>", "()V"⟩
abbrev cX6_put : ByteArray := prog_8_method_2_code
def yX6_put : MethodName := ⟨RX6, "put", "(I)Z"⟩
abbrev cX6_at : ByteArray := prog_8_method_3_code
def yX6_at : MethodName := ⟨RX6, "at", "(I)I"⟩
def RX7 : String := "FeastRota"
def TX7 : u_T := fun k => match k with
  | 0 => ("FeastRota", "tape", "LFeastRota$Tape;", true)
  | 1 => ("FeastRota", "reader", "LFeastRota$Reader;", true)
  | 2 => ("FeastRota", "current", "LFeastRota$Book;", true)
  | 3 => ("FeastRota", "images", "[LFeastRota$Book;", true)
  | 4 => ("FeastRota", "acts", "LFeastRota$Acts;", true)
  | 5 => ("FeastRota", "plan", "LFeastRota$Plan;", true)
  | 6 => ("FeastRota", "rota", "LFeastRota$Rota;", true)
  | _ => ("FeastRota", "latestFault", "I", false)
def tyX7 : Nat → FieldType := fun k => match k with
  | 0 => .object "FeastRota$Tape"
  | 1 => .object "FeastRota$Reader"
  | 2 => .object "FeastRota$Book"
  | 3 => .array (.object "FeastRota$Book")
  | 4 => .object "FeastRota$Acts"
  | 5 => .object "FeastRota$Plan"
  | 6 => .object "FeastRota$Rota"
  | _ => .int
abbrev wsX70 : List Cond := u_ws RX7 TX7 8
theorem nmX7 : ∀ a, a < 8 → ∀ b, b < 8 → a ≠ b → (TX7 a).2.1 ≠ (TX7 b).2.1 := by decide +kernel
theorem tyX7_ok : ∀ k, k < 8 → parseFieldDescriptor (TX7 k).2.2.1 = some (tyX7 k) := by decide +kernel
abbrev cX7_init : ByteArray := prog_1_method_1_code
def yX7_init : MethodName := ⟨RX7, "<init>", "()V"⟩
abbrev cX7_feed : ByteArray := prog_1_method_2_code
def yX7_feed : MethodName := ⟨RX7, "feed", "(I)I"⟩
abbrev cX7_book : ByteArray := prog_1_method_3_code
def yX7_book : MethodName := ⟨RX7, "book", "()I"⟩
abbrev cX7_fault : ByteArray := prog_1_method_4_code
def yX7_fault : MethodName := ⟨RX7, "fault", "()I"⟩
abbrev cX7_undo : ByteArray := prog_1_method_5_code
def yX7_undo : MethodName := ⟨RX7, "undo", "()I"⟩
abbrev cX7_alter : ByteArray := prog_1_method_6_code
def yX7_alter : MethodName := ⟨RX7, "alter", "(III)I"⟩
abbrev cX7_add : ByteArray := prog_1_method_7_code
def yX7_add : MethodName := ⟨RX7, "add", "(IIII)I"⟩
abbrev cX7_law : ByteArray := prog_1_method_8_code
def yX7_law : MethodName := ⟨RX7, "law", "(II)I"⟩
abbrev cX7_away : ByteArray := prog_1_method_9_code
def yX7_away : MethodName := ⟨RX7, "away", "(III)I"⟩
abbrev cX7_feast : ByteArray := prog_1_method_10_code
def yX7_feast : MethodName := ⟨RX7, "feast", "(II)I"⟩
abbrev cX7_year : ByteArray := prog_1_method_11_code
def yX7_year : MethodName := ⟨RX7, "year", "(II)I"⟩
abbrev cX7_day : ByteArray := prog_1_method_12_code
def yX7_day : MethodName := ⟨RX7, "day", "(III)I"⟩
abbrev cX7_held : ByteArray := prog_1_method_13_code
def yX7_held : MethodName := ⟨RX7, "held", "(III)I"⟩
abbrev cX7_psalm : ByteArray := prog_1_method_14_code
def yX7_psalm : MethodName := ⟨RX7, "psalm", "(III)I"⟩
abbrev cX7_read : ByteArray := prog_1_method_15_code
def yX7_read : MethodName := ⟨RX7, "read", "(III)I"⟩
abbrev cX7_sings : ByteArray := prog_1_method_16_code
def yX7_sings : MethodName := ⟨RX7, "sings", "(III)I"⟩
abbrev cX7_duties : ByteArray := prog_1_method_17_code
def yX7_duties : MethodName := ⟨RX7, "duties", "(III)I"⟩
abbrev cX7_fair : ByteArray := prog_1_method_18_code
def yX7_fair : MethodName := ⟨RX7, "fair", "(I)I"⟩
abbrev cX7_meet : ByteArray := prog_1_method_19_code
def yX7_meet : MethodName := ⟨RX7, "meet", "(III)I"⟩
abbrev cX7_springs : ByteArray := prog_1_method_20_code
def yX7_springs : MethodName := ⟨RX7, "springs", "(III)I"⟩
abbrev cX7_often : ByteArray := prog_1_method_21_code
def yX7_often : MethodName := ⟨RX7, "often", "(IIII)I"⟩
abbrev cX7_enough : ByteArray := prog_1_method_22_code
def yX7_enough : MethodName := ⟨RX7, "enough", "(II)I"⟩
abbrev cX7_best : ByteArray := prog_1_method_23_code
def yX7_best : MethodName := ⟨RX7, "best", "(I)I"⟩
abbrev cX7_bars : ByteArray := prog_1_method_24_code
def yX7_bars : MethodName := ⟨RX7, "bars", "(II)I"⟩
abbrev cX7_image : ByteArray := prog_1_method_25_code
def yX7_image : MethodName := ⟨RX7, "image", "(I)I"⟩
abbrev cX7_restore : ByteArray := prog_1_method_26_code
def yX7_restore : MethodName := ⟨RX7, "restore", "(I)I"⟩
abbrev cX7_count : ByteArray := prog_1_method_27_code
def yX7_count : MethodName := ⟨RX7, "count", "(I)I"⟩
abbrev cX7_within : ByteArray := prog_1_method_28_code
def yX7_within : MethodName := ⟨RX7, "within", "(III)Z"⟩
abbrev cX7_isYear : ByteArray := prog_1_method_29_code
def yX7_isYear : MethodName := ⟨RX7, "isYear", "(I)Z"⟩
abbrev cX7_isDay : ByteArray := prog_1_method_30_code
def yX7_isDay : MethodName := ⟨RX7, "isDay", "(II)Z"⟩
abbrev cX7_lastOf : ByteArray := prog_1_method_31_code
def yX7_lastOf : MethodName := ⟨RX7, "lastOf", "(II)I"⟩
def RX8 : String := "FeastRotaModel"
def TX8 : u_T := fun k => match k with
  | 0 => ("FeastRotaModel", "now", "[I", true)
  | 1 => ("FeastRotaModel", "draft", "[I", true)
  | 2 => ("FeastRotaModel", "past", "[I", true)
  | 3 => ("FeastRotaModel", "acts", "I", false)
  | 4 => ("FeastRotaModel", "images", "[I", true)
  | 5 => ("FeastRotaModel", "kept", "[Z", true)
  | 6 => ("FeastRotaModel", "tape", "[I", true)
  | 7 => ("FeastRotaModel", "taped", "I", false)
  | 8 => ("FeastRotaModel", "at", "I", false)
  | 9 => ("FeastRotaModel", "start", "I", false)
  | 10 => ("FeastRotaModel", "token", "I", false)
  | 11 => ("FeastRotaModel", "value", "I", false)
  | 12 => ("FeastRotaModel", "fault", "I", false)
  | 13 => ("FeastRotaModel", "place", "I", false)
  | 14 => ("FeastRotaModel", "latest", "I", false)
  | 15 => ("FeastRotaModel", "heldOn", "[I", true)
  | 16 => ("FeastRotaModel", "own", "[I", true)
  | 17 => ("FeastRotaModel", "how", "[I", true)
  | 18 => ("FeastRotaModel", "dayOf", "[I", true)
  | 19 => ("FeastRotaModel", "done", "[Z", true)
  | 20 => ("FeastRotaModel", "days", "I", false)
  | 21 => ("FeastRotaModel", "weekday", "I", false)
  | 22 => ("FeastRotaModel", "many", "[I", true)
  | 23 => ("FeastRotaModel", "last", "[I", true)
  | 24 => ("FeastRotaModel", "today", "[I", true)
  | 25 => ("FeastRotaModel", "services", "I", false)
  | _ => ("FeastRotaModel", "missed", "I", false)
def tyX8 : Nat → FieldType := fun k => match k with
  | 0 => .array .int
  | 1 => .array .int
  | 2 => .array .int
  | 3 => .int
  | 4 => .array .int
  | 5 => .array .boolean
  | 6 => .array .int
  | 7 => .int
  | 8 => .int
  | 9 => .int
  | 10 => .int
  | 11 => .int
  | 12 => .int
  | 13 => .int
  | 14 => .int
  | 15 => .array .int
  | 16 => .array .int
  | 17 => .array .int
  | 18 => .array .int
  | 19 => .array .boolean
  | 20 => .int
  | 21 => .int
  | 22 => .array .int
  | 23 => .array .int
  | 24 => .array .int
  | 25 => .int
  | _ => .int
abbrev wsX80 : List Cond := u_ws RX8 TX8 27
theorem nmX8 : ∀ a, a < 27 → ∀ b, b < 27 → a ≠ b → (TX8 a).2.1 ≠ (TX8 b).2.1 := by decide +kernel
theorem tyX8_ok : ∀ k, k < 27 → parseFieldDescriptor (TX8 k).2.2.1 = some (tyX8 k) := by decide +kernel
abbrev cX8_init : ByteArray := prog_10_method_1_code
def yX8_init : MethodName := ⟨RX8, "<init>", "()V"⟩
abbrev cX8_in : ByteArray := prog_10_method_3_code
def yX8_in : MethodName := ⟨RX8, "in", "(JJJ)Z"⟩
abbrev cX8_copies : ByteArray := prog_10_method_4_code
def yX8_copies : MethodName := ⟨RX8, "copies", "([II[II)V"⟩
abbrev cX8_isBook : ByteArray := prog_10_method_5_code
def yX8_isBook : MethodName := ⟨RX8, "isBook", "()Z"⟩
abbrev cX8_isYear : ByteArray := prog_10_method_6_code
def yX8_isYear : MethodName := ⟨RX8, "isYear", "(I)Z"⟩
abbrev cX8_isFeast : ByteArray := prog_10_method_7_code
def yX8_isFeast : MethodName := ⟨RX8, "isFeast", "(I)Z"⟩
abbrev cX8_of : ByteArray := prog_10_method_8_code
def yX8_of : MethodName := ⟨RX8, "of", "(II)I"⟩
abbrev cX8_isLeap : ByteArray := prog_10_method_9_code
def yX8_isLeap : MethodName := ⟨RX8, "isLeap", "(I)Z"⟩
abbrev cX8_dayOfDate : ByteArray := prog_10_method_10_code
def yX8_dayOfDate : MethodName := ⟨RX8, "dayOfDate", "(II)I"⟩
abbrev cX8_weekdayOf : ByteArray := prog_10_method_11_code
def yX8_weekdayOf : MethodName := ⟨RX8, "weekdayOf", "(I)I"⟩
abbrev cX8_sunday : ByteArray := prog_10_method_12_code
def yX8_sunday : MethodName := ⟨RX8, "sunday", "(I)I"⟩
abbrev cX8_opens : ByteArray := prog_10_method_13_code
def yX8_opens : MethodName := ⟨RX8, "opens", "(I)V"⟩
abbrev cX8_moon : ByteArray := prog_10_method_14_code
def yX8_moon : MethodName := ⟨RX8, "moon", "(I)I"⟩
abbrev cX8_spring : ByteArray := prog_10_method_15_code
def yX8_spring : MethodName := ⟨RX8, "spring", "(I)I"⟩
abbrev cX8_ownDay : ByteArray := prog_10_method_16_code
def yX8_ownDay : MethodName := ⟨RX8, "ownDay", "(II)I"⟩
abbrev cX8_isFree : ByteArray := prog_10_method_17_code
def yX8_isFree : MethodName := ⟨RX8, "isFree", "(I)Z"⟩
abbrev cX8_freeBehind : ByteArray := prog_10_method_18_code
def yX8_freeBehind : MethodName := ⟨RX8, "freeBehind", "(II)I"⟩
abbrev cX8_holds : ByteArray := prog_10_method_19_code
def yX8_holds : MethodName := ⟨RX8, "holds", "(III)V"⟩
abbrev cX8_comes : ByteArray := prog_10_method_20_code
def yX8_comes : MethodName := ⟨RX8, "comes", "(I)V"⟩
abbrev cX8_isAhead : ByteArray := prog_10_method_21_code
def yX8_isAhead : MethodName := ⟨RX8, "isAhead", "(II)Z"⟩
abbrev cX8_lays : ByteArray := prog_10_method_22_code
def yX8_lays : MethodName := ⟨RX8, "lays", "(II)V"⟩
abbrev cX8_nextFeast : ByteArray := prog_10_method_23_code
def yX8_nextFeast : MethodName := ⟨RX8, "nextFeast", "()I"⟩
abbrev cX8_rankOf : ByteArray := prog_10_method_24_code
def yX8_rankOf : MethodName := ⟨RX8, "rankOf", "(I)I"⟩
abbrev cX8_isHeld : ByteArray := prog_10_method_25_code
def yX8_isHeld : MethodName := ⟨RX8, "isHeld", "(I)Z"⟩
abbrev cX8_colourOf : ByteArray := prog_10_method_26_code
def yX8_colourOf : MethodName := ⟨RX8, "colourOf", "(I)I"⟩
abbrev cX8_servicesOf : ByteArray := prog_10_method_27_code
def yX8_servicesOf : MethodName := ⟨RX8, "servicesOf", "(I)I"⟩
abbrev cX8_readings : ByteArray := prog_10_method_28_code
def yX8_readings : MethodName := ⟨RX8, "readings", "(I)I"⟩
abbrev cX8_isAway : ByteArray := prog_10_method_29_code
def yX8_isAway : MethodName := ⟨RX8, "isAway", "(II)Z"⟩
abbrev cX8_had : ByteArray := prog_10_method_30_code
def yX8_had : MethodName := ⟨RX8, "had", "(II)Z"⟩
abbrev cX8_isBetter : ByteArray := prog_10_method_31_code
def yX8_isBetter : MethodName := ⟨RX8, "isBetter", "(III)Z"⟩
abbrev cX8_choose : ByteArray := prog_10_method_32_code
def yX8_choose : MethodName := ⟨RX8, "choose", "(IIIZ)I"⟩
abbrev cX8_laysRota : ByteArray := prog_10_method_33_code
def yX8_laysRota : MethodName := ⟨RX8, "laysRota", "(II)V"⟩
abbrev cX8_unfair : ByteArray := prog_10_method_34_code
def yX8_unfair : MethodName := ⟨RX8, "unfair", "(I)I"⟩
abbrev cX8_byteAt : ByteArray := prog_10_method_35_code
def yX8_byteAt : MethodName := ⟨RX8, "byteAt", "(I)I"⟩
abbrev cX8_reads : ByteArray := prog_10_method_36_code
def yX8_reads : MethodName := ⟨RX8, "reads", "()V"⟩
abbrev cX8_bad : ByteArray := prog_10_method_37_code
def yX8_bad : MethodName := ⟨RX8, "bad", "(I)V"⟩
abbrev cX8_goesOn : ByteArray := prog_10_method_38_code
def yX8_goesOn : MethodName := ⟨RX8, "goesOn", "()V"⟩
abbrev cX8_number : ByteArray := prog_10_method_39_code
def yX8_number : MethodName := ⟨RX8, "number", "(III)I"⟩
abbrev cX8_isLetter : ByteArray := prog_10_method_40_code
def yX8_isLetter : MethodName := ⟨RX8, "isLetter", "(I)Z"⟩
abbrev cX8_letter : ByteArray := prog_10_method_41_code
def yX8_letter : MethodName := ⟨RX8, "letter", "(I)V"⟩
abbrev cX8_sort : ByteArray := prog_10_method_42_code
def yX8_sort : MethodName := ⟨RX8, "sort", "()I"⟩
abbrev cX8_readsFeast : ByteArray := prog_10_method_43_code
def yX8_readsFeast : MethodName := ⟨RX8, "readsFeast", "()V"⟩
abbrev cX8_puts : ByteArray := prog_10_method_44_code
def yX8_puts : MethodName := ⟨RX8, "puts", "([IIIII)V"⟩
abbrev cX8_readsSeason : ByteArray := prog_10_method_45_code
def yX8_readsSeason : MethodName := ⟨RX8, "readsSeason", "()V"⟩
abbrev cX8_feed : ByteArray := prog_10_method_46_code
def yX8_feed : MethodName := ⟨RX8, "feed", "(I)I"⟩
abbrev cX8_readsAll : ByteArray := prog_10_method_47_code
def yX8_readsAll : MethodName := ⟨RX8, "readsAll", "()V"⟩
abbrev cX8_book : ByteArray := prog_10_method_48_code
def yX8_book : MethodName := ⟨RX8, "book", "()I"⟩
abbrev cX8_fault : ByteArray := prog_10_method_49_code
def yX8_fault : MethodName := ⟨RX8, "fault", "()I"⟩
abbrev cX8_notes : ByteArray := prog_10_method_50_code
def yX8_notes : MethodName := ⟨RX8, "notes", "()V"⟩
abbrev cX8_undo : ByteArray := prog_10_method_51_code
def yX8_undo : MethodName := ⟨RX8, "undo", "()I"⟩
abbrev cX8_isN : ByteArray := prog_10_method_52_code
def yX8_isN : MethodName := ⟨RX8, "isN", "(II)Z"⟩
abbrev cX8_mayBe : ByteArray := prog_10_method_53_code
def yX8_mayBe : MethodName := ⟨RX8, "mayBe", "(III)Z"⟩
abbrev cX8_alter : ByteArray := prog_10_method_54_code
def yX8_alter : MethodName := ⟨RX8, "alter", "(III)I"⟩
abbrev cX8_add : ByteArray := prog_10_method_55_code
def yX8_add : MethodName := ⟨RX8, "add", "(IIII)I"⟩
abbrev cX8_isLaw : ByteArray := prog_10_method_56_code
def yX8_isLaw : MethodName := ⟨RX8, "isLaw", "(II)Z"⟩
abbrev cX8_law : ByteArray := prog_10_method_57_code
def yX8_law : MethodName := ⟨RX8, "law", "(II)I"⟩
abbrev cX8_isChoir : ByteArray := prog_10_method_58_code
def yX8_isChoir : MethodName := ⟨RX8, "isChoir", "(I)Z"⟩
abbrev cX8_away : ByteArray := prog_10_method_59_code
def yX8_away : MethodName := ⟨RX8, "away", "(III)I"⟩
abbrev cX8_feast : ByteArray := prog_10_method_60_code
def yX8_feast : MethodName := ⟨RX8, "feast", "(II)I"⟩
abbrev cX8_sundays : ByteArray := prog_10_method_61_code
def yX8_sundays : MethodName := ⟨RX8, "sundays", "()I"⟩
abbrev cX8_manyHeld : ByteArray := prog_10_method_62_code
def yX8_manyHeld : MethodName := ⟨RX8, "manyHeld", "(Z)I"⟩
abbrev cX8_year : ByteArray := prog_10_method_63_code
def yX8_year : MethodName := ⟨RX8, "year", "(II)I"⟩
abbrev cX8_hasDay : ByteArray := prog_10_method_64_code
def yX8_hasDay : MethodName := ⟨RX8, "hasDay", "(III)Z"⟩
abbrev cX8_rememberedOn : ByteArray := prog_10_method_65_code
def yX8_rememberedOn : MethodName := ⟨RX8, "rememberedOn", "(I)I"⟩
abbrev cX8_day : ByteArray := prog_10_method_66_code
def yX8_day : MethodName := ⟨RX8, "day", "(III)I"⟩
abbrev cX8_held : ByteArray := prog_10_method_67_code
def yX8_held : MethodName := ⟨RX8, "held", "(III)I"⟩
abbrev cX8_psalm : ByteArray := prog_10_method_68_code
def yX8_psalm : MethodName := ⟨RX8, "psalm", "(III)I"⟩
abbrev cX8_read : ByteArray := prog_10_method_69_code
def yX8_read : MethodName := ⟨RX8, "read", "(III)I"⟩
abbrev cX8_sings : ByteArray := prog_10_method_70_code
def yX8_sings : MethodName := ⟨RX8, "sings", "(III)I"⟩
abbrev cX8_duties : ByteArray := prog_10_method_71_code
def yX8_duties : MethodName := ⟨RX8, "duties", "(III)I"⟩
abbrev cX8_fair : ByteArray := prog_10_method_72_code
def yX8_fair : MethodName := ⟨RX8, "fair", "(I)I"⟩
abbrev cX8_meet : ByteArray := prog_10_method_73_code
def yX8_meet : MethodName := ⟨RX8, "meet", "(III)I"⟩
abbrev cX8_springs : ByteArray := prog_10_method_74_code
def yX8_springs : MethodName := ⟨RX8, "springs", "(III)I"⟩
abbrev cX8_often : ByteArray := prog_10_method_75_code
def yX8_often : MethodName := ⟨RX8, "often", "(IIII)I"⟩
abbrev cX8_enough : ByteArray := prog_10_method_76_code
def yX8_enough : MethodName := ⟨RX8, "enough", "(II)I"⟩
abbrev cX8_best : ByteArray := prog_10_method_77_code
def yX8_best : MethodName := ⟨RX8, "best", "(I)I"⟩
abbrev cX8_bars : ByteArray := prog_10_method_78_code
def yX8_bars : MethodName := ⟨RX8, "bars", "(II)I"⟩
abbrev cX8_image : ByteArray := prog_10_method_79_code
def yX8_image : MethodName := ⟨RX8, "image", "(I)I"⟩
abbrev cX8_restore : ByteArray := prog_10_method_80_code
def yX8_restore : MethodName := ⟨RX8, "restore", "(I)I"⟩
abbrev cX8_count : ByteArray := prog_10_method_81_code
def yX8_count : MethodName := ⟨RX8, "count", "(I)I"⟩
def RJ9 : String := "java/lang/Math"
def TJ9 : u_T := fun k => match k with
  | _ => ("", "", "", false)
def tyJ9 : Nat → FieldType := fun k => match k with
  | _ => .int
abbrev cJ9_max_7cf53 : ByteArray := prog_11_method_65_code
def yJ9_max_7cf53 : MethodName := ⟨RJ9, "max", "(II)I"⟩
abbrev cJ9_min_7cf53 : ByteArray := prog_11_method_69_code
def yJ9_min_7cf53 : MethodName := ⟨RJ9, "min", "(II)I"⟩
def RJ10 : String := "java/lang/System"
def TJ10 : u_T := fun k => match k with
  | _ => ("", "", "", false)
def tyJ10 : Nat → FieldType := fun k => match k with
  | _ => .int
def RJ7 : String := "java/util/Arrays"
def TJ7 : u_T := fun k => match k with
  | _ => ("", "", "", false)
def tyJ7 : Nat → FieldType := fun k => match k with
  | _ => .int
abbrev cJ7_fill_53178 : ByteArray := prog_13_method_103_code
def yJ7_fill_53178 : MethodName := ⟨RJ7, "fill", "([II)V"⟩
def RL : String := "FeastRotaLaw"
abbrev cL_law : ByteArray := code
def yL_law : MethodName := ⟨RL, "law", "([I)Z"⟩
end
section
/-! THE WORLD of the law: 67 cells, those of x (0 to 51) in the order of their making, then those of m (52 to 66). A memory: of each cell, what its slots hold. -/
abbrev fr_N : Type := Nat → Nat → Int32
abbrev fr_M : Type := fr_N × fr_N
/-- a cell's row told anew -/
def fr_row (n : fr_N) (c : Nat) (f : Nat → Int32) : fr_N := fun c' => if c' = c then f else n c'
/-- one slot told anew -/
def fr_up (n : fr_N) (c j : Nat) (x : Int32) : fr_N := fr_row n c (upd (n c) j x)
/-- a row copied into another one -/
def fr_cp (n : fr_N) (c0 c1 sp dp k : Nat) : fr_N := fr_row n c1 (va_cpy (n c0) (n c1) sp dp k)
def fr_b (b : Bool) : Int32 := match b with
  | true => 1
  | false => 0
def fr_rem (x y : Int32) : Int32 := x - x / y * y
abbrev fr_cl : List vw_C := [(RX0, TX0, 5), (RX1, TX1, 11), (RX2, TX2, 4), (RX3, TX3, 6), (RX4, TX4, 6), (RX5, TX5, 8), (RX6, TX6, 2), (RX7, TX7, 8), (RX8, TX8, 27)]
/-- a cell's shape: an object of a class, its fields either a cell or a number; a row of a kind (0 int, 1 boolean, 2 Books) and length -/
abbrev fr_S : Type := (Nat × List (Option Nat)) ⊕ (Nat × Nat)
def fr_bk (b : Nat) : fr_S := .inl (1, [none, none, none, none, some (b + 1), some (b + 2), some (b + 3), some (b + 4), some (b + 5), some (b + 6), some (b + 7)])
def fr_sh (k : Nat) : fr_S := match k with
  | 0 => .inl (7, [some 1, some 34, some 3, some 17, some 43, some 11, some 48, none])
  | 1 => .inl (6, [some 2, none])
  | 2 => .inr (0, 160)
  | 3 => fr_bk 3
  | 4 => .inr (0, 6)
  | 5 => .inr (0, 48)
  | 6 => .inr (0, 4)
  | 7 => .inr (0, 4)
  | 8 => .inr (0, 4)
  | 9 => .inr (0, 5)
  | 10 => .inr (0, 5)
  | 11 => .inl (3, [some 3, some 12, some 13, some 14, some 15, some 16])
  | 12 => .inl (2, [none, none, none, none])
  | 13 => .inr (0, 12)
  | 14 => .inr (0, 12)
  | 15 => .inr (0, 12)
  | 16 => .inr (0, 367)
  | 17 => .inr (2, 2)
  | 18 => fr_bk 18
  | 19 => .inr (0, 6)
  | 20 => .inr (0, 48)
  | 21 => .inr (0, 4)
  | 22 => .inr (0, 4)
  | 23 => .inr (0, 4)
  | 24 => .inr (0, 5)
  | 25 => .inr (0, 5)
  | 26 => fr_bk 26
  | 27 => .inr (0, 6)
  | 28 => .inr (0, 48)
  | 29 => .inr (0, 4)
  | 30 => .inr (0, 4)
  | 31 => .inr (0, 4)
  | 32 => .inr (0, 5)
  | 33 => .inr (0, 5)
  | 34 => .inl (4, [some 1, some 35, none, none, none, none])
  | 35 => fr_bk 35
  | 36 => .inr (0, 6)
  | 37 => .inr (0, 48)
  | 38 => .inr (0, 4)
  | 39 => .inr (0, 4)
  | 40 => .inr (0, 4)
  | 41 => .inr (0, 5)
  | 42 => .inr (0, 5)
  | 43 => .inl (0, [some 44, some 45, some 46, some 47, none])
  | 44 => .inr (0, 16)
  | 45 => .inr (0, 16)
  | 46 => .inr (0, 16)
  | 47 => .inr (0, 16)
  | 48 => .inl (5, [some 3, some 11, some 49, some 50, some 51, none, none, none])
  | 49 => .inr (0, 5)
  | 50 => .inr (0, 5)
  | 51 => .inr (0, 4)
  | 52 => .inl (8, [some 53, some 54, some 55, none, some 56, some 57, some 58, none, none, none, none, none, none, none, none, some 59, some 60, some 61, some 62, some 63, none, none, some 64, some 65, some 66, none, none])
  | 53 => .inr (0, 79)
  | 54 => .inr (0, 79)
  | 55 => .inr (0, 1264)
  | 56 => .inr (0, 158)
  | 57 => .inr (1, 2)
  | 58 => .inr (0, 160)
  | 59 => .inr (0, 367)
  | 60 => .inr (0, 12)
  | 61 => .inr (0, 12)
  | 62 => .inr (0, 12)
  | 63 => .inr (1, 12)
  | 64 => .inr (0, 5)
  | 65 => .inr (0, 5)
  | _ => .inr (0, 4)
/-- what a run of the law has given: class numbers, the three kinds of rows, the cells' addresses (67 to 69: the class's three tables; 70: the script), the script's length, the script -/
abbrev fr_G : Type := va_G × ClassId × ClassId × ClassId × (Nat → Nat) × Nat × (Nat → Int32)
def fr_gD (G : fr_G) : va_G := G.1
def fr_gI (G : fr_G) : ClassId := G.2.1
def fr_gZ (G : fr_G) : ClassId := G.2.2.1
def fr_gB (G : fr_G) : ClassId := G.2.2.2.1
def fr_ad (G : fr_G) : Nat → Nat := G.2.2.2.2.1
def fr_gL (G : fr_G) : Nat := G.2.2.2.2.2.1
def fr_gX (G : fr_G) : Nat → Int32 := G.2.2.2.2.2.2
def fr_ty (G : fr_G) : List (ClassId × FieldType) := [(fr_gI G, .int), (fr_gZ G, .boolean), (fr_gB G, .object RX1)]
def fr_fv (G : fr_G) (o : Option Nat) (x : Int32) : Value := match o with
  | some k => .ref (fr_ad G k)
  | none => .int x
def fr_fs (G : fr_G) (fs : List (Option Nat)) (f : Nat → Int32) : List Value := (List.range fs.length).map (fun j => fr_fv G (fs.getD j none) (f j))
def fr_ce (G : fr_G) (q : fr_S) (f : Nat → Int32) : va_E := match q with
  | .inl (c, fs) => .inr (c, fr_fs G fs f)
  | .inr (0, n) => .inl (fr_gI G, n, .inl f)
  | .inr (1, n) => .inl (fr_gZ G, n, .inl f)
  | .inr (_, n) => .inl (fr_gB G, n, .inr (.inr (.inr (.inr (fun j => some (fr_ad G (18 + 8 * j)))))))
def fr_ct (M : fr_M) (k : Nat) : Nat → Int32 := if k < 52 then M.1 k else M.2 (k - 52)
def fr_ws (G : fr_G) (M : fr_M) : va_W := (List.range 67).map (fun k => (fr_ad G k, fr_ce G (fr_sh k) (fr_ct M k)))
theorem fr_ws_at {G : fr_G} {M : fr_M} {k : Nat} (h : k < 67) : (fr_ws G M)[k]? = some (fr_ad G k, fr_ce G (fr_sh k) (fr_ct M k)) := by
  simp [fr_ws, List.getElem?_range h]
theorem fr_ws_len {G : fr_G} {M : fr_M} : (fr_ws G M).length = 67 := by simp [fr_ws]
/-- a cell of the world told anew -/
theorem fr_ws_set {G : fr_G} {M M' : fr_M} {k : Nat} (h : k < 67) {e : va_E} (he : e = fr_ce G (fr_sh k) (fr_ct M' k)) (ho : ∀ j, j ≠ k → fr_ct M' j = fr_ct M j) : (fr_ws G M).set k (fr_ad G k, e) = fr_ws G M' := by
  apply List.ext_getElem?
  intro j
  by_cases hj : j = k
  · subst hj
    rw [List.getElem?_set_self (by rw [fr_ws_len]; exact h), fr_ws_at h, he]
  · rw [List.getElem?_set_ne (Ne.symm hj)]
    by_cases h67 : j < 67
    · rw [fr_ws_at h67, fr_ws_at h67, ho j hj]
    · rw [List.getElem?_eq_none (by rw [fr_ws_len]; omega), List.getElem?_eq_none (by rw [fr_ws_len]; omega)]
/-- writing a row of x or of m -/
def fr_wr (M : fr_M) (k : Nat) (f : Nat → Int32) : fr_M := if k < 52 then (fr_row M.1 k f, M.2) else (M.1, fr_row M.2 (k - 52) f)
theorem fr_ct_wr {M : fr_M} {k : Nat} {f : Nat → Int32} : fr_ct (fr_wr M k f) k = f := by
  unfold fr_ct fr_wr
  by_cases h : k < 52
  · simp [h, fr_row]
  · simp [h, fr_row]
theorem fr_ct_wr_ne {M : fr_M} {k j : Nat} {f : Nat → Int32} (hj : j ≠ k) : fr_ct (fr_wr M k f) j = fr_ct M j := by
  unfold fr_ct fr_wr
  by_cases h : k < 52
  · by_cases h2 : j < 52
    · simp [h, h2, fr_row, hj]
    · simp [h, h2]
  · by_cases h2 : j < 52
    · simp [h, h2]
    · have : ¬ (j - 52 = k - 52) := by omega
      simp [h, h2, fr_row, this]
theorem fr_fs_at {G : fr_G} {fs : List (Option Nat)} {f : Nat → Int32} {j : Nat} {o : Option Nat} (h : fs[j]? = some o) : (fr_fs G fs f)[j]? = some (fr_fv G o (f j)) := by
  have hl : j < fs.length := (List.getElem?_eq_some_iff.mp h).1
  simp [fr_fs, List.getElem?_range hl, h]
theorem fr_fs_len {G : fr_G} {fs : List (Option Nat)} {f : Nat → Int32} : (fr_fs G fs f).length = fs.length := by simp [fr_fs]
theorem fr_fs_set {G : fr_G} {fs : List (Option Nat)} {f : Nat → Int32} {j : Nat} {x : Int32} (h : fs[j]? = some none) : (fr_fs G fs f).set j (.int x) = fr_fs G fs (upd f j x) := by
  apply List.ext_getElem?
  intro i
  have hl : j < fs.length := (List.getElem?_eq_some_iff.mp h).1
  by_cases hi : i = j
  · subst hi
    rw [List.getElem?_set_self (by rw [fr_fs_len]; exact hl), fr_fs_at h]
    simp [fr_fv, upd]
  · rw [List.getElem?_set_ne (Ne.symm hi)]
    by_cases h2 : i < fs.length
    · have h3 : fs[i]? = some fs[i] := List.getElem?_eq_getElem h2
      rw [fr_fs_at h3, fr_fs_at h3]
      simp [upd, hi]
    · rw [List.getElem?_eq_none (by rw [fr_fs_len]; omega), List.getElem?_eq_none (by rw [fr_fs_len]; omega)]
/-- the cells that the world's own are -/
def fr_A (G : fr_G) : Nat → Prop := fun q => ∃ k, k < 67 ∧ q = fr_ad G k
/-- a value as the machine has it: cells by their addresses -/
def fr_v (G : fr_G) (v : Value) : Value := match v with
  | .ref k => .ref (fr_ad G k)
  | w => w
theorem fr_v_cat (G : fr_G) (v : Value) : (fr_v G v).category = v.category := by cases v <;> rfl
/-- the class's three tables -/
def fr_tb1 (j : Nat) : Int32 := match j with
  | 3 => 10
  | 4 => 1
  | _ => 0
def fr_tb2 (j : Nat) : Int32 := match j with
  | 0 => 2
  | 1 => 29
  | 2 => 6
  | 3 => 150
  | 4 => 9
  | _ => 2
def fr_tb3 (j : Nat) : Int32 := match j with
  | 0 => 1
  | 1 => 1
  | 2 => 2
  | 3 => 2
  | 4 => 3
  | _ => 4
def fr_St (G : fr_G) (A : Nat → Prop) (U : State) (H : Heap) : Prop :=
  va_Z RX7 "LEAST_LAW" "[I" (.ref (fr_ad G 67)) A U H ∧ va_Z RX7 "GREATEST_LAW" "[I" (.ref (fr_ad G 68)) A U H ∧ va_Z RX7 "SERVICES_BY_RANK" "[I" (.ref (fr_ad G 69)) A U H ∧
  va_T .int (fr_ad G 67) 6 (fun j => .int (fr_tb1 j)) A U H ∧ va_T .int (fr_ad G 68) 6 (fun j => .int (fr_tb2 j)) A U H ∧ va_T .int (fr_ad G 69) 6 (fun j => .int (fr_tb3 j)) A U H
theorem fr_St.moved {G : fr_G} {A : Nat → Prop} {u U : State} {H : Heap} (hvm : u.vm.Alike U.vm) (h : fr_St G A u H) : fr_St G A U H := by
  obtain ⟨h1, h2, h3, h4, h5, h6⟩ := h
  exact ⟨h1.moved hvm, h2.moved hvm, h3.moved hvm, h4.moved hvm, h5.moved hvm, h6.moved hvm⟩
theorem fr_St.kept {G : fr_G} {A : Nat → Prop} {U : State} {H H1 : Heap} (h : fr_St G A U H) (hq : ∀ a : Nat, a < H.size → ¬ A a → H1[a]? = H[a]?) : fr_St G A U H1 := by
  obtain ⟨h1, h2, h3, h4, h5, h6⟩ := h
  exact ⟨h1.kept hq, h2.kept hq, h3.kept hq, h4.kept hq, h5.kept hq, h6.kept hq⟩
theorem fr_St.narrow {G : fr_G} {A B : Nat → Prop} {U : State} {H : Heap} (h : fr_St G A U H) (hAB : ∀ q, B q → A q) : fr_St G B U H := by
  obtain ⟨h1, h2, h3, h4, h5, h6⟩ := h
  exact ⟨h1.narrow hAB, h2.narrow hAB, h3.narrow hAB, h4.narrow hAB, h5.narrow hAB, h6.narrow hAB⟩
/-- words that a warm machine keeps, and those on nest mates, which are carried by themselves -/
def fr_tb : List Cond := lw_tbl.filter goodWord
theorem fr_in {w : Cond} {i : Nat} (h : lw_tbl[i]? = some w) (hg : goodWord w = true) : w ∈ fr_tb := List.mem_filter.mpr ⟨List.mem_of_getElem? h, hg⟩
theorem fr_good : GoodIn fr_tb fr_tb := fun _ hw => ⟨hw, good_of_word (List.mem_filter.mp hw).2⟩
def fr_nm : List (String × Nat) := [(RX0, 48), (RX1, 33), (RX2, 54), (RX3, 91), (RX4, 112)]
def fr_nf : List (String × Nat × String) := [(RX3, 122, "SERVICES_BY_RANK"), (RX4, 115, "LEAST_LAW"), (RX4, 119, "GREATEST_LAW")]
def fr_Nw (U : State) : Prop := (∀ q ∈ fr_nm, va_Nw (.methodLinkNest q.1 q.2 yX7_within RX7) U) ∧ ∀ q ∈ fr_nf, va_Nw (.fieldLinkNest q.1 q.2.1 RX7 q.2.2 "[I" RX7) U
theorem fr_Nw.warm {s U : State} (hW : s.WarmedH U.vm) (h : fr_Nw s) : fr_Nw U := ⟨fun q hq => va_Nw.warmM hW (h.1 q hq), fun q hq => va_Nw.warmF hW (h.2 q hq)⟩
theorem fr_Nw.same {u U : State} (hv : u.vm = U.vm) (h : fr_Nw u) : fr_Nw U := ⟨fun q hq => va_Nw.same rfl hv (h.1 q hq), fun q hq => va_Nw.same rfl hv (h.2 q hq)⟩
/-- a method: its name, code, locals, what it returns, the room that it has -/
abbrev fr_Y : Type := MethodName × ByteArray × Nat × Option FieldType × Room
/-- what stands while a method is walked -/
abbrev fr_K : Type := Program × Launch × Env × Room × State × MethodId × Array Value × List Frame × Method × Code × Nat × Nat × (State → Prop) × fr_G × (Nat → Prop)
def fr_W (K : fr_K) (H : Heap) (locs : List Loc) (g : JFrame) : Prop := match K with
  | (p, l, e, R, s, m, args, below, meth, c, cells, slots, Q, _, _) => W p l e R s m args below meth c H locs cells slots Q g
def fr_F (Y : fr_Y) (K : fr_K) : Prop := match K with
  | (p, _, _, R, s, m, args, _, _, c, cells, slots, _, G, A) => p.tables.exec = Jvm.exec ∧ c.code = Y.2.1 ∧ c.maxLocals = Y.2.2.1 ∧ s.vm.findClass Y.1.cls = some m.cls ∧ (∀ w ∈ fr_tb, w.before args s = true) ∧ R = Y.2.2.2.2 ∧ (cells ≤ R.cells ∧ slots ≤ R.slots) ∧
    va_K (fr_gD G) fr_cl (fr_ty G) s ∧ (∀ M, va_D A (fr_ws G M)) ∧ fr_St G A s s.heap ∧ fr_Nw s
def fr_kG (K : fr_K) : fr_G := match K with
  | (_, _, _, _, _, _, _, _, _, _, _, _, _, G, _) => G
def fr_kA (K : fr_K) : Nat → Prop := match K with
  | (_, _, _, _, _, _, _, _, _, _, _, _, _, _, A) => A
def fr_ks (K : fr_K) : State := match K with
  | (_, _, _, _, s, _, _, _, _, _, _, _, _, _, _) => s
def fr_km (K : fr_K) : MethodId := match K with
  | (_, _, _, _, _, m, _, _, _, _, _, _, _, _, _) => m
def fr_kl (K : fr_K) : Launch := match K with
  | (_, l, _, _, _, _, _, _, _, _, _, _, _, _, _) => l
/-- the locals: those that are told -/
def fr_L (G : fr_G) (n : Nat) (L : List (Option Value)) (ls : Array Slot) : Prop := ls.size = n ∧ lv_wf ls ∧ ∀ (i : Nat) (v : Value), L[i]? = some (some v) → ls[i]? = some (.val (fr_v G v))
/-- THE JUDGEMENT: from this place of the method, with these locals, this stack and this memory, the machine comes to its goal -/
def fr_V (Y : fr_Y) (K : fr_K) (pc : Nat) (L : List (Option Value)) (st : List Value) (M : fr_M) : Prop :=
  ∀ (H : Heap) (locs : List Loc) (ls : Array Slot), va_P (fr_gD (fr_kG K)) fr_cl (fr_ws (fr_kG K) M) H → va_S (fr_kA K) (fr_ks K).heap H locs → fr_L (fr_kG K) Y.2.2.1 L ls → fr_W K H locs (F0 (fr_km K) pc ls (st.map (fr_v (fr_kG K))))
end
section
/-! ROWS: an instruction a row -/
def fr_get : List (Option Value) → Nat → Option Value
  | [], _ => none
  | a :: _, 0 => a
  | _ :: t, n + 1 => fr_get t n
def fr_set : List (Option Value) → Nat → Value → List (Option Value)
  | [], _, _ => []
  | _ :: t, 0, v => some v :: t
  | a :: t, n + 1, v => a :: fr_set t n v
/-- a long: the slot behind it is nobody's -/
def fr_set2 : List (Option Value) → Nat → Value → List (Option Value)
  | [], _, _ => []
  | _ :: t, 0, v => some v :: (match t with
    | [] => []
    | _ :: u => none :: u)
  | a :: t, n + 1, v => a :: fr_set2 t n v
/-- no long stands just ahead -/
def fr_ok : List (Option Value) → Nat → Bool
  | [], _ => true
  | _ :: _, 0 => true
  | a :: _, 1 => match a with
    | some v => decide (v.category = 1)
    | none => true
  | _ :: t, n + 2 => fr_ok t (n + 1)
theorem fr_get_eq : ∀ (L : List (Option Value)) (i : Nat) (v : Value), fr_get L i = some v → L[i]? = some (some v)
  | [], _, _, h => by cases h
  | _ :: _, 0, _, h => by simpa [fr_get] using h
  | _ :: t, n + 1, v, h => by simpa using fr_get_eq t n v h
theorem fr_eq_get : ∀ (L : List (Option Value)) (i : Nat) (v : Value), L[i]? = some (some v) → fr_get L i = some v
  | [], _, _, h => by simp at h
  | _ :: _, 0, _, h => by simpa [fr_get] using h
  | _ :: t, n + 1, v, h => fr_eq_get t n v (by simpa using h)
theorem fr_get_set : ∀ (L : List (Option Value)) (i j : Nat) (v w : Value), fr_get (fr_set L i v) j = some w → (j = i ∧ w = v) ∨ (j ≠ i ∧ fr_get L j = some w)
  | [], _, _, _, _, h => by cases h
  | _ :: _, 0, 0, v, w, h => Or.inl ⟨rfl, (Option.some.inj h).symm⟩
  | _ :: _, 0, _ + 1, v, w, h => Or.inr ⟨by omega, h⟩
  | _ :: _, _ + 1, 0, v, w, h => Or.inr ⟨by omega, h⟩
  | _ :: t, i + 1, j + 1, v, w, h => by
    rcases fr_get_set t i j v w h with ⟨h1, h2⟩ | ⟨h1, h2⟩
    · exact Or.inl ⟨by omega, h2⟩
    · exact Or.inr ⟨by omega, h2⟩
theorem fr_get_set2 : ∀ (L : List (Option Value)) (i j : Nat) (v w : Value), fr_get (fr_set2 L i v) j = some w → (j = i ∧ w = v) ∨ (j ≠ i ∧ j ≠ i + 1 ∧ fr_get L j = some w)
  | [], _, _, _, _, h => by cases h
  | _ :: _, 0, 0, v, w, h => Or.inl ⟨rfl, (Option.some.inj h).symm⟩
  | _ :: [], 0, _ + 1, v, w, h => by cases h
  | _ :: _ :: _, 0, 1, v, w, h => by cases h
  | _ :: _ :: _, 0, _ + 2, v, w, h => Or.inr ⟨by omega, by omega, h⟩
  | _ :: _, _ + 1, 0, v, w, h => Or.inr ⟨by omega, by omega, h⟩
  | _ :: t, i + 1, j + 1, v, w, h => by
    rcases fr_get_set2 t i j v w h with ⟨h1, h2⟩ | ⟨h1, h2, h3⟩
    · exact Or.inl ⟨by omega, h2⟩
    · exact Or.inr ⟨by omega, by omega, h3⟩
theorem fr_ok_cat : ∀ (L : List (Option Value)) (i j : Nat) (w : Value), fr_ok L i = true → j + 1 = i → fr_get L j = some w → w.category = 1
  | [], _, _, _, _, _, h => by cases h
  | _ :: _, 0, _, _, _, h, _ => by omega
  | a :: _, 1, 0, w, h, _, hg => by
    have ha : a = some w := hg
    subst ha
    exact of_decide_eq_true h
  | _ :: _, 1, _ + 1, _, _, h, _ => by omega
  | _ :: _, _ + 2, 0, _, _, h, _ => by omega
  | _ :: t, n + 2, j + 1, w, h, hj, hg => fr_ok_cat t (n + 1) j w h (by omega) hg
/-- the locals that are told, as the kit lists them -/
def fr_ll (G : fr_G) (L : List (Option Value)) : List (Nat × Value) := (List.range L.length).filterMap (fun i => (fr_get L i).map (fun v => (i, fr_v G v)))
theorem fr_ll_mem {G : fr_G} {L : List (Option Value)} {i : Nat} {v : Value} (h : fr_get L i = some v) : (i, fr_v G v) ∈ fr_ll G L := by
  have hl : i < L.length := (List.getElem?_eq_some_iff.mp (fr_get_eq L i v h)).1
  exact List.mem_filterMap.mpr ⟨i, List.mem_range.mpr hl, by rw [h]; rfl⟩
theorem fr_ll_has {G : fr_G} {n : Nat} {L : List (Option Value)} {ls : Array Slot} (h : fr_L G n L ls) : lv_has ls n (fr_ll G L) := by
  refine ⟨h.1, h.2.1, fun q hq => ?_⟩
  obtain ⟨i, -, hi⟩ := List.mem_filterMap.mp hq
  cases hg : fr_get L i with
  | none => rw [hg] at hi; cases hi
  | some v =>
    rw [hg] at hi
    obtain rfl := Option.some.inj hi
    exact h.2.2 i v (fr_get_eq L i v hg)
theorem fr_at {G : fr_G} {n : Nat} {L : List (Option Value)} {ls : Array Slot} {i : Nat} {v : Value} (h : fr_L G n L ls) (hg : fr_get L i = some v) : ls[i]? = some (.val (fr_v G v)) := h.2.2 i v (fr_get_eq L i v hg)
theorem fr_st1 {G : fr_G} {n : Nat} {L : List (Option Value)} {ls : Array Slot} {i : Nat} {v : Value} (ho : fr_ok L i = true) (h : lv_has ls n ((i, fr_v G v) :: (fr_ll G L).filter (fun q => !(q.1 == i) && !(q.1 + 1 == i && q.2.category == 2)))) : fr_L G n (fr_set L i v) ls := by
  refine ⟨h.1, h.2.1, fun j w hj => ?_⟩
  rcases fr_get_set L i j v w (fr_eq_get _ _ _ hj) with ⟨rfl, rfl⟩ | ⟨h1, h2⟩
  · exact h.2.2 (j, fr_v G w) List.mem_cons_self
  · refine h.2.2 (j, fr_v G w) (List.mem_cons_of_mem _ (List.mem_filter.mpr ⟨fr_ll_mem h2, ?_⟩))
    by_cases h3 : j + 1 = i
    · have := fr_ok_cat L i j w ho h3 h2
      simp [h1, fr_v_cat, this]
    · simp [h1, h3]
theorem fr_st2 {G : fr_G} {n : Nat} {L : List (Option Value)} {ls : Array Slot} {i : Nat} {v : Value} (ho : fr_ok L i = true) (h : lv_has ls n ((i, fr_v G v) :: (fr_ll G L).filter (fun q => !(q.1 == i) && (!(q.1 == i + 1) && !(q.1 + 1 == i && q.2.category == 2))))) : fr_L G n (fr_set2 L i v) ls := by
  refine ⟨h.1, h.2.1, fun j w hj => ?_⟩
  rcases fr_get_set2 L i j v w (fr_eq_get _ _ _ hj) with ⟨rfl, rfl⟩ | ⟨h1, h0, h2⟩
  · exact h.2.2 (j, fr_v G w) List.mem_cons_self
  · refine h.2.2 (j, fr_v G w) (List.mem_cons_of_mem _ (List.mem_filter.mpr ⟨fr_ll_mem h2, ?_⟩))
    by_cases h3 : j + 1 = i
    · have := fr_ok_cat L i j w ho h3 h2
      simp [h1, h0, fr_v_cat, this]
    · simp [h1, h0, h3]
section FRR
variable {Y : fr_Y} {K : fr_K} {pc q : Nat} {L : List (Option Value)} {st : List Value} {M : fr_M}
theorem fr_iconst {n : Int} {v : Int32} (F : fr_F Y K) (hd : decode Y.2.1 pc = .ok (.iconst n, 1)) (hq : pc + 1 = q) (hv : Int32.ofInt n = v) (k : fr_V Y K q L (.int v :: st) M) : fr_V Y K pc L (st) M := by
  subst hq
  obtain ⟨p, l, e, R, s, m, args, below, meth, c, cells, slots, Q, G, A⟩ := K
  intro H locs ls hP hS hl
  exact lv_iconst F.1 F.2.1 hd hv (k H locs ls hP hS hl)
theorem fr_bipush {n : Int} {v : Int32} (F : fr_F Y K) (hd : decode Y.2.1 pc = .ok (.bipush n, 2)) (hq : pc + 2 = q) (hv : (Int8.ofInt n).toInt32 = v) (k : fr_V Y K q L (.int v :: st) M) : fr_V Y K pc L (st) M := by
  subst hq
  obtain ⟨p, l, e, R, s, m, args, below, meth, c, cells, slots, Q, G, A⟩ := K
  intro H locs ls hP hS hl
  exact lv_bipush F.1 F.2.1 hd hv (k H locs ls hP hS hl)
theorem fr_sipush {n : Int} {v : Int32} (F : fr_F Y K) (hd : decode Y.2.1 pc = .ok (.sipush n, 3)) (hq : pc + 3 = q) (hv : (Int16.ofInt n).toInt32 = v) (k : fr_V Y K q L (.int v :: st) M) : fr_V Y K pc L (st) M := by
  subst hq
  obtain ⟨p, l, e, R, s, m, args, below, meth, c, cells, slots, Q, G, A⟩ := K
  intro H locs ls hP hS hl
  exact lv_sipush F.1 F.2.1 hd hv (k H locs ls hP hS hl)
theorem fr_lconst {n : Fin 2} {v : Int64} (F : fr_F Y K) (hd : decode Y.2.1 pc = .ok (.lconst n, 1)) (hq : pc + 1 = q) (hv : Int64.ofNat (n : Nat) = v) (k : fr_V Y K q L (.long v :: st) M) : fr_V Y K pc L (st) M := by
  subst hq
  obtain ⟨p, l, e, R, s, m, args, below, meth, c, cells, slots, Q, G, A⟩ := K
  intro H locs ls hP hS hl
  exact lv_lconst F.1 F.2.1 hd hv (k H locs ls hP hS hl)
theorem fr_ldc {n : Nat} {v : Int32} (F : fr_F Y K) (hd : decode Y.2.1 pc = .ok (.ldc n, 2)) (hq : pc + 2 = q) (hw : Cond.constant Y.1.cls n v ∈ fr_tb) (k : fr_V Y K q L (.int v :: st) M) : fr_V Y K pc L (st) M := by
  subst hq
  obtain ⟨p, l, e, R, s, m, args, below, meth, c, cells, slots, Q, G, A⟩ := K
  intro H locs ls hP hS hl
  exact lv_ldc F.1 F.2.1 F.2.2.2.1 (F.2.2.2.2.1 _ hw) hd (k H locs ls hP hS hl)
theorem fr_ldcw {n : Nat} {v : Int32} (F : fr_F Y K) (hd : decode Y.2.1 pc = .ok (.ldc_w n, 3)) (hq : pc + 3 = q) (hw : Cond.constant Y.1.cls n v ∈ fr_tb) (k : fr_V Y K q L (.int v :: st) M) : fr_V Y K pc L (st) M := by
  subst hq
  obtain ⟨p, l, e, R, s, m, args, below, meth, c, cells, slots, Q, G, A⟩ := K
  intro H locs ls hP hS hl
  exact lv_ldcw F.1 F.2.1 F.2.2.2.1 (F.2.2.2.2.1 _ hw) hd (k H locs ls hP hS hl)
theorem fr_ldc2 {n : Nat} {v : Int64} (F : fr_F Y K) (hd : decode Y.2.1 pc = .ok (.ldc2_w n, 3)) (hq : pc + 3 = q) (hw : Cond.constantLong Y.1.cls n v ∈ fr_tb) (k : fr_V Y K q L (.long v :: st) M) : fr_V Y K pc L (st) M := by
  subst hq
  obtain ⟨p, l, e, R, s, m, args, below, meth, c, cells, slots, Q, G, A⟩ := K
  intro H locs ls hP hS hl
  exact lv_ldc2 F.1 F.2.1 F.2.2.2.1 (F.2.2.2.2.1 _ hw) hd (k H locs ls hP hS hl)
theorem fr_iload_n {n : Fin 4} {x : Int32} (F : fr_F Y K) (hd : decode Y.2.1 pc = .ok (.iload_n n, 1)) (hq : pc + 1 = q) (hg : fr_get L n.val = some (.int x)) (k : fr_V Y K q L (.int x :: st) M) : fr_V Y K pc L (st) M := by
  subst hq
  obtain ⟨p, l, e, R, s, m, args, below, meth, c, cells, slots, Q, G, A⟩ := K
  intro H locs ls hP hS hl
  exact lv_iload_n F.1 F.2.1 hd rfl (fr_at hl hg) (k H locs ls hP hS hl)
theorem fr_iload {n : Nat} {x : Int32} (F : fr_F Y K) (hd : decode Y.2.1 pc = .ok (.iload n, 2)) (hq : pc + 2 = q) (hg : fr_get L n = some (.int x)) (k : fr_V Y K q L (.int x :: st) M) : fr_V Y K pc L (st) M := by
  subst hq
  obtain ⟨p, l, e, R, s, m, args, below, meth, c, cells, slots, Q, G, A⟩ := K
  intro H locs ls hP hS hl
  exact lv_iload F.1 F.2.1 hd (fr_at hl hg) (k H locs ls hP hS hl)
theorem fr_istore_n {n : Fin 4} {x : Int32} (F : fr_F Y K) (hd : decode Y.2.1 pc = .ok (.istore_n n, 1)) (hq : pc + 1 = q) (hn : n.val < Y.2.2.1) (ho : fr_ok L n.val = true) (k : fr_V Y K q (fr_set L n.val (.int x)) (st) M) : fr_V Y K pc L (.int x :: st) M := by
  subst hq
  obtain ⟨p, l, e, R, s, m, args, below, meth, c, cells, slots, Q, G, A⟩ := K
  intro H locs ls hP hS hl
  exact lv_istore_n F.1 F.2.1 hd rfl (fr_ll_has hl) hn rfl (fun ls' h => k H locs ls' hP hS (fr_st1 (v := .int x) ho h))
theorem fr_istore {n : Nat} {x : Int32} (F : fr_F Y K) (hd : decode Y.2.1 pc = .ok (.istore n, 2)) (hq : pc + 2 = q) (hn : n < Y.2.2.1) (ho : fr_ok L n = true) (k : fr_V Y K q (fr_set L n (.int x)) (st) M) : fr_V Y K pc L (.int x :: st) M := by
  subst hq
  obtain ⟨p, l, e, R, s, m, args, below, meth, c, cells, slots, Q, G, A⟩ := K
  intro H locs ls hP hS hl
  exact lv_istore F.1 F.2.1 hd (fr_ll_has hl) hn rfl (fun ls' h => k H locs ls' hP hS (fr_st1 (v := .int x) ho h))
theorem fr_lload_n {n : Fin 4} {x : Int64} (F : fr_F Y K) (hd : decode Y.2.1 pc = .ok (.lload_n n, 1)) (hq : pc + 1 = q) (hg : fr_get L n.val = some (.long x)) (k : fr_V Y K q L (.long x :: st) M) : fr_V Y K pc L (st) M := by
  subst hq
  obtain ⟨p, l, e, R, s, m, args, below, meth, c, cells, slots, Q, G, A⟩ := K
  intro H locs ls hP hS hl
  exact lv_lload_n F.1 F.2.1 hd rfl (fr_at hl hg) (k H locs ls hP hS hl)
theorem fr_lload {n : Nat} {x : Int64} (F : fr_F Y K) (hd : decode Y.2.1 pc = .ok (.lload n, 2)) (hq : pc + 2 = q) (hg : fr_get L n = some (.long x)) (k : fr_V Y K q L (.long x :: st) M) : fr_V Y K pc L (st) M := by
  subst hq
  obtain ⟨p, l, e, R, s, m, args, below, meth, c, cells, slots, Q, G, A⟩ := K
  intro H locs ls hP hS hl
  exact lv_lload F.1 F.2.1 hd (fr_at hl hg) (k H locs ls hP hS hl)
theorem fr_lstore_n {n : Fin 4} {x : Int64} (F : fr_F Y K) (hd : decode Y.2.1 pc = .ok (.lstore_n n, 1)) (hq : pc + 1 = q) (hn : n.val + 1 < Y.2.2.1) (ho : fr_ok L n.val = true) (k : fr_V Y K q (fr_set2 L n.val (.long x)) (st) M) : fr_V Y K pc L (.long x :: st) M := by
  subst hq
  obtain ⟨p, l, e, R, s, m, args, below, meth, c, cells, slots, Q, G, A⟩ := K
  intro H locs ls hP hS hl
  exact lv_lstore_n F.1 F.2.1 hd rfl (fr_ll_has hl) hn rfl (fun ls' h => k H locs ls' hP hS (fr_st2 (v := .long x) ho h))
theorem fr_lstore {n : Nat} {x : Int64} (F : fr_F Y K) (hd : decode Y.2.1 pc = .ok (.lstore n, 2)) (hq : pc + 2 = q) (hn : n + 1 < Y.2.2.1) (ho : fr_ok L n = true) (k : fr_V Y K q (fr_set2 L n (.long x)) (st) M) : fr_V Y K pc L (.long x :: st) M := by
  subst hq
  obtain ⟨p, l, e, R, s, m, args, below, meth, c, cells, slots, Q, G, A⟩ := K
  intro H locs ls hP hS hl
  exact lv_lstore F.1 F.2.1 hd (fr_ll_has hl) hn rfl (fun ls' h => k H locs ls' hP hS (fr_st2 (v := .long x) ho h))
theorem fr_aload_n {n : Fin 4} {x : Nat} (F : fr_F Y K) (hd : decode Y.2.1 pc = .ok (.aload_n n, 1)) (hq : pc + 1 = q) (hg : fr_get L n.val = some (.ref x)) (k : fr_V Y K q L (.ref x :: st) M) : fr_V Y K pc L (st) M := by
  subst hq
  obtain ⟨p, l, e, R, s, m, args, below, meth, c, cells, slots, Q, G, A⟩ := K
  intro H locs ls hP hS hl
  exact lv_aload_n F.1 F.2.1 hd rfl (fr_at hl hg) (k H locs ls hP hS hl)
theorem fr_aload {n : Nat} {x : Nat} (F : fr_F Y K) (hd : decode Y.2.1 pc = .ok (.aload n, 2)) (hq : pc + 2 = q) (hg : fr_get L n = some (.ref x)) (k : fr_V Y K q L (.ref x :: st) M) : fr_V Y K pc L (st) M := by
  subst hq
  obtain ⟨p, l, e, R, s, m, args, below, meth, c, cells, slots, Q, G, A⟩ := K
  intro H locs ls hP hS hl
  exact lv_aload F.1 F.2.1 hd (fr_at hl hg) (k H locs ls hP hS hl)
theorem fr_astore_n {n : Fin 4} {x : Nat} (F : fr_F Y K) (hd : decode Y.2.1 pc = .ok (.astore_n n, 1)) (hq : pc + 1 = q) (hn : n.val < Y.2.2.1) (ho : fr_ok L n.val = true) (k : fr_V Y K q (fr_set L n.val (.ref x)) (st) M) : fr_V Y K pc L (.ref x :: st) M := by
  subst hq
  obtain ⟨p, l, e, R, s, m, args, below, meth, c, cells, slots, Q, G, A⟩ := K
  intro H locs ls hP hS hl
  exact lv_astore_n F.1 F.2.1 hd rfl (fr_ll_has hl) hn rfl (fun ls' h => k H locs ls' hP hS (fr_st1 (v := .ref x) ho h))
theorem fr_astore {n : Nat} {x : Nat} (F : fr_F Y K) (hd : decode Y.2.1 pc = .ok (.astore n, 2)) (hq : pc + 2 = q) (hn : n < Y.2.2.1) (ho : fr_ok L n = true) (k : fr_V Y K q (fr_set L n (.ref x)) (st) M) : fr_V Y K pc L (.ref x :: st) M := by
  subst hq
  obtain ⟨p, l, e, R, s, m, args, below, meth, c, cells, slots, Q, G, A⟩ := K
  intro H locs ls hP hS hl
  exact lv_astore F.1 F.2.1 hd (fr_ll_has hl) hn rfl (fun ls' h => k H locs ls' hP hS (fr_st1 (v := .ref x) ho h))
theorem fr_ll_idx {G : fr_G} {i : Nat} {v : Value} (hg : fr_get L i = some v) : ∃ k : Nat, (fr_ll G L)[k]? = some (i, fr_v G v) := List.getElem?_of_mem (fr_ll_mem hg)
theorem fr_iinc {n : Nat} {d : Int} {x v : Int32} (F : fr_F Y K) (hd : decode Y.2.1 pc = .ok (.iinc n d, 3)) (hq : pc + 3 = q) (hg : fr_get L n = some (.int x)) (hv : x + Int32.ofInt d = v) (hn : n < Y.2.2.1) (ho : fr_ok L n = true) (k : fr_V Y K q (fr_set L n (.int v)) st M) : fr_V Y K pc L st M := by
  subst hq
  obtain ⟨p, l, e, R, s, m, args, below, meth, c, cells, slots, Q, G, A⟩ := K
  intro H locs ls hP hS hl
  obtain ⟨j, hj⟩ := fr_ll_idx (G := G) hg
  exact lv_iinc F.1 F.2.1 hd (fr_ll_has hl) hj hv hn rfl (fun ls' h => k H locs ls' hP hS (fr_st1 (v := .int v) ho h))
theorem fr_iadd {x y : Int32} (F : fr_F Y K) (hd : decode Y.2.1 pc = .ok (.iadd, 1)) (hq : pc + 1 = q) (k : fr_V Y K q L (.int (x + y) :: st) M) : fr_V Y K pc L (.int y :: .int x :: st) M := by
  subst hq
  obtain ⟨p, l, e, R, s, m, args, below, meth, c, cells, slots, Q, G, A⟩ := K
  intro H locs ls hP hS hl
  exact lv_iadd F.1 F.2.1 hd (k H locs ls hP hS hl)
theorem fr_isub {x y : Int32} (F : fr_F Y K) (hd : decode Y.2.1 pc = .ok (.isub, 1)) (hq : pc + 1 = q) (k : fr_V Y K q L (.int (x - y) :: st) M) : fr_V Y K pc L (.int y :: .int x :: st) M := by
  subst hq
  obtain ⟨p, l, e, R, s, m, args, below, meth, c, cells, slots, Q, G, A⟩ := K
  intro H locs ls hP hS hl
  exact lv_isub F.1 F.2.1 hd (k H locs ls hP hS hl)
theorem fr_imul {x y : Int32} (F : fr_F Y K) (hd : decode Y.2.1 pc = .ok (.imul, 1)) (hq : pc + 1 = q) (k : fr_V Y K q L (.int (x * y) :: st) M) : fr_V Y K pc L (.int y :: .int x :: st) M := by
  subst hq
  obtain ⟨p, l, e, R, s, m, args, below, meth, c, cells, slots, Q, G, A⟩ := K
  intro H locs ls hP hS hl
  exact lv_imul F.1 F.2.1 hd (k H locs ls hP hS hl)
theorem fr_iand {x y : Int32} (F : fr_F Y K) (hd : decode Y.2.1 pc = .ok (.iand, 1)) (hq : pc + 1 = q) (k : fr_V Y K q L (.int (x &&& y) :: st) M) : fr_V Y K pc L (.int y :: .int x :: st) M := by
  subst hq
  obtain ⟨p, l, e, R, s, m, args, below, meth, c, cells, slots, Q, G, A⟩ := K
  intro H locs ls hP hS hl
  exact lv_iand F.1 F.2.1 hd (k H locs ls hP hS hl)
theorem fr_ior {x y : Int32} (F : fr_F Y K) (hd : decode Y.2.1 pc = .ok (.ior, 1)) (hq : pc + 1 = q) (k : fr_V Y K q L (.int (x ||| y) :: st) M) : fr_V Y K pc L (.int y :: .int x :: st) M := by
  subst hq
  obtain ⟨p, l, e, R, s, m, args, below, meth, c, cells, slots, Q, G, A⟩ := K
  intro H locs ls hP hS hl
  exact lv_ior F.1 F.2.1 hd (k H locs ls hP hS hl)
theorem fr_ishl {x y : Int32} (F : fr_F Y K) (hd : decode Y.2.1 pc = .ok (.ishl, 1)) (hq : pc + 1 = q) (k : fr_V Y K q L (.int (x <<< (y &&& 31)) :: st) M) : fr_V Y K pc L (.int y :: .int x :: st) M := by
  subst hq
  obtain ⟨p, l, e, R, s, m, args, below, meth, c, cells, slots, Q, G, A⟩ := K
  intro H locs ls hP hS hl
  exact lv_ishl F.1 F.2.1 hd (k H locs ls hP hS hl)
theorem fr_ishr {x y : Int32} (F : fr_F Y K) (hd : decode Y.2.1 pc = .ok (.ishr, 1)) (hq : pc + 1 = q) (k : fr_V Y K q L (.int (x >>> (y &&& 31)) :: st) M) : fr_V Y K pc L (.int y :: .int x :: st) M := by
  subst hq
  obtain ⟨p, l, e, R, s, m, args, below, meth, c, cells, slots, Q, G, A⟩ := K
  intro H locs ls hP hS hl
  exact lv_ishr F.1 F.2.1 hd (k H locs ls hP hS hl)
theorem fr_idiv {x y : Int32} (F : fr_F Y K) (hd : decode Y.2.1 pc = .ok (.idiv, 1)) (hq : pc + 1 = q) (hne : ¬ y = 0) (k : fr_V Y K q L (.int (x / y) :: st) M) : fr_V Y K pc L (.int y :: .int x :: st) M := by
  subst hq
  obtain ⟨p, l, e, R, s, m, args, below, meth, c, cells, slots, Q, G, A⟩ := K
  intro H locs ls hP hS hl
  exact lv_idiv F.1 F.2.1 hd hne (k H locs ls hP hS hl)
theorem fr_irem {x y : Int32} (F : fr_F Y K) (hd : decode Y.2.1 pc = .ok (.irem, 1)) (hq : pc + 1 = q) (hne : ¬ y = 0) (k : fr_V Y K q L (.int (fr_rem x y) :: st) M) : fr_V Y K pc L (.int y :: .int x :: st) M := by
  subst hq
  obtain ⟨p, l, e, R, s, m, args, below, meth, c, cells, slots, Q, G, A⟩ := K
  intro H locs ls hP hS hl
  exact lv_irem F.1 F.2.1 hd hne (k H locs ls hP hS hl)
theorem fr_ladd {x y : Int64} (F : fr_F Y K) (hd : decode Y.2.1 pc = .ok (.ladd, 1)) (hq : pc + 1 = q) (k : fr_V Y K q L (.long (x + y) :: st) M) : fr_V Y K pc L (.long y :: .long x :: st) M := by
  subst hq
  obtain ⟨p, l, e, R, s, m, args, below, meth, c, cells, slots, Q, G, A⟩ := K
  intro H locs ls hP hS hl
  exact lv_ladd F.1 F.2.1 hd (k H locs ls hP hS hl)
theorem fr_lsub {x y : Int64} (F : fr_F Y K) (hd : decode Y.2.1 pc = .ok (.lsub, 1)) (hq : pc + 1 = q) (k : fr_V Y K q L (.long (x - y) :: st) M) : fr_V Y K pc L (.long y :: .long x :: st) M := by
  subst hq
  obtain ⟨p, l, e, R, s, m, args, below, meth, c, cells, slots, Q, G, A⟩ := K
  intro H locs ls hP hS hl
  exact lv_lsub F.1 F.2.1 hd (k H locs ls hP hS hl)
theorem fr_lmul {x y : Int64} (F : fr_F Y K) (hd : decode Y.2.1 pc = .ok (.lmul, 1)) (hq : pc + 1 = q) (k : fr_V Y K q L (.long (x * y) :: st) M) : fr_V Y K pc L (.long y :: .long x :: st) M := by
  subst hq
  obtain ⟨p, l, e, R, s, m, args, below, meth, c, cells, slots, Q, G, A⟩ := K
  intro H locs ls hP hS hl
  exact lv_lmul F.1 F.2.1 hd (k H locs ls hP hS hl)
theorem fr_i2l {x : Int32} (F : fr_F Y K) (hd : decode Y.2.1 pc = .ok (.i2l, 1)) (hq : pc + 1 = q) (k : fr_V Y K q L (.long x.toInt64 :: st) M) : fr_V Y K pc L (.int x :: st) M := by
  subst hq
  obtain ⟨p, l, e, R, s, m, args, below, meth, c, cells, slots, Q, G, A⟩ := K
  intro H locs ls hP hS hl
  exact lv_i2l F.1 F.2.1 hd rfl (k H locs ls hP hS hl)
theorem fr_lcmp {x y : Int64} (F : fr_F Y K) (hd : decode Y.2.1 pc = .ok (.lcmp, 1)) (hq : pc + 1 = q) (k : fr_V Y K q L (.int (lg_cmp x y) :: st) M) : fr_V Y K pc L (.long y :: .long x :: st) M := by
  subst hq
  obtain ⟨p, l, e, R, s, m, args, below, meth, c, cells, slots, Q, G, A⟩ := K
  intro H locs ls hP hS hl
  exact W.lcmp F.1 F.2.1 hd (k H locs ls hP hS hl)
theorem fr_dup {v : Value} (F : fr_F Y K) (hd : decode Y.2.1 pc = .ok (.dup, 1)) (hq : pc + 1 = q) (hc : v.category = 1) (k : fr_V Y K q L (v :: v :: st) M) : fr_V Y K pc L (v :: st) M := by
  subst hq
  obtain ⟨p, l, e, R, s, m, args, below, meth, c, cells, slots, Q, G, A⟩ := K
  intro H locs ls hP hS hl
  exact lv_dup F.1 F.2.1 hd (by rw [fr_v_cat]; exact hc) (k H locs ls hP hS hl)
theorem fr_dup2 {v w : Value} (F : fr_F Y K) (hd : decode Y.2.1 pc = .ok (.dup2, 1)) (hq : pc + 1 = q) (hc : v.category = 1) (hc2 : w.category = 1) (k : fr_V Y K q L (v :: w :: v :: w :: st) M) : fr_V Y K pc L (v :: w :: st) M := by
  subst hq
  obtain ⟨p, l, e, R, s, m, args, below, meth, c, cells, slots, Q, G, A⟩ := K
  intro H locs ls hP hS hl
  exact lv_dup2_11 F.1 F.2.1 hd (by rw [fr_v_cat]; exact hc) (by rw [fr_v_cat]; exact hc2) (k H locs ls hP hS hl)
theorem fr_if_eq {x : Int32} {off : Int} {tgt : Nat} (F : fr_F Y K) (hd : decode Y.2.1 pc = .ok (.ifCond .eq off, 3)) (ht : (pc : Int) + off = (tgt : Int)) (hq : pc + 3 = q) (kt : x = 0 → fr_V Y K tgt L st M) (kf : ¬ (x = 0) → fr_V Y K q L st M) : fr_V Y K pc L (.int x :: st) M := by
  subst hq
  obtain ⟨p, l, e, R, s, m, args, below, meth, c, cells, slots, Q, G, A⟩ := K
  intro H locs ls hP hS hl
  exact lv_if_eq F.1 F.2.1 hd ht (fun z => kt z H locs ls hP hS hl) (fun z => kf z H locs ls hP hS hl)
theorem fr_icmp_eq {x y : Int32} {off : Int} {tgt : Nat} (F : fr_F Y K) (hd : decode Y.2.1 pc = .ok (.if_icmp .eq off, 3)) (ht : (pc : Int) + off = (tgt : Int)) (hq : pc + 3 = q) (kt : x = y → fr_V Y K tgt L st M) (kf : ¬ (x = y) → fr_V Y K q L st M) : fr_V Y K pc L (.int y :: .int x :: st) M := by
  subst hq
  obtain ⟨p, l, e, R, s, m, args, below, meth, c, cells, slots, Q, G, A⟩ := K
  intro H locs ls hP hS hl
  exact lv_icmp_eq F.1 F.2.1 hd ht (fun z => kt z H locs ls hP hS hl) (fun z => kf z H locs ls hP hS hl)
theorem fr_if_ne {x : Int32} {off : Int} {tgt : Nat} (F : fr_F Y K) (hd : decode Y.2.1 pc = .ok (.ifCond .ne off, 3)) (ht : (pc : Int) + off = (tgt : Int)) (hq : pc + 3 = q) (kt : ¬ x = 0 → fr_V Y K tgt L st M) (kf : x = 0 → fr_V Y K q L st M) : fr_V Y K pc L (.int x :: st) M := by
  subst hq
  obtain ⟨p, l, e, R, s, m, args, below, meth, c, cells, slots, Q, G, A⟩ := K
  intro H locs ls hP hS hl
  exact lv_if_ne F.1 F.2.1 hd ht (fun z => kt z H locs ls hP hS hl) (fun z => kf z H locs ls hP hS hl)
theorem fr_icmp_ne {x y : Int32} {off : Int} {tgt : Nat} (F : fr_F Y K) (hd : decode Y.2.1 pc = .ok (.if_icmp .ne off, 3)) (ht : (pc : Int) + off = (tgt : Int)) (hq : pc + 3 = q) (kt : ¬ x = y → fr_V Y K tgt L st M) (kf : x = y → fr_V Y K q L st M) : fr_V Y K pc L (.int y :: .int x :: st) M := by
  subst hq
  obtain ⟨p, l, e, R, s, m, args, below, meth, c, cells, slots, Q, G, A⟩ := K
  intro H locs ls hP hS hl
  exact lv_icmp_ne F.1 F.2.1 hd ht (fun z => kt z H locs ls hP hS hl) (fun z => kf z H locs ls hP hS hl)
theorem fr_if_lt {x : Int32} {off : Int} {tgt : Nat} (F : fr_F Y K) (hd : decode Y.2.1 pc = .ok (.ifCond .lt off, 3)) (ht : (pc : Int) + off = (tgt : Int)) (hq : pc + 3 = q) (kt : x < 0 → fr_V Y K tgt L st M) (kf : ¬ (x < 0) → fr_V Y K q L st M) : fr_V Y K pc L (.int x :: st) M := by
  subst hq
  obtain ⟨p, l, e, R, s, m, args, below, meth, c, cells, slots, Q, G, A⟩ := K
  intro H locs ls hP hS hl
  exact lv_if_lt F.1 F.2.1 hd ht (fun z => kt z H locs ls hP hS hl) (fun z => kf z H locs ls hP hS hl)
theorem fr_icmp_lt {x y : Int32} {off : Int} {tgt : Nat} (F : fr_F Y K) (hd : decode Y.2.1 pc = .ok (.if_icmp .lt off, 3)) (ht : (pc : Int) + off = (tgt : Int)) (hq : pc + 3 = q) (kt : x < y → fr_V Y K tgt L st M) (kf : ¬ (x < y) → fr_V Y K q L st M) : fr_V Y K pc L (.int y :: .int x :: st) M := by
  subst hq
  obtain ⟨p, l, e, R, s, m, args, below, meth, c, cells, slots, Q, G, A⟩ := K
  intro H locs ls hP hS hl
  exact lv_icmp_lt F.1 F.2.1 hd ht (fun z => kt z H locs ls hP hS hl) (fun z => kf z H locs ls hP hS hl)
theorem fr_if_ge {x : Int32} {off : Int} {tgt : Nat} (F : fr_F Y K) (hd : decode Y.2.1 pc = .ok (.ifCond .ge off, 3)) (ht : (pc : Int) + off = (tgt : Int)) (hq : pc + 3 = q) (kt : 0 ≤ x → fr_V Y K tgt L st M) (kf : ¬ (0 ≤ x) → fr_V Y K q L st M) : fr_V Y K pc L (.int x :: st) M := by
  subst hq
  obtain ⟨p, l, e, R, s, m, args, below, meth, c, cells, slots, Q, G, A⟩ := K
  intro H locs ls hP hS hl
  exact lv_if_ge F.1 F.2.1 hd ht (fun z => kt z H locs ls hP hS hl) (fun z => kf z H locs ls hP hS hl)
theorem fr_icmp_ge {x y : Int32} {off : Int} {tgt : Nat} (F : fr_F Y K) (hd : decode Y.2.1 pc = .ok (.if_icmp .ge off, 3)) (ht : (pc : Int) + off = (tgt : Int)) (hq : pc + 3 = q) (kt : y ≤ x → fr_V Y K tgt L st M) (kf : ¬ (y ≤ x) → fr_V Y K q L st M) : fr_V Y K pc L (.int y :: .int x :: st) M := by
  subst hq
  obtain ⟨p, l, e, R, s, m, args, below, meth, c, cells, slots, Q, G, A⟩ := K
  intro H locs ls hP hS hl
  exact lv_icmp_ge F.1 F.2.1 hd ht (fun z => kt z H locs ls hP hS hl) (fun z => kf z H locs ls hP hS hl)
theorem fr_if_gt {x : Int32} {off : Int} {tgt : Nat} (F : fr_F Y K) (hd : decode Y.2.1 pc = .ok (.ifCond .gt off, 3)) (ht : (pc : Int) + off = (tgt : Int)) (hq : pc + 3 = q) (kt : 0 < x → fr_V Y K tgt L st M) (kf : ¬ (0 < x) → fr_V Y K q L st M) : fr_V Y K pc L (.int x :: st) M := by
  subst hq
  obtain ⟨p, l, e, R, s, m, args, below, meth, c, cells, slots, Q, G, A⟩ := K
  intro H locs ls hP hS hl
  exact lv_if_gt F.1 F.2.1 hd ht (fun z => kt z H locs ls hP hS hl) (fun z => kf z H locs ls hP hS hl)
theorem fr_icmp_gt {x y : Int32} {off : Int} {tgt : Nat} (F : fr_F Y K) (hd : decode Y.2.1 pc = .ok (.if_icmp .gt off, 3)) (ht : (pc : Int) + off = (tgt : Int)) (hq : pc + 3 = q) (kt : y < x → fr_V Y K tgt L st M) (kf : ¬ (y < x) → fr_V Y K q L st M) : fr_V Y K pc L (.int y :: .int x :: st) M := by
  subst hq
  obtain ⟨p, l, e, R, s, m, args, below, meth, c, cells, slots, Q, G, A⟩ := K
  intro H locs ls hP hS hl
  exact lv_icmp_gt F.1 F.2.1 hd ht (fun z => kt z H locs ls hP hS hl) (fun z => kf z H locs ls hP hS hl)
theorem fr_if_le {x : Int32} {off : Int} {tgt : Nat} (F : fr_F Y K) (hd : decode Y.2.1 pc = .ok (.ifCond .le off, 3)) (ht : (pc : Int) + off = (tgt : Int)) (hq : pc + 3 = q) (kt : x ≤ 0 → fr_V Y K tgt L st M) (kf : ¬ (x ≤ 0) → fr_V Y K q L st M) : fr_V Y K pc L (.int x :: st) M := by
  subst hq
  obtain ⟨p, l, e, R, s, m, args, below, meth, c, cells, slots, Q, G, A⟩ := K
  intro H locs ls hP hS hl
  exact lv_if_le F.1 F.2.1 hd ht (fun z => kt z H locs ls hP hS hl) (fun z => kf z H locs ls hP hS hl)
theorem fr_icmp_le {x y : Int32} {off : Int} {tgt : Nat} (F : fr_F Y K) (hd : decode Y.2.1 pc = .ok (.if_icmp .le off, 3)) (ht : (pc : Int) + off = (tgt : Int)) (hq : pc + 3 = q) (kt : x ≤ y → fr_V Y K tgt L st M) (kf : ¬ (x ≤ y) → fr_V Y K q L st M) : fr_V Y K pc L (.int y :: .int x :: st) M := by
  subst hq
  obtain ⟨p, l, e, R, s, m, args, below, meth, c, cells, slots, Q, G, A⟩ := K
  intro H locs ls hP hS hl
  exact lv_icmp_le F.1 F.2.1 hd ht (fun z => kt z H locs ls hP hS hl) (fun z => kf z H locs ls hP hS hl)
/-- a truth value asked -/
theorem fr_if_eqb {b : Bool} {off : Int} {tgt : Nat} (F : fr_F Y K) (hd : decode Y.2.1 pc = .ok (.ifCond .eq off, 3)) (ht : (pc : Int) + off = (tgt : Int)) (hq : pc + 3 = q) (kt : ¬ b = true → fr_V Y K tgt L st M) (kf : b = true → fr_V Y K q L st M) : fr_V Y K pc L (.int (fr_b b) :: st) M :=
  fr_if_eq F hd ht hq (fun h => kt (fun e => by rw [e] at h; exact absurd h (by decide))) (fun h => kf (by cases b with
    | true => rfl
    | false => exact absurd rfl h))
theorem fr_if_neb {b : Bool} {off : Int} {tgt : Nat} (F : fr_F Y K) (hd : decode Y.2.1 pc = .ok (.ifCond .ne off, 3)) (ht : (pc : Int) + off = (tgt : Int)) (hq : pc + 3 = q) (kt : b = true → fr_V Y K tgt L st M) (kf : ¬ b = true → fr_V Y K q L st M) : fr_V Y K pc L (.int (fr_b b) :: st) M :=
  fr_if_ne F hd ht hq (fun h => kt (by cases b with
    | true => rfl
    | false => exact absurd rfl h)) (fun h => kf (fun e => by rw [e] at h; exact absurd h (by decide)))
theorem fr_goto {off : Int} {tgt : Nat} (F : fr_F Y K) (hd : decode Y.2.1 pc = .ok (.goto off, 3)) (ht : (pc : Int) + off = (tgt : Int)) (k : fr_V Y K tgt L st M) : fr_V Y K pc L st M := by
  obtain ⟨p, l, e, R, s, m, args, below, meth, c, cells, slots, Q, G, A⟩ := K
  intro H locs ls hP hS hl
  exact lv_goto F.1 F.2.1 hd ht (k H locs ls hP hS hl)
theorem fr_tswI {x k : Int32} {dflt lo hi off : Int} {offs : Array Int} {len tgt : Nat} (F : fr_F Y K) (hx : x = k) (hd : decode Y.2.1 pc = .ok (.tableswitch dflt lo hi offs, len)) (hi1 : ¬ k.toInt < lo) (hi2 : ¬ hi < k.toInt) (ho : offs[(k.toInt - lo).toNat]? = some off) (ht : (pc : Int) + off = (tgt : Int)) (kk : fr_V Y K tgt L st M) : fr_V Y K pc L (.int x :: st) M := by
  subst hx
  obtain ⟨p, l, e, R, s, m, args, below, meth, c, cells, slots, Q, G, A⟩ := K
  intro H locs ls hP hS hl
  exact lv_tableIn F.1 F.2.1 hd hi1 hi2 ho ht (kk H locs ls hP hS hl)
theorem fr_tswO {x : Int32} {dflt lo hi : Int} {offs : Array Int} {len tgt : Nat} (F : fr_F Y K) (hd : decode Y.2.1 pc = .ok (.tableswitch dflt lo hi offs, len)) (h : x.toInt < lo ∨ hi < x.toInt) (ht : (pc : Int) + dflt = (tgt : Int)) (kk : fr_V Y K tgt L st M) : fr_V Y K pc L (.int x :: st) M := by
  obtain ⟨p, l, e, R, s, m, args, below, meth, c, cells, slots, Q, G, A⟩ := K
  intro H locs ls hP hS hl
  exact lv_tableOut F.1 F.2.1 hd h ht (kk H locs ls hP hS hl)
theorem fr_lsw {x : Int32} {dflt off : Int} {ps : Array (Int × Int)} {len tgt : Nat} (F : fr_F Y K) (hd : decode Y.2.1 pc = .ok (.lookupswitch dflt ps, len)) (hp : (ps.toList.zip (ps.toList.drop 1)).all (fun (a, next) => a.1 < next.1) = true) (ho : Op.lookupswitch.offset ps.toList dflt x.toInt = off) (ht : (pc : Int) + off = (tgt : Int)) (kk : fr_V Y K tgt L st M) : fr_V Y K pc L (.int x :: st) M := by
  obtain ⟨p, l, e, R, s, m, args, below, meth, c, cells, slots, Q, G, A⟩ := K
  intro H locs ls hP hS hl
  exact lv_lookup F.1 F.2.1 hd hp ho ht (kk H locs ls hP hS hl)
/-- a switch's number outside its table -/
theorem fr_out {x : Int32} {n : Nat} (hn : n < 1000) (h : ∀ k : Nat, k < n + 1 → ¬ x = Int32.ofNat k) : x.toInt < 0 ∨ (n : Int) < x.toInt := by
  by_cases h0 : x.toInt < 0
  · exact Or.inl h0
  · refine Or.inr (Int.not_le.mp fun h1 => ?_)
    obtain ⟨j, hj⟩ : ∃ j : Nat, x.toInt = (j : Int) := ⟨x.toInt.toNat, by omega⟩
    refine h j (by omega) (Int32.toInt_inj.mp ?_)
    rw [hj]
    exact (nI_toInt (n := j) (by omega)).symm
end FRR
end
section
/-! ROWS of fields, rows of numbers, tables; calls; a method's contract out of the judgement -/
/-- a field's link: class number, slot -/
def fr_fa (own : String) (idx ci k : Nat) : Prop := ∃ (C : String) (T : u_T) (N : Nat), fr_cl[ci]? = some (C, T, N) ∧ k < N ∧ Cond.fieldLink own idx C (T k).2.1 (T k).2.2.1 ∈ fr_tb ∧ (∀ w ∈ u_ws C T N, w ∈ fr_tb) ∧ (T k).1 = C
/-- a field that is written: of a type (int, boolean), not final; the class's fields have names of their own -/
def fr_fp (own : String) (idx ci k : Nat) (ty : FieldType) : Prop := ∃ (C : String) (T : u_T) (N : Nat) (ty0 : Nat → FieldType), fr_cl[ci]? = some (C, T, N) ∧ k < N ∧ Cond.fieldLink own idx C (T k).2.1 (T k).2.2.1 ∈ fr_tb ∧ (∀ w ∈ u_ws C T N, w ∈ fr_tb) ∧ (T k).1 = C ∧ (T k).2.2.2 = false ∧ (∀ k, k < N → parseFieldDescriptor (T k).2.2.1 = some (ty0 k)) ∧ (∀ a, a < N → ∀ b, b < N → a ≠ b → (T a).2.1 ≠ (T b).2.1) ∧ ty0 k = ty
def fr_ck {α : Type} (i : Int32) (n : Nat) (k : Option α) : Option α := if i < 0 ∨ n ≤ i.toNatClampNeg then none else k
theorem fr_ck_some {α : Type} {i : Int32} {n : Nat} {k : Option α} {o : α} (h : fr_ck i n k = some o) : vp_in i n ∧ k = some o := by
  unfold fr_ck at h
  split at h
  · cases h
  · next hn => exact ⟨hn, h⟩
theorem fr_ck_pos {α : Type} {i : Int32} {n : Nat} {k : Option α} (h : vp_in i n) : fr_ck i n k = k := if_neg h
def fr_nz {α : Type} (y : Int32) (k : Option α) : Option α := if y = 0 then none else k
theorem fr_nz_some {α : Type} {y : Int32} {k : Option α} {o : α} (h : fr_nz y k = some o) : ¬ y = 0 ∧ k = some o := by
  unfold fr_nz at h
  split at h
  · cases h
  · next hn => exact ⟨hn, h⟩
def fr_bd {α β : Type} (a : Option α) (k : α → Option β) : Option β := match a with
  | some x => k x
  | none => none
theorem fr_bd_some {α β : Type} {a : Option α} {k : α → Option β} {o : β} (h : fr_bd a k = some o) : ∃ x, a = some x ∧ k x = some o := by
  cases a with
  | none => cases h
  | some x => exact ⟨x, rfl, h⟩
theorem fr_bd_eq {α β : Type} {x : α} {k : α → Option β} : fr_bd (some x) k = k x := rfl
theorem fr_bool (b : Bool) : narrow .boolean (.int (fr_b b)) = .int (fr_b b) := by cases b <;> decide
theorem fr_boolf (b : Bool) : fits .boolean (.int (fr_b b)) = true := by cases b <;> decide
theorem fr_booln (b : Bool) : vp_nar .boolean (fr_b b) = fr_b b := by cases b <;> decide
theorem fr_sum (G : fr_G) (st : List Value) : ((st.map (fr_v G)).map fun v => v.category).sum = (st.map fun v => v.category).sum := by
  rw [List.map_map]
  congr 1
  exact List.map_congr_left (fun v _ => fr_v_cat G v)
section FRH
variable {Y : fr_Y} {K : fr_K} {pc q : Nat} {L : List (Option Value)} {st : List Value} {M M' : fr_M}
theorem fr_gfR {b idx ci k j : Nat} {fs : List (Option Nat)} (F : fr_F Y K) (hd : decode Y.2.1 pc = .ok (.getfield idx, 3)) (hq : pc + 3 = q) (hf : fr_fa Y.1.cls idx ci k) (hb : b < 67) (hs : fr_sh b = .inl (ci, fs)) (ho : fs[k]? = some (some j)) (kk : fr_V Y K q L (.ref j :: st) M) : fr_V Y K pc L (.ref b :: st) M := by
  subst hq
  obtain ⟨p, l, e, R, s, m, args, below, meth, c, cells, slots, Q, G, A⟩ := K
  obtain ⟨C, T, N, hc, hk, hlk, hin, hT⟩ := hf
  intro H locs ls hP hS hl
  refine va_get (v := .ref (fr_ad G j)) F.1 F.2.1 F.2.2.2.2.1 hin F.2.2.2.1 F.2.2.2.2.2.2.2.1 hP b (by rw [fr_ws_at hb, hs]; rfl) hc k hk (F.2.2.2.2.1 _ hlk) (fun x h => by rw [← hT]; exact h) (fr_fs_at ho) hd (kk H locs ls hP hS hl)
theorem fr_gfI {b idx ci k : Nat} {x : Int32} {fs : List (Option Nat)} (F : fr_F Y K) (hd : decode Y.2.1 pc = .ok (.getfield idx, 3)) (hq : pc + 3 = q) (hf : fr_fa Y.1.cls idx ci k) (hb : b < 67) (hs : fr_sh b = .inl (ci, fs)) (ho : fs[k]? = some none) (hx : fr_ct M b k = x) (kk : fr_V Y K q L (.int x :: st) M) : fr_V Y K pc L (.ref b :: st) M := by
  subst hq; subst hx
  obtain ⟨p, l, e, R, s, m, args, below, meth, c, cells, slots, Q, G, A⟩ := K
  obtain ⟨C, T, N, hc, hk, hlk, hin, hT⟩ := hf
  intro H locs ls hP hS hl
  refine va_get (v := .int (fr_ct M b k)) F.1 F.2.1 F.2.2.2.2.1 hin F.2.2.2.1 F.2.2.2.2.2.2.2.1 hP b (by rw [fr_ws_at hb, hs]; rfl) hc k hk (F.2.2.2.2.1 _ hlk) (fun x h => by rw [← hT]; exact h) (fr_fs_at ho) hd (kk H locs ls hP hS hl)
theorem fr_pf {b idx ci k : Nat} {x : Int32} {ty : FieldType} {fs : List (Option Nat)} (F : fr_F Y K) (hd : decode Y.2.1 pc = .ok (.putfield idx, 3)) (hq : pc + 3 = q) (hf : fr_fp Y.1.cls idx ci k ty) (hn : narrow ty (.int x) = .int x) (hft : fits ty (.int x) = true) (hb : b < 67) (hs : fr_sh b = .inl (ci, fs)) (ho : fs[k]? = some none) (hM : fr_wr M b (upd (fr_ct M b) k x) = M') (kk : fr_V Y K q L st M') : fr_V Y K pc L (.int x :: .ref b :: st) M := by
  subst hq; subst hM
  obtain ⟨p, l, e, R, s, m, args, below, meth, c, cells, slots, Q, G, A⟩ := K
  obtain ⟨C, T, N, ty0, hc, hk, hlk, hin, hT, hfin, hty, hnm, ht⟩ := hf
  intro H locs ls hP hS hl
  have hws : (fr_ws G M).set b (fr_ad G b, .inr (ci, (fr_fs G fs (fr_ct M b)).set k (.int x))) = fr_ws G (fr_wr M b (upd (fr_ct M b) k x)) := by
    refine fr_ws_set hb ?_ (fun j hj => fr_ct_wr_ne hj)
    rw [fr_ct_wr, hs, fr_fs_set ho]
    rfl
  refine va_put F.1 F.2.1 F.2.2.2.2.1 hin ty0 hty hnm F.2.2.2.1 F.2.2.2.2.2.2.2.1 hP (F.2.2.2.2.2.2.2.2.1 M) hS b (by rw [fr_ws_at hb, hs]; rfl) hc k hk (F.2.2.2.2.1 _ hlk) (fun x h => by rw [← hT]; exact h) hfin (by rw [hty k hk, ht]) hn hft (by rw [fr_fs_len]; exact (List.getElem?_eq_some_iff.mp ho).1) hd (fun H1 locs1 hP1 _ hS1 => ?_)
  have hP1 : va_P (fr_gD G) fr_cl ((fr_ws G M).set b (fr_ad G b, .inr (ci, (fr_fs G fs (fr_ct M b)).set k (.int x)))) H1 := hP1
  rw [hws] at hP1
  exact kk H1 locs1 ls hP1 hS1 hl
theorem fr_pfI {b idx ci k : Nat} {x : Int32} {fs : List (Option Nat)} (F : fr_F Y K) (hd : decode Y.2.1 pc = .ok (.putfield idx, 3)) (hq : pc + 3 = q) (hf : fr_fp Y.1.cls idx ci k .int) (hb : b < 67) (hs : fr_sh b = .inl (ci, fs)) (ho : fs[k]? = some none) (hM : fr_wr M b (upd (fr_ct M b) k x) = M') (kk : fr_V Y K q L st M') : fr_V Y K pc L (.int x :: .ref b :: st) M :=
  fr_pf F hd hq hf rfl rfl hb hs ho hM kk
theorem fr_pfZ {b idx ci k : Nat} {x : Bool} {fs : List (Option Nat)} (F : fr_F Y K) (hd : decode Y.2.1 pc = .ok (.putfield idx, 3)) (hq : pc + 3 = q) (hf : fr_fp Y.1.cls idx ci k .boolean) (hb : b < 67) (hs : fr_sh b = .inl (ci, fs)) (ho : fs[k]? = some none) (hM : fr_wr M b (upd (fr_ct M b) k (fr_b x)) = M') (kk : fr_V Y K q L st M') : fr_V Y K pc L (.int (fr_b x) :: .ref b :: st) M :=
  fr_pf F hd hq hf (fr_bool x) (fr_boolf x) hb hs ho hM kk
theorem fr_ial {b n : Nat} {i x : Int32} (F : fr_F Y K) (hd : decode Y.2.1 pc = .ok (.iaload, 1)) (hq : pc + 1 = q) (hin : vp_in i n) (hb : b < 67) (hs : fr_sh b = .inr (0, n)) (hx : fr_ct M b i.toNatClampNeg = x) (kk : fr_V Y K q L (.int x :: st) M) : fr_V Y K pc L (.int i :: .ref b :: st) M := by
  subst hq; subst hx
  obtain ⟨p, l, e, R, s, m, args, below, meth, c, cells, slots, Q, G, A⟩ := K
  intro H locs ls hP hS hl
  exact va_iald (cA := fr_gI G) (n := n) (f := fr_ct M b) F.1 F.2.1 F.2.2.2.2.2.2.2.1 hP b 0 (by rw [fr_ws_at hb, hs]; rfl) rfl hin hd (kk H locs ls hP hS hl)
theorem fr_zal {b n : Nat} {i x : Int32} (F : fr_F Y K) (hd : decode Y.2.1 pc = .ok (.baload, 1)) (hq : pc + 1 = q) (hin : vp_in i n) (hb : b < 67) (hs : fr_sh b = .inr (1, n)) (hx : fr_ct M b i.toNatClampNeg = x) (kk : fr_V Y K q L (.int x :: st) M) : fr_V Y K pc L (.int i :: .ref b :: st) M := by
  subst hq; subst hx
  obtain ⟨p, l, e, R, s, m, args, below, meth, c, cells, slots, Q, G, A⟩ := K
  intro H locs ls hP hS hl
  exact va_zald (cA := fr_gZ G) (n := n) (f := fr_ct M b) F.1 F.2.1 F.2.2.2.2.2.2.2.1 hP b 1 (by rw [fr_ws_at hb, hs]; rfl) rfl hin hd (kk H locs ls hP hS hl)
theorem fr_ias {b n : Nat} {i x : Int32} (F : fr_F Y K) (hd : decode Y.2.1 pc = .ok (.iastore, 1)) (hq : pc + 1 = q) (hin : vp_in i n) (hb : b < 67) (hs : fr_sh b = .inr (0, n)) (hM : fr_wr M b (upd (fr_ct M b) i.toNatClampNeg x) = M') (kk : fr_V Y K q L st M') : fr_V Y K pc L (.int x :: .int i :: .ref b :: st) M := by
  subst hq; subst hM
  obtain ⟨p, l, e, R, s, m, args, below, meth, c, cells, slots, Q, G, A⟩ := K
  intro H locs ls hP hS hl
  refine va_iast (cA := fr_gI G) (n := n) (f := fr_ct M b) F.1 F.2.1 F.2.2.2.2.2.2.2.1 hP (F.2.2.2.2.2.2.2.2.1 M) hS b 0 (by rw [fr_ws_at hb, hs]; rfl) rfl hin hd (fun H1 locs1 hP1 _ hS1 => ?_)
  rw [fr_ws_set (M' := fr_wr M b (upd (fr_ct M b) i.toNatClampNeg x)) hb (by rw [fr_ct_wr, hs]; rfl) (fun j hj => fr_ct_wr_ne hj)] at hP1
  exact kk H1 locs1 ls hP1 hS1 hl
theorem fr_zas {b n : Nat} {i : Int32} {x : Bool} (F : fr_F Y K) (hd : decode Y.2.1 pc = .ok (.bastore, 1)) (hq : pc + 1 = q) (hin : vp_in i n) (hb : b < 67) (hs : fr_sh b = .inr (1, n)) (hM : fr_wr M b (upd (fr_ct M b) i.toNatClampNeg (fr_b x)) = M') (kk : fr_V Y K q L st M') : fr_V Y K pc L (.int (fr_b x) :: .int i :: .ref b :: st) M := by
  subst hq; subst hM
  obtain ⟨p, l, e, R, s, m, args, below, meth, c, cells, slots, Q, G, A⟩ := K
  intro H locs ls hP hS hl
  refine va_zast (cA := fr_gZ G) (n := n) (f := fr_ct M b) F.1 F.2.1 F.2.2.2.2.2.2.2.1 hP (F.2.2.2.2.2.2.2.2.1 M) hS b 1 (by rw [fr_ws_at hb, hs]; rfl) rfl hin hd (fun H1 locs1 hP1 _ hS1 => ?_)
  rw [fr_booln] at hP1
  rw [fr_ws_set (M' := fr_wr M b (upd (fr_ct M b) i.toNatClampNeg (fr_b x))) hb (by rw [fr_ct_wr, hs]; rfl) (fun j hj => fr_ct_wr_ne hj)] at hP1
  exact kk H1 locs1 ls hP1 hS1 hl
theorem fr_len {b kd n : Nat} {x : Int32} (F : fr_F Y K) (hd : decode Y.2.1 pc = .ok (.arraylength, 1)) (hq : pc + 1 = q) (hb : b < 67) (hs : fr_sh b = .inr (0, n)) (hx : Int32.ofNat n = x) (kk : fr_V Y K q L (.int x :: st) M) : fr_V Y K pc L (.ref b :: st) M := by
  subst hq
  obtain ⟨p, l, e, R, s, m, args, below, meth, c, cells, slots, Q, G, A⟩ := K
  intro H locs ls hP hS hl
  exact va_alen (cA := fr_gI G) (x := (n, .inl (fr_ct M b))) (ty := .int) F.1 F.2.1 F.2.2.2.2.2.2.2.1 hP b 0 (by rw [fr_ws_at hb, hs]; rfl) rfl hx hd (kk H locs ls hP hS hl)
/-- the row of the two images -/
theorem fr_aal {b n : Nat} {i : Int32} {j : Nat} (F : fr_F Y K) (hd : decode Y.2.1 pc = .ok (.aaload, 1)) (hq : pc + 1 = q) (hin : vp_in i n) (hb : b < 67) (hs : fr_sh b = .inr (2, n)) (hj : 18 + 8 * i.toNatClampNeg = j) (kk : fr_V Y K q L (.ref j :: st) M) : fr_V Y K pc L (.int i :: .ref b :: st) M := by
  subst hq; subst hj
  obtain ⟨p, l, e, R, s, m, args, below, meth, c, cells, slots, Q, G, A⟩ := K
  intro H locs ls hP hS hl
  exact va_aldq (cA := fr_gB G) (C := RX1) (n := n) (f := fun j => some (fr_ad G (18 + 8 * j))) F.1 F.2.1 F.2.2.2.2.2.2.2.1 hP b 2 (by rw [fr_ws_at hb, hs]; rfl) rfl hin hd (kk H locs ls hP hS hl)
/-- the class's tables: k 0, 1, 2 -/
def fr_tn (k : Nat) : String := match k with
  | 0 => "LEAST_LAW"
  | 1 => "GREATEST_LAW"
  | _ => "SERVICES_BY_RANK"
def fr_tv (k : Nat) : Nat → Int32 := match k with
  | 0 => fr_tb1
  | 1 => fr_tb2
  | _ => fr_tb3
theorem fr_St.z {G : fr_G} {A : Nat → Prop} {U : State} {H : Heap} (h : fr_St G A U H) {k : Nat} (hk : k < 3) : va_Z RX7 (fr_tn k) "[I" (.ref (fr_ad G (67 + k))) A U H := by
  match k, hk with
  | 0, _ => exact h.1
  | 1, _ => exact h.2.1
  | 2, _ => exact h.2.2.1
theorem fr_St.t {G : fr_G} {A : Nat → Prop} {U : State} {H : Heap} (h : fr_St G A U H) {k : Nat} (hk : k < 3) : va_T .int (fr_ad G (67 + k)) 6 (fun j => .int (fr_tv k j)) A U H := by
  match k, hk with
  | 0, _ => exact h.2.2.2.1
  | 1, _ => exact h.2.2.2.2.1
  | 2, _ => exact h.2.2.2.2.2
theorem fr_gs {idx k j : Nat} (F : fr_F Y K) (hd : decode Y.2.1 pc = .ok (.getstatic idx, 3)) (hq : pc + 3 = q) (hk : k < 3) (hw : Cond.fieldLink Y.1.cls idx RX7 (fr_tn k) "[I" ∈ fr_tb) (hj : 67 + k = j) (kk : fr_V Y K q L (.ref j :: st) M) : fr_V Y K pc L st M := by
  subst hq; subst hj
  obtain ⟨p, l, e, R, s, m, args, below, meth, c, cells, slots, Q, G, A⟩ := K
  intro H locs ls hP hS hl
  exact va_gets F.1 F.2.1 (F.2.2.2.2.2.2.2.2.2.1.z hk) hS F.2.2.2.1 (F.2.2.2.2.1 _ hw) (fun x h => h) hd (kk H locs ls hP hS hl)
theorem fr_gsN {idx k j : Nat} (F : fr_F Y K) (hd : decode Y.2.1 pc = .ok (.getstatic idx, 3)) (hq : pc + 3 = q) (hk : k < 3) (hw : (Y.1.cls, idx, fr_tn k) ∈ fr_nf) (hj : 67 + k = j) (kk : fr_V Y K q L (.ref j :: st) M) : fr_V Y K pc L st M := by
  subst hq; subst hj
  obtain ⟨p, l, e, R, s, m, args, below, meth, c, cells, slots, Q, G, A⟩ := K
  intro H locs ls hP hS hl
  exact va_getsN (host := RX7) F.1 F.2.1 (F.2.2.2.2.2.2.2.2.2.1.z hk) hS F.2.2.2.1 (va_Nw.use rfl (F.2.2.2.2.2.2.2.2.2.2.2 _ hw)) (fun x h => h) hd (kk H locs ls hP hS hl)
theorem fr_tal {k j : Nat} {i x : Int32} (F : fr_F Y K) (hd : decode Y.2.1 pc = .ok (.iaload, 1)) (hq : pc + 1 = q) (hin : vp_in i 6) (hk : k < 3) (hj : 67 + k = j) (hx : fr_tv k i.toNatClampNeg = x) (kk : fr_V Y K q L (.int x :: st) M) : fr_V Y K pc L (.int i :: .ref j :: st) M := by
  subst hq; subst hj; subst hx
  obtain ⟨p, l, e, R, s, m, args, below, meth, c, cells, slots, Q, G, A⟩ := K
  intro H locs ls hP hS hl
  exact va_ti F.1 F.2.1 (F.2.2.2.2.2.2.2.2.2.1.t hk) hS hin rfl hd (kk H locs ls hP hS hl)
theorem fr_tln {k j : Nat} (F : fr_F Y K) (hd : decode Y.2.1 pc = .ok (.arraylength, 1)) (hq : pc + 1 = q) (hk : k < 3) (hj : 67 + k = j) (kk : fr_V Y K q L (.int 6 :: st) M) : fr_V Y K pc L (.ref j :: st) M := by
  subst hq; subst hj
  obtain ⟨p, l, e, R, s, m, args, below, meth, c, cells, slots, Q, G, A⟩ := K
  intro H locs ls hP hS hl
  exact va_tlen F.1 F.2.1 (F.2.2.2.2.2.2.2.2.2.1.t hk) hS rfl hd (kk H locs ls hP hS hl)
/-- Math.max, Math.min -/
def fr_mw (y : MethodName) (b : ByteArray) : Prop := Cond.static y ∈ fr_tb ∧ Cond.initialized "java/lang/Math" ∈ fr_tb ∧ Cond.code y b 2 (some .int) ∈ fr_tb
theorem fr_max {idx : Nat} {x y : Int32} (F : fr_F Y K) (hd : decode Y.2.1 pc = .ok (.invokestatic idx, 3)) (hq : pc + 3 = q) (hw : Cond.methodLink Y.1.cls idx Lib.Math.max.name ∈ fr_tb) (hm : fr_mw Lib.Math.max.name Lib.Math.max.code) (hr : 1 ≤ Y.2.2.2.2.frames ∧ (st.map fun v => v.category).sum + 13 ≤ Y.2.2.2.2.locals) (kk : fr_V Y K q L (.int (if x < y then y else x) :: st) M) : fr_V Y K pc L (.int y :: .int x :: st) M := by
  subst hq
  obtain ⟨p, l, e, R, s, m, args, below, meth, c, cells, slots, Q, G, A⟩ := K
  intro H locs ls hP hS hl
  have hR := F.2.2.2.2.2.1
  refine va_mmax F.1 F.2.1 (F.2.2.1.trans hl.1.symm) F.2.2.2.1 (F.2.2.2.2.1 _ hw) (F.2.2.2.2.1 _ hm.1) (F.2.2.2.2.1 _ hm.2.1) (F.2.2.2.2.1 _ hm.2.2) (by rw [hR]; exact hr.1) (Nat.le_trans (Nat.le_of_eq (congrArg (fun z => z + 13) (fr_sum G st))) (by rw [hR]; exact hr.2)) F.2.2.2.2.2.2.1.1 F.2.2.2.2.2.2.1.2 hd (kk H locs ls hP hS hl)
theorem fr_min {idx : Nat} {x y : Int32} (F : fr_F Y K) (hd : decode Y.2.1 pc = .ok (.invokestatic idx, 3)) (hq : pc + 3 = q) (hw : Cond.methodLink Y.1.cls idx Lib.Math.min.name ∈ fr_tb) (hm : fr_mw Lib.Math.min.name Lib.Math.min.code) (hr : 1 ≤ Y.2.2.2.2.frames ∧ (st.map fun v => v.category).sum + 13 ≤ Y.2.2.2.2.locals) (kk : fr_V Y K q L (.int (if y < x then y else x) :: st) M) : fr_V Y K pc L (.int y :: .int x :: st) M := by
  subst hq
  obtain ⟨p, l, e, R, s, m, args, below, meth, c, cells, slots, Q, G, A⟩ := K
  intro H locs ls hP hS hl
  have hR := F.2.2.2.2.2.1
  refine va_mmin F.1 F.2.1 (F.2.2.1.trans hl.1.symm) F.2.2.2.1 (F.2.2.2.2.1 _ hw) (F.2.2.2.2.1 _ hm.1) (F.2.2.2.2.1 _ hm.2.1) (F.2.2.2.2.1 _ hm.2.2) (by rw [hR]; exact hr.1) (Nat.le_trans (Nat.le_of_eq (congrArg (fun z => z + 13) (fr_sum G st))) (by rw [hR]; exact hr.2)) F.2.2.2.2.2.2.1.1 F.2.2.2.2.2.2.1.2 hd (kk H locs ls hP hS hl)
/-- System.arraycopy between two rows of numbers -/
def fr_aw : Prop := Cond.native arraycopyName ∈ fr_tb ∧ Cond.static arraycopyName ∈ fr_tb ∧ Cond.initialized "java/lang/System" ∈ fr_tb
theorem fr_acp {idx b0 b1 n0 n1 : Nat} {sp dp n : Int32} (F : fr_F Y K) (hd : decode Y.2.1 pc = .ok (.invokestatic idx, 3)) (hq : pc + 3 = q) (hw : Cond.methodLink Y.1.cls idx arraycopyName ∈ fr_tb) (hm : fr_aw) (hb0 : b0 < 67) (hs0 : fr_sh b0 = .inr (0, n0)) (hb1 : b1 < 67) (hs1 : fr_sh b1 = .inr (0, n1)) (h1 : ¬ sp < 0) (h2 : ¬ dp < 0) (h3 : ¬ n < 0) (h4 : sp.toNatClampNeg + n.toNatClampNeg ≤ n0) (h5 : dp.toNatClampNeg + n.toNatClampNeg ≤ n1)
    (hr : 1 ≤ Y.2.2.2.2.frames ∧ (st.map fun v => v.category).sum + (nativeFrameWords "java/lang/System" "arraycopy" 5 + 11) ≤ Y.2.2.2.2.locals) (hM : fr_wr M b1 (va_cpy (fr_ct M b0) (fr_ct M b1) sp.toNatClampNeg dp.toNatClampNeg n.toNatClampNeg) = M') (kk : fr_V Y K q L st M') : fr_V Y K pc L (.int n :: .int dp :: .ref b1 :: .int sp :: .ref b0 :: st) M := by
  subst hq; subst hM
  obtain ⟨p, l, e, R, s, m, args, below, meth, c, cells, slots, Q, G, A⟩ := K
  intro H locs ls hP hS hl
  have hR := F.2.2.2.2.2.1
  refine va_copyi (c0 := fr_gI G) (c1 := fr_gI G) (n0 := n0) (n1 := n1) (f := fr_ct M b0) (g := fr_ct M b1) (ty := .int) F.1 F.2.1 (F.2.2.1.trans hl.1.symm) F.2.2.2.1 (F.2.2.2.2.1 _ hw) (F.2.2.2.2.1 _ hm.1) (F.2.2.2.2.1 _ hm.2.1) (F.2.2.2.2.1 _ hm.2.2) F.2.2.2.2.2.2.2.1 hP (F.2.2.2.2.2.2.2.2.1 M) hS b0 b1 0 0 (by rw [fr_ws_at hb0, hs0]; rfl) (by rw [fr_ws_at hb1, hs1]; rfl) rfl rfl rfl h1 h2 h3 h4 h5 (fun _ _ => rfl) (by rw [hR]; exact hr.1) (Nat.le_trans (Nat.le_of_eq (congrArg (fun z => z + (nativeFrameWords "java/lang/System" "arraycopy" 5 + 11)) (fr_sum G st))) (by rw [hR]; exact hr.2)) hd (fun H1 locs1 hP1 _ hS1 => ?_)
  rw [fr_ws_set (M' := fr_wr M b1 (va_cpy (fr_ct M b0) (fr_ct M b1) sp.toNatClampNeg dp.toNatClampNeg n.toNatClampNeg)) hb1 (by rw [fr_ct_wr, hs1]; rfl) (fun j hj => fr_ct_wr_ne hj)] at hP1
  exact kk H1 locs1 ls hP1 hS1 hl
end FRH
end
section
/-! CALLS, and a method's contract -/
/-- the locals at a method's entry -/
def fr_ent : List Value → List (Option Value)
  | [] => []
  | v :: t => match v with
    | .long x => some (.long x) :: none :: fr_ent t
    | .double x => some (.double x) :: none :: fr_ent t
    | w => some w :: fr_ent t
theorem fr_ent_at (G : fr_G) : ∀ (vs : List Value) (i j : Nat) (w : Value) (pad : List (Option Value)), (∀ o ∈ pad, o = none) → fr_get (fr_ent vs ++ pad) j = some w → (i + j, fr_v G w) ∈ lv_args i (vs.map (fr_v G))
  | [], i, j, w, pad, hp, h => by
    have h1 := fr_get_eq _ _ _ h
    have h2 := hp _ (List.mem_of_getElem? h1)
    cases h2
  | v :: t, i, j, w, pad, hp, h => by
    have key1 : v.category = 1 → fr_ent (v :: t) = some v :: fr_ent t := by
      intro hc
      cases v <;> first | rfl | cases hc
    have key2 : v.category = 2 → fr_ent (v :: t) = some v :: none :: fr_ent t := by
      intro hc
      cases v <;> first | rfl | cases hc
    show (i + j, fr_v G w) ∈ (i, fr_v G v) :: lv_args (if (fr_v G v).category = 2 then i + 2 else i + 1) (t.map (fr_v G))
    rw [fr_v_cat]
    rcases lv_cat v with hc | hc
    · rw [key1 hc] at h
      rw [if_neg (by omega)]
      cases j with
      | zero =>
        have : v = w := Option.some.inj h
        subst this
        exact List.mem_cons_self
      | succ j =>
        have := fr_ent_at G t (i + 1) j w pad hp h
        rw [show i + (j + 1) = i + 1 + j by omega]
        exact List.mem_cons_of_mem _ this
    · rw [key2 hc] at h
      rw [if_pos hc]
      match j, h with
      | 0, h =>
        have : v = w := Option.some.inj h
        subst this
        exact List.mem_cons_self
      | 1, h => cases h
      | j + 2, h =>
        have := fr_ent_at G t (i + 2) j w pad hp h
        rw [show i + (j + 2) = i + 2 + j by omega]
        exact List.mem_cons_of_mem _ this
/-- what stands at a method's entry -/
def fr_U (G : fr_G) (M : fr_M) (U : State) : Prop := va_P (fr_gD G) fr_cl (fr_ws G M) U.heap ∧ va_K (fr_gD G) fr_cl (fr_ty G) U ∧ va_D (fun _ => True) (fr_ws G M) ∧ fr_St G (fr_A G) U U.heap ∧ fr_Nw U
def fr_Pc (G : fr_G) (av : List Value) (M : fr_M) : Array Value → State → Prop := fun v U => v = (av.map (fr_v G)).toArray ∧ fr_U G M U
def fr_Qc (G : fr_G) (v : Option Value) (M : fr_M) : Array Value → State → Outcome → State → Prop := fun _ s oc t => oc = .returned (v.map (fr_v G)) ∧ va_P (fr_gD G) fr_cl (fr_ws G M) t.heap ∧ va_F (fr_A G) s t
abbrev fr_yw (Y : fr_Y) : List Cond := Cond.code Y.1 Y.2.1 Y.2.2.1 Y.2.2.2.1 :: fr_tb
/-- THE CONTRACT: with these arguments over this memory, the method answers this, and this is the memory then -/
def fr_Met (l : Launch) (G : fr_G) (Y : fr_Y) (av : List Value) (M : fr_M) (v : Option Value) (M' : fr_M) : Prop := Met l Y.1 (fr_yw Y) Y.2.2.2.2 (fr_Pc G av M) (fr_Qc G v M') 0 0 (fr_A G)
/-- a method's end: with this answer over this memory -/
def fr_R (Y : fr_Y) (K : fr_K) (v : Option Value) (M : fr_M) : Prop := match K with
  | (_, _, _, _, s, _, args, below, meth, _, cells, slots, Q, G, A) => Q = MQ below (fr_Qc G v M) args s cells slots A ∧ meth.locks = false ∧ meth.sig.returnType = Y.2.2.2.1 ∧ A = fr_A G
theorem fr_D {G : fr_G} {A B : Nat → Prop} {M M' : fr_M} (h : va_D A (fr_ws G M)) (hB : ∀ k, k < 67 → B (fr_ad G k)) : va_D B (fr_ws G M') := by
  have at' : ∀ (k : Nat) (q : Nat × va_E), (fr_ws G M')[k]? = some q → k < 67 ∧ q.1 = fr_ad G k := by
    intro k q hq
    have hk : k < 67 := by
      have := (List.getElem?_eq_some_iff.mp hq).1
      rwa [fr_ws_len] at this
    rw [fr_ws_at hk] at hq
    exact ⟨hk, by rw [← Option.some.inj hq]⟩
  refine ⟨fun i j x y hi hj hxy => ?_, fun k q hk => ?_⟩
  · obtain ⟨h1, h2⟩ := at' i x hi
    obtain ⟨h3, h4⟩ := at' j y hj
    exact h.1 i j _ _ (fr_ws_at h1) (fr_ws_at h3) (by rw [← h2, ← h4]; exact hxy)
  · obtain ⟨h1, h2⟩ := at' k q hk
    rw [h2]
    exact hB k h1
theorem fr_met {l : Launch} {G : fr_G} {Y : fr_Y} {av : List Value} {pad : List (Option Value)} {M : fr_M} {v : Option Value} {M' : fr_M} (hy : plainName Y.1.cls = true) (hn : (lg_sl (av.map (fr_v G))).length ≤ Y.2.2.1) (hp : ∀ o ∈ pad, o = none) (hr : Y.2.2.2.2.cells = 0 ∧ Y.2.2.2.2.slots = 0)
    (body : ∀ K : fr_K, fr_F Y K → fr_kG K = G → fr_kl K = l → fr_R Y K v M' → fr_V Y K 0 (fr_ent av ++ pad) [] M) : fr_Met l G Y av M v M' := by
  refine Met.ofW (cc := Y.2.1) (maxL := Y.2.2.1) (ret := Y.2.2.2.1) hy rfl ?_
  intro p e s m args below meth c s₁ B hml hv
  obtain ⟨rfl, hP, hK, hD, hSt, hNw⟩ := hv
  have hts := atoms_spec (ws := fr_yw Y) B.pre
  have hA : ∀ k, k < 67 → fr_A G (fr_ad G k) := fun k hk => ⟨k, hk, rfl⟩
  have F : fr_F Y (p, l, e, (headSpec (fr_yw Y) Y.2.2.2.2).room, s, m, (av.map (fr_v G)).toArray, below, meth, c, 0, 0, MQ below (fr_Qc G v M') (av.map (fr_v G)).toArray s 0 0 (fr_A G), G, fr_A G) :=
    ⟨B.exec, B.bytes, hml, findClass_of_methodNamed B.named, fun w hw => hts w (List.mem_cons_of_mem _ hw), rfl, ⟨Nat.zero_le _, Nat.zero_le _⟩, hK, fun _ => fr_D hD hA, hSt, hNw⟩
  have key := body _ F rfl rfl ⟨rfl, B.notSynchronized, B.returns, rfl⟩
  have hl := lv_entry (av.map (fr_v G)) (n := Y.2.2.1) hn
  rw [lg_entry_eq]
  refine key s.heap [] _ hP va_S.rf ⟨hl.1, hl.2.1, fun i w hi => ?_⟩
  have h1 := fr_ent_at G av 0 i w pad hp (fr_eq_get _ _ _ hi)
  rw [Nat.zero_add] at h1
  exact hl.2.2 _ h1
section FRC
variable {Y : fr_Y} {K : fr_K} {pc q : Nat} {L : List (Option Value)} {M M' : fr_M}
theorem fr_iret {x : Int32} (F : fr_F Y K) (E : fr_R Y K (some (.int x)) M) (hr : Y.2.2.2.1 = some .int) (hd : decode Y.2.1 pc = .ok (.ireturn, 1)) : fr_V Y K pc L [.int x] M := by
  obtain ⟨p, l, e, R, s, m, args, below, meth, c, cells, slots, Q, G, A⟩ := K
  obtain ⟨rfl, hlk, hrt, rfl⟩ := E
  intro H locs ls hP hS hl
  exact W.iret F.1 F.2.1 (hrt.trans hr) (fun t ht _ => ⟨rfl, by rw [ht]; exact hP, hS.F ht⟩) hS.2.2 hd hlk
theorem fr_zret {x : Bool} (F : fr_F Y K) (E : fr_R Y K (some (.int (fr_b x))) M) (hr : Y.2.2.2.1 = some .boolean) (hd : decode Y.2.1 pc = .ok (.ireturn, 1)) : fr_V Y K pc L [.int (fr_b x)] M := by
  obtain ⟨p, l, e, R, s, m, args, below, meth, c, cells, slots, Q, G, A⟩ := K
  obtain ⟨rfl, hlk, hrt, rfl⟩ := E
  intro H locs ls hP hS hl
  exact W.zret F.1 F.2.1 (hrt.trans hr) (fr_bool x) (fun t ht _ => ⟨rfl, by rw [ht]; exact hP, hS.F ht⟩) hS.2.2 hd hlk
theorem fr_vret (F : fr_F Y K) (E : fr_R Y K none M) (hr : Y.2.2.2.1 = none) (hd : decode Y.2.1 pc = .ok (.return_, 1)) : fr_V Y K pc L [] M := by
  obtain ⟨p, l, e, R, s, m, args, below, meth, c, cells, slots, Q, G, A⟩ := K
  obtain ⟨rfl, hlk, hrt, rfl⟩ := E
  intro H locs ls hP hS hl
  exact W.vret F.1 F.2.1 (hrt.trans hr) (fun t ht _ => ⟨rfl, by rw [ht]; exact hP, hS.F ht⟩) hS.2.2 hd hlk
/-- a method of an object; a static one: what the tables say, how many arguments -/
def fr_mV (Z : fr_Y) (n ci : Nat) : Prop := (∃ (T : u_T) (N : Nat), fr_cl[ci]? = some (Z.1.cls, T, N)) ∧ Cond.instanceMethod Z.1 ∈ fr_tb ∧ Cond.selects Z.1.cls Z.1 Z.1 ∈ fr_tb ∧ Cond.initialized Z.1.cls ∈ fr_tb ∧ Cond.code Z.1 Z.2.1 Z.2.2.1 Z.2.2.2.1 ∈ fr_tb ∧
  (Z.1.cls ≠ "java/lang/invoke/MethodHandle" ∧ Z.1.cls ≠ "java/lang/invoke/VarHandle" ∧ (parseMethodDescriptor Z.1.desc).map (fun d => d.parameters.length) = some n) ∧ Z.2.2.2.2.cells = 0 ∧ Z.2.2.2.2.slots = 0
def fr_mS (Z : fr_Y) (n : Nat) : Prop := Cond.static Z.1 ∈ fr_tb ∧ Cond.initialized Z.1.cls ∈ fr_tb ∧ Cond.code Z.1 Z.2.1 Z.2.2.1 Z.2.2.2.1 ∈ fr_tb ∧
  (Z.1.cls ≠ "java/lang/invoke/MethodHandle" ∧ Z.1.cls ≠ "java/lang/invoke/VarHandle" ∧ (parseMethodDescriptor Z.1.desc).map (fun d => d.parameters.length) = some n) ∧ Z.2.2.2.2.cells = 0 ∧ Z.2.2.2.2.slots = 0
/-- a callee's room in its caller's -/
def fr_rm (Y Z : fr_Y) : Prop := Z.2.2.2.2.frames + 1 ≤ Y.2.2.2.2.frames ∧ 8 + (Z.2.2.1 + 11) + Z.2.2.2.2.locals ≤ Y.2.2.2.2.locals
theorem fr_goodY {Z : fr_Y} (h : Cond.code Z.1 Z.2.1 Z.2.2.1 Z.2.2.2.1 ∈ fr_tb) : GoodIn fr_tb (fr_yw Z) := fun w hw => by
  rcases List.mem_cons.mp hw with rfl | hw
  · exact fr_good _ h
  · exact fr_good _ hw
/-- behind a call -/
theorem fr_back {p : Program} {l : Launch} {e : Env} {R : Room} {s : State} {m : MethodId} {args : Array Value} {below : List Frame} {meth : Method} {c : Code} {H : Heap} {locs : List Loc} {cells slots : Nat} {Q : State → Prop} {pc : Nat} {ls : Array Slot} {rest st0 : List Value} {a : Array Value} {A : Nat → Prop} {H0 : Heap} {G : fr_G} {v : Option Value} {M' : fr_M}
    (hr : va_Run p l e R s m args below meth c H locs cells slots 0 0 (F0 m pc ls st0) rest (fr_Qc G v M' a) (fr_A G)) (hS : va_S A H0 H locs) (hA : ∀ q, fr_A G q → A q)
    (kk : ∀ (H1 : Heap) (locs1 : List Loc), va_P (fr_gD G) fr_cl (fr_ws G M') H1 → va_S A H0 H1 locs1 → W p l e R s m args below meth c H1 locs1 cells slots Q (F0 m (pc + 3) ls ((v.map (fr_v G)).toList ++ rest))) : W p l e R s m args below meth c H locs cells slots Q (F0 m pc ls st0) := by
  intro T hT X
  obtain ⟨v', st₀, t, T', L, h0, X', hL, e1, e2, ⟨hv, hp, hz, hk⟩, st⟩ := hr T hT X
  cases hv
  rw [h0] at hz hk
  obtain ⟨t2, a1, b1⟩ := kk T'.heap (locs ++ L) (by rw [e1]; exact hp)
    ⟨Nat.le_trans hS.1 (by rw [e1]; exact hz), fun q h1 h2 => by rw [e1, hk q (Nat.lt_of_lt_of_le h1 hS.1) (fun z => h2 (hA q z))]; exact hS.2.1 q h1 h2, fun q hq => by
      rcases List.mem_append.mp hq with h | h
      · exact hS.2.2 q h
      · exact hA _ (hL q h)⟩ T' rfl X'
  exact ⟨t2, st t2 a1, b1⟩
theorem fr_blind {G : fr_G} {av : List Value} {M : fr_M} : FrameBlind (fr_Pc G av M) := fun a U g mk h =>
  ⟨h.1, h.2.1, va_K.moved (u := U) (U := U.calling g mk a) (Vm.Alike.refl U.vm) h.2.2.1, h.2.2.2.1, fr_St.moved (u := U) (U := U.calling g mk a) (Vm.Alike.refl U.vm) h.2.2.2.2.1, fr_Nw.same (u := U) (U := U.calling g mk a) rfl h.2.2.2.2.2⟩
/-- the world at a callee's entry -/
theorem fr_there {G : fr_G} {A : Nat → Prop} {s U : State} {H : Heap} {locs : List Loc} (hP : va_P (fr_gD G) fr_cl (fr_ws G M) H) (hS : va_S A s.heap H locs) (hK : va_K (fr_gD G) fr_cl (fr_ty G) s) (hD : va_D A (fr_ws G M)) (hSt : fr_St G A s s.heap) (hNw : fr_Nw s) (hA : ∀ q, fr_A G q → A q) (hU : U.heap = H) (hW : s.WarmedH U.vm) : fr_U G M U :=
  ⟨by rw [hU]; exact hP, va_K.moved hW.alike hK, hD.weaken (fun _ _ _ _ => trivial), by
    rw [hU]
    exact ((hSt.kept (fun a h1 h2 => hS.2.1 a h1 h2)).moved hW.alike).narrow hA, hNw.warm hW⟩
theorem fr_sub {G : fr_G} {A : Nat → Prop} (hD : va_D A (fr_ws G M)) : ∀ q, fr_A G q → A q := fun q ⟨k, hk, e⟩ => by
  rw [e]
  exact hD.2 k _ (fr_ws_at hk)
theorem fr_callV {Z : fr_Y} {idx n b ci : Nat} {fs : List (Option Nat)} {As rest st : List Value} {v : Option Value} (F : fr_F Y K) (hd : decode Y.2.1 pc = .ok (.invokevirtual idx, 3)) (hq : pc + 3 = q) (hM : fr_Met (fr_kl K) (fr_kG K) Z (.ref b :: As) M v M') (hw : Cond.methodLink Y.1.cls idx Z.1 ∈ fr_tb) (hm : fr_mV Z n ci) (hR : fr_rm Y Z) (hb : b < 67) (hs : fr_sh b = .inl (ci, fs)) (hn : As.length = n) (hst : st = As.reverse ++ .ref b :: rest) (hr : (rest.map fun v => v.category).sum ≤ 8) (kk : fr_V Y K q L (v.toList ++ rest) M') : fr_V Y K pc L st M := by
  subst hq; subst hst
  obtain ⟨p, l, e, R, s, m, args, below, meth, c, cells, slots, Q, G, A⟩ := K
  intro H locs ls hP hS hl
  obtain ⟨hx, hb', hml, hown, hts, hRe, hcs, hK, hD, hSt, hNw⟩ := F
  obtain ⟨⟨T, N, hcl⟩, hi, hse, hini, hco, hde, hrc, hrs⟩ := hm
  have hA := fr_sub (hD M)
  have hcb : CallB R s args Y.1.cls idx Z.1 Z.2.1 Z.2.2.1 Z.2.2.2.1 (fr_yw Z) Z.2.2.2.2 0 0 n := callB_of n hts (fr_goodY hco) rfl hrc hrs (hts _ hini) (hts _ hw) hde (by rw [hRe]; exact hR)
  have hws : (fr_ws G M)[b]? = some (fr_ad G b, .inr (ci, fr_fs G fs (fr_ct M b))) := by rw [fr_ws_at hb, hs]; rfl
  refine fr_back (va_runV (As := As.map (fr_v G)) (rest := rest.map (fr_v G)) (b := fr_ad G b) (C := Z.1.cls) ⟨hx, hb', hml, hown, hts⟩ hM ⟨hcb, hts _ hi, hts _ hse⟩ ⟨fr_blind, va_recv hK hP hcl hws, fun U hU hW => ⟨rfl, fr_there hP hS hK (hD M) hSt hNw hA hU hW⟩⟩ rfl (by rw [List.length_map]; exact hn) hl.1 (by simp [fr_kG, fr_v]) (lv_room (by rw [fr_sum]; exact hr)) hd ⟨hcs.1, hcs.2⟩) hS hA (fun H1 locs1 hP1 hS1 => ?_)
  have := kk H1 locs1 ls hP1 hS1 hl
  cases v with
  | none => exact this
  | some w => exact this
theorem fr_callS {Z : fr_Y} {idx n : Nat} {As rest st : List Value} {v : Option Value} (F : fr_F Y K) (hd : decode Y.2.1 pc = .ok (.invokestatic idx, 3)) (hq : pc + 3 = q) (hM : fr_Met (fr_kl K) (fr_kG K) Z As M v M') (hw : Cond.methodLink Y.1.cls idx Z.1 ∈ fr_tb) (hm : fr_mS Z n) (hR : fr_rm Y Z) (hn : As.length = n) (hst : st = As.reverse ++ rest) (hr : (rest.map fun v => v.category).sum ≤ 8) (kk : fr_V Y K q L (v.toList ++ rest) M') : fr_V Y K pc L st M := by
  subst hq; subst hst
  obtain ⟨p, l, e, R, s, m, args, below, meth, c, cells, slots, Q, G, A⟩ := K
  intro H locs ls hP hS hl
  obtain ⟨hx, hb', hml, hown, hts, hRe, hcs, hK, hD, hSt, hNw⟩ := F
  obtain ⟨hi, hini, hco, hde, hrc, hrs⟩ := hm
  have hA := fr_sub (hD M)
  have hcb : CallB R s args Y.1.cls idx Z.1 Z.2.1 Z.2.2.1 Z.2.2.2.1 (fr_yw Z) Z.2.2.2.2 0 0 n := callB_of n hts (fr_goodY hco) rfl hrc hrs (hts _ hini) (hts _ hw) hde (by rw [hRe]; exact hR)
  refine fr_back (va_runS (As := As.map (fr_v G)) (rest := rest.map (fr_v G)) ⟨hx, hb', hml, hown, hts⟩ hM ⟨hcb, hts _ hi⟩ ⟨fr_blind, fun U hU hW => ⟨rfl, fr_there hP hS hK (hD M) hSt hNw hA hU hW⟩⟩ rfl (by rw [List.length_map]; exact hn) hl.1 (by simp [fr_kG]) (lv_room (by rw [fr_sum]; exact hr)) hd ⟨hcs.1, hcs.2⟩) hS hA (fun H1 locs1 hP1 hS1 => ?_)
  have := kk H1 locs1 ls hP1 hS1 hl
  cases v with
  | none => exact this
  | some w => exact this
/-- the class's 'within' from a nest mate -/
theorem fr_callN {Z : fr_Y} {idx n : Nat} {As rest st : List Value} {v : Option Value} (F : fr_F Y K) (hd : decode Y.2.1 pc = .ok (.invokestatic idx, 3)) (hq : pc + 3 = q) (hM : fr_Met (fr_kl K) (fr_kG K) Z As M v M') (hZ : Z.1 = yX7_within) (hw : (Y.1.cls, idx) ∈ fr_nm) (hm : fr_mS Z n) (hR : fr_rm Y Z) (hn : As.length = n) (hst : st = As.reverse ++ rest) (hr : (rest.map fun v => v.category).sum ≤ 8) (kk : fr_V Y K q L (v.toList ++ rest) M') : fr_V Y K pc L st M := by
  subst hq; subst hst
  obtain ⟨p, l, e, R, s, m, args, below, meth, c, cells, slots, Q, G, A⟩ := K
  intro H locs ls hP hS hl
  obtain ⟨hx, hb', hml, hown, hts, hRe, hcs, hK, hD, hSt, hNw⟩ := F
  obtain ⟨hi, hini, hco, hde, hrc, hrs⟩ := hm
  have hA := fr_sub (hD M)
  have hnw : va_Nw (.methodLinkNest Y.1.cls idx Z.1 RX7) s := by rw [hZ]; exact hNw.1 _ hw
  have hcn : va_CN R s args Y.1.cls idx Z.1 RX7 Z.2.1 Z.2.2.1 Z.2.2.2.1 (fr_yw Z) Z.2.2.2.2 0 0 n := va_cnB n hts (fr_goodY hco) rfl hrc hrs hnw (hts _ hini) hde (by rw [hRe]; exact hR)
  refine fr_back (va_runSN (As := As.map (fr_v G)) (rest := rest.map (fr_v G)) ⟨hx, hb', hml, hown, hts⟩ hM ⟨hcn, hts _ hi, trivial⟩ ⟨fr_blind, fun U hU hW => ⟨rfl, fr_there hP hS hK (hD M) hSt hNw hA hU hW⟩⟩ rfl (by rw [List.length_map]; exact hn) hl.1 (by simp [fr_kG]) (lv_room (by rw [fr_sum]; exact hr)) hd ⟨hcs.1, hcs.2⟩) hS hA (fun H1 locs1 hP1 hS1 => ?_)
  have := kk H1 locs1 ls hP1 hS1 hl
  cases v with
  | none => exact this
  | some w => exact this
end FRC
end
